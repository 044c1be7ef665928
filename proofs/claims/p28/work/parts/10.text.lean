set_option maxRecDepth 100000 in
set_option maxHeartbeats 4000000 in
theorem w_X8_isThing (X : Cx) {cI cE : ClassId} (h : Ok X cX8_isThing RX8 1 cI cE 0 0 0) (p0 : Int32) (z : Int) (hz : p0.toInt = z) (hR : ∀ (r : Int32) (u : Unit), ((nI 1 = r) ∧ (0 ≤ z ∧ z < 4) ∧ (True)) ∨ ((nI 0 = r) ∧ (¬ (0 ≤ z ∧ z < 4)) ∧ (True)) → RetI X cX8_isThing 1 0 0 r []) : J X 1 0 0 0 [(0, .int p0)] [] [] := by
  refine J_iload_n h (i := 0) dX8_isThing_0 rfl 0 rfl ?_
  refine T_if_lt h (A := z) 13 dX8_isThing_1 (by decide) (hz) (fun c_1 => ?_) (fun c_1 => ?_)
  · skip
    refine J_iconst h (v := nI 0) dX8_isThing_13 (by decide) ?_
    exact hR (nI 0) () (Or.inr (⟨rfl, (by first | assumption | omega | rfl), trivial⟩)) 14 _ dX8_isThing_14
  · skip
    refine J_iload_n h (i := 0) dX8_isThing_4 rfl 0 rfl ?_
    refine J_iconst h (v := nI 4) dX8_isThing_5 (by decide) ?_
    refine T_icmp_ge h (A := z) (B := 4) 13 dX8_isThing_6 (by decide) (hz) (nI_toInt (by omega)) (fun c_6 => ?_) (fun c_6 => ?_)
    · skip
      refine J_iconst h (v := nI 0) dX8_isThing_13 (by decide) ?_
      exact hR (nI 0) () (Or.inr (⟨rfl, (by first | assumption | omega | rfl), trivial⟩)) 14 _ dX8_isThing_14
    · skip
      refine J_iconst h (v := nI 1) dX8_isThing_9 (by decide) ?_
      refine J_goto h 14 dX8_isThing_10 (by decide) ?_
      exact hR (nI 1) () (Or.inl ⟨rfl, (by first | assumption | omega | rfl), trivial⟩) 14 _ dX8_isThing_14
theorem c_X8_isThing (l : Launch) (D : va_G) (cI cE : ClassId) (p0 : Int32) (z : Int) (hz : p0.toInt = z) : Ci l D cI cE yX8_isThing cX8_isThing 1 (some .boolean) 0 0 0 [.int p0] [] (fun (r : Int32) (u : Unit) => ((nI 1 = r) ∧ (0 ≤ z ∧ z < 4) ∧ (True)) ∨ ((nI 0 = r) ∧ (¬ (0 ≤ z ∧ z < 4)) ∧ (True))) (fun (u : Unit) => ([] : va_W)) :=
  Ci.of (by decide) (Nat.le_of_ble_eq_true rfl) (fun r u hp => by rcases hp with ⟨hp, _⟩ | ⟨hp, _⟩ <;> (rw [← hp]; rfl)) (fun X h hR => w_X8_isThing X h p0 z hz hR)
theorem yv_X8_isThing : YS yX8_isThing cX8_isThing 1 (some .boolean) 1 := ⟨ns_X8_isThing, ni_X8, nk_X8_isThing, by decide +kernel⟩
set_option maxRecDepth 100000 in
set_option maxHeartbeats 4000000 in
theorem w_X8_isSide (X : Cx) {cI cE : ClassId} (h : Ok X cX8_isSide RX8 1 cI cE 0 0 0) (p0 : Int32) (z : Int) (hz : p0.toInt = z) (hR : ∀ (r : Int32) (u : Unit), ((nI 1 = r) ∧ (0 ≤ z ∧ z < 4) ∧ (True)) ∨ ((nI 0 = r) ∧ (¬ (0 ≤ z ∧ z < 4)) ∧ (True)) → RetI X cX8_isSide 1 0 0 r []) : J X 1 0 0 0 [(0, .int p0)] [] [] := by
  refine J_iload_n h (i := 0) dX8_isSide_0 rfl 0 rfl ?_
  refine T_if_lt h (A := z) 13 dX8_isSide_1 (by decide) (hz) (fun c_1 => ?_) (fun c_1 => ?_)
  · skip
    refine J_iconst h (v := nI 0) dX8_isSide_13 (by decide) ?_
    exact hR (nI 0) () (Or.inr (⟨rfl, (by first | assumption | omega | rfl), trivial⟩)) 14 _ dX8_isSide_14
  · skip
    refine J_iload_n h (i := 0) dX8_isSide_4 rfl 0 rfl ?_
    refine J_iconst h (v := nI 4) dX8_isSide_5 (by decide) ?_
    refine T_icmp_ge h (A := z) (B := 4) 13 dX8_isSide_6 (by decide) (hz) (nI_toInt (by omega)) (fun c_6 => ?_) (fun c_6 => ?_)
    · skip
      refine J_iconst h (v := nI 0) dX8_isSide_13 (by decide) ?_
      exact hR (nI 0) () (Or.inr (⟨rfl, (by first | assumption | omega | rfl), trivial⟩)) 14 _ dX8_isSide_14
    · skip
      refine J_iconst h (v := nI 1) dX8_isSide_9 (by decide) ?_
      refine J_goto h 14 dX8_isSide_10 (by decide) ?_
      exact hR (nI 1) () (Or.inl ⟨rfl, (by first | assumption | omega | rfl), trivial⟩) 14 _ dX8_isSide_14
theorem c_X8_isSide (l : Launch) (D : va_G) (cI cE : ClassId) (p0 : Int32) (z : Int) (hz : p0.toInt = z) : Ci l D cI cE yX8_isSide cX8_isSide 1 (some .boolean) 0 0 0 [.int p0] [] (fun (r : Int32) (u : Unit) => ((nI 1 = r) ∧ (0 ≤ z ∧ z < 4) ∧ (True)) ∨ ((nI 0 = r) ∧ (¬ (0 ≤ z ∧ z < 4)) ∧ (True))) (fun (u : Unit) => ([] : va_W)) :=
  Ci.of (by decide) (Nat.le_of_ble_eq_true rfl) (fun r u hp => by rcases hp with ⟨hp, _⟩ | ⟨hp, _⟩ <;> (rw [← hp]; rfl)) (fun X h hR => w_X8_isSide X h p0 z hz hR)
theorem yv_X8_isSide : YS yX8_isSide cX8_isSide 1 (some .boolean) 1 := ⟨ns_X8_isSide, ni_X8, nk_X8_isSide, by decide +kernel⟩
set_option maxRecDepth 100000 in
set_option maxHeartbeats 4000000 in
theorem w_X7_isFigure (X : Cx) {cI cE : ClassId} (h : Ok X cX7_isFigure RX7 1 cI cE 0 0 0) (p0 : Nat) (hp0 : p0 < 2147483648) (hR : ∀ (r : Int32) (u : Unit), ((nI 1 = r) ∧ (48 ≤ p0 ∧ p0 ≤ 57) ∧ (True)) ∨ ((nI 0 = r) ∧ (¬ (48 ≤ p0 ∧ p0 ≤ 57)) ∧ (True)) → RetI X cX7_isFigure 1 0 0 r []) : J X 1 0 0 0 [(0, .int (nI p0))] [] [] := by
  refine J_iload_n h (i := 0) dX7_isFigure_0 rfl 0 rfl ?_
  refine J_bipush h (v := nI 48) dX7_isFigure_1 (by decide) ?_
  refine N_icmp_lt h 16 dX7_isFigure_3 (by decide) (by omega) (by omega) (fun c_3 => ?_) (fun c_3 => ?_)
  · skip
    refine J_iconst h (v := nI 0) dX7_isFigure_16 (by decide) ?_
    exact hR (nI 0) () (Or.inr (⟨rfl, (by first | assumption | omega | rfl), trivial⟩)) 17 _ dX7_isFigure_17
  · skip
    refine J_iload_n h (i := 0) dX7_isFigure_6 rfl 0 rfl ?_
    refine J_bipush h (v := nI 57) dX7_isFigure_7 (by decide) ?_
    refine N_icmp_gt h 16 dX7_isFigure_9 (by decide) (by omega) (by omega) (fun c_9 => ?_) (fun c_9 => ?_)
    · skip
      refine J_iconst h (v := nI 0) dX7_isFigure_16 (by decide) ?_
      exact hR (nI 0) () (Or.inr (⟨rfl, (by first | assumption | omega | rfl), trivial⟩)) 17 _ dX7_isFigure_17
    · skip
      refine J_iconst h (v := nI 1) dX7_isFigure_12 (by decide) ?_
      refine J_goto h 17 dX7_isFigure_13 (by decide) ?_
      exact hR (nI 1) () (Or.inl ⟨rfl, (by first | assumption | omega | rfl), trivial⟩) 17 _ dX7_isFigure_17
theorem c_X7_isFigure (l : Launch) (D : va_G) (cI cE : ClassId) (p0 : Nat) (hp0 : p0 < 2147483648) : Ci l D cI cE yX7_isFigure cX7_isFigure 1 (some .boolean) 0 0 0 [.int (nI p0)] [] (fun (r : Int32) (u : Unit) => ((nI 1 = r) ∧ (48 ≤ p0 ∧ p0 ≤ 57) ∧ (True)) ∨ ((nI 0 = r) ∧ (¬ (48 ≤ p0 ∧ p0 ≤ 57)) ∧ (True))) (fun (u : Unit) => ([] : va_W)) :=
  Ci.of (by decide) (Nat.le_of_ble_eq_true rfl) (fun r u hp => by rcases hp with ⟨hp, _⟩ | ⟨hp, _⟩ <;> (rw [← hp]; rfl)) (fun X h hR => w_X7_isFigure X h p0 hp0 hR)
theorem yv_X7_isFigure : YS yX7_isFigure cX7_isFigure 1 (some .boolean) 1 := ⟨ns_X7_isFigure, ni_X7, nk_X7_isFigure, by decide +kernel⟩
set_option maxRecDepth 100000 in
set_option maxHeartbeats 4000000 in
theorem w_X7_append (X : Cx) {cI cE : ClassId} (h : Ok X cX7_append RX7 2 cI cE 0 0 0) (g0 : Nat) (g1 : Nat) (lx : Nat → Nat) (tn : Nat) (p0 : Nat) (hlx : ∀ j, lx j ≤ 126) (htn : tn ≤ 200) (hR : ∀ (r : Int32) (u : (Nat → Nat) × (Nat)), ((nI 1 = r) ∧ (tn < 200) ∧ ((va_up lx tn p0) = u.1) ∧ ((tn + 1) = u.2) ∧ (True)) ∨ ((nI 0 = r) ∧ (tn = 200) ∧ ((lx) = u.1) ∧ ((tn) = u.2) ∧ (True)) → RetI X cX7_append 2 0 0 r [(g0, .inr (7, [.ref g1, .int (nI u.2)])), (g1, .inl (cI, 200, .inl (nA u.1)))]) : J X 2 0 0 0 [(0, .ref g0), (1, .int (nI p0))] [] [(g0, .inr (7, [.ref g1, .int (nI tn)])), (g1, .inl (cI, 200, .inl (nA lx)))] := by
  refine J_aload_n h (i := 0) dX7_append_0 rfl 0 rfl ?_
  refine J_get h inX7 rfl 0 1 (by decide) rfl rfl nf_X7_15 dX7_append_1 ?_
  refine N_if_lt h 19 dX7_append_4 (by decide) (by omega) ?_
  refine J_aload_n h (i := 0) dX7_append_7 rfl 0 rfl ?_
  refine J_get h inX7 rfl 0 1 (by decide) rfl rfl nf_X7_15 dX7_append_8 ?_
  refine J_aload_n h (i := 0) dX7_append_11 rfl 0 rfl ?_
  refine J_get h inX7 rfl 0 0 (by decide) rfl rfl nf_X7_9 dX7_append_12 ?_
  refine J_alen h 1 rfl dX7_append_15 ?_
  refine N_icmp_lt h 21 dX7_append_16 (by decide) (by omega) (by omega) (fun c_16 => ?_) (fun c_16 => ?_)
  · skip
    refine J_aload_n h (i := 0) dX7_append_21 rfl 0 rfl ?_
    refine J_get h inX7 rfl 0 0 (by decide) rfl rfl nf_X7_9 dX7_append_22 ?_
    refine J_aload_n h (i := 0) dX7_append_25 rfl 0 rfl ?_
    refine J_get h inX7 rfl 0 1 (by decide) rfl rfl nf_X7_15 dX7_append_26 ?_
    refine J_iload_n h (i := 1) dX7_append_29 rfl 1 rfl ?_
    refine N_iast h (ws' := [(g0, .inr (7, [.ref g1, .int (nI tn)])), (g1, .inl (cI, 200, .inl (upd (nA lx) tn (nI p0))))]) 1 rfl (by decide) (by omega) dX7_append_30 rfl ?_
    refine J_eqw (ws' := [(g0, .inr (7, [.ref g1, .int (nI tn)])), (g1, .inl (cI, 200, .inl (nA (va_up lx tn p0))))]) (by rw [upd_nA]) ?_
    refine J_aload_n h (i := 0) dX7_append_31 rfl 0 rfl ?_
    refine J_dup h dX7_append_32 rfl ?_
    refine J_get h inX7 rfl 0 1 (by decide) rfl rfl nf_X7_15 dX7_append_33 ?_
    refine J_iconst h (v := nI 1) dX7_append_36 (by decide) ?_
    refine N_iadd h dX7_append_37 ?_
    refine J_put h (ws' := [(g0, .inr (7, [.ref g1, .int (nI (tn + 1))])), (g1, .inl (cI, 200, .inl (nA (va_up lx tn p0))))]) inX7 tyX7 tyX7_ok nmX7 rfl 0 1 (by decide) rfl nf_X7_15 rfl rfl rfl rfl (Nat.le_of_ble_eq_true rfl) dX7_append_38 rfl ?_
    refine J_iconst h (v := nI 1) dX7_append_41 (by decide) ?_
    exact hR (nI 1) (va_up lx tn p0, tn + 1) (Or.inl ⟨rfl, (by (try dsimp only); first | assumption | omega | rfl), (by first | rfl | ((try dsimp only); first | assumption | omega | rfl)), (by first | rfl | ((try dsimp only); first | assumption | omega | rfl)), trivial⟩) 42 _ dX7_append_42
  · skip
    refine J_iconst h (v := nI 0) dX7_append_19 (by decide) ?_
    exact hR (nI 0) (lx, tn) (Or.inr (⟨rfl, (by (try dsimp only); first | assumption | omega | rfl), (by first | rfl | ((try dsimp only); first | assumption | omega | rfl)), (by first | rfl | ((try dsimp only); first | assumption | omega | rfl)), trivial⟩)) 20 _ dX7_append_20
theorem c_X7_append (l : Launch) (D : va_G) (cI cE : ClassId) (g0 : Nat) (g1 : Nat) (lx : Nat → Nat) (tn : Nat) (p0 : Nat) (hlx : ∀ j, lx j ≤ 126) (htn : tn ≤ 200) : Ci l D cI cE yX7_append cX7_append 2 (some .boolean) 0 0 0 [.ref g0, .int (nI p0)] [(g0, .inr (7, [.ref g1, .int (nI tn)])), (g1, .inl (cI, 200, .inl (nA lx)))] (fun (r : Int32) (u : (Nat → Nat) × (Nat)) => ((nI 1 = r) ∧ (tn < 200) ∧ ((va_up lx tn p0) = u.1) ∧ ((tn + 1) = u.2) ∧ (True)) ∨ ((nI 0 = r) ∧ (tn = 200) ∧ ((lx) = u.1) ∧ ((tn) = u.2) ∧ (True))) (fun (u : (Nat → Nat) × (Nat)) => ([(g0, .inr (7, [.ref g1, .int (nI u.2)])), (g1, .inl (cI, 200, .inl (nA u.1)))] : va_W)) :=
  Ci.of (by decide) (Nat.le_of_ble_eq_true rfl) (fun r u hp => by rcases hp with ⟨hp, _⟩ | ⟨hp, _⟩ <;> (rw [← hp]; rfl)) (fun X h hR => w_X7_append X h g0 g1 lx tn p0 hlx htn hR)
theorem yv_X7_append : YV yX7_append cX7_append 2 (some .boolean) 1 := ⟨no_X7_append, nv_X7_append, ni_X7, nk_X7_append, by decide +kernel⟩
set_option maxRecDepth 100000 in
set_option maxHeartbeats 4000000 in
theorem w_X7_clear (X : Cx) {cI cE : ClassId} (h : Ok X cX7_clear RX7 1 cI cE 0 0 0) (g0 : Nat) (g1 : Nat) (lx : Nat → Nat) (tn : Nat)  (hR : ∀ (u : Unit), ((True)) → RetV X cX7_clear 1 0 0 [(g0, .inr (7, [.ref g1, .int (nI 0)])), (g1, .inl (cI, 200, .inl (nA lx)))]) : J X 1 0 0 0 [(0, .ref g0)] [] [(g0, .inr (7, [.ref g1, .int (nI tn)])), (g1, .inl (cI, 200, .inl (nA lx)))] := by
  refine J_aload_n h (i := 0) dX7_clear_0 rfl 0 rfl ?_
  refine J_iconst h (v := nI 0) dX7_clear_1 (by decide) ?_
  refine J_put h (ws' := [(g0, .inr (7, [.ref g1, .int (nI 0)])), (g1, .inl (cI, 200, .inl (nA lx)))]) inX7 tyX7 tyX7_ok nmX7 rfl 0 1 (by decide) rfl nf_X7_15 rfl rfl rfl rfl (Nat.le_of_ble_eq_true rfl) dX7_clear_2 rfl ?_
  exact hR () (trivial) 5 _ dX7_clear_5
theorem c_X7_clear (l : Launch) (D : va_G) (cI cE : ClassId) (g0 : Nat) (g1 : Nat) (lx : Nat → Nat) (tn : Nat)  : Cv l D cI cE yX7_clear cX7_clear 1 none 0 0 0 [.ref g0] [(g0, .inr (7, [.ref g1, .int (nI tn)])), (g1, .inl (cI, 200, .inl (nA lx)))] (fun (u : Unit) => ((True))) (fun (u : Unit) => ([(g0, .inr (7, [.ref g1, .int (nI 0)])), (g1, .inl (cI, 200, .inl (nA lx)))] : va_W)) :=
  Cv.of (by decide) (Nat.le_of_ble_eq_true rfl) (fun X h hR _ => w_X7_clear X h g0 g1 lx tn hR)
theorem yv_X7_clear : YV yX7_clear cX7_clear 1 none 0 := ⟨no_X7_clear, nv_X7_clear, ni_X7, nk_X7_clear, by decide +kernel⟩
set_option maxRecDepth 100000 in
set_option maxHeartbeats 4000000 in
theorem w_X7_letterAt (X : Cx) {cI cE : ClassId} (h : Ok X cX7_letterAt RX7 2 cI cE 0 0 0) (g0 : Nat) (g1 : Nat) (lx : Nat → Nat) (tn : Nat) (p0 : Nat) (hlx : ∀ j, lx j ≤ 126) (htn : tn ≤ 200) (hp0 : p0 < 2147483648) (hR : ∀ (r : Int32) (u : Unit), ((nI (ltr lx tn p0) = r) ∧ (True)) → RetI X cX7_letterAt 2 0 0 r [(g0, .inr (7, [.ref g1, .int (nI tn)])), (g1, .inl (cI, 200, .inl (nA lx)))]) : J X 2 0 0 0 [(0, .ref g0), (1, .int (nI p0))] [] [(g0, .inr (7, [.ref g1, .int (nI tn)])), (g1, .inl (cI, 200, .inl (nA lx)))] := by
  refine J_iload_n h (i := 1) dX7_letterAt_0 rfl 1 rfl ?_
  refine N_if_lt h 21 dX7_letterAt_1 (by decide) (by omega) ?_
  refine J_iload_n h (i := 1) dX7_letterAt_4 rfl 1 rfl ?_
  refine J_aload_n h (i := 0) dX7_letterAt_5 rfl 0 rfl ?_
  refine J_get h inX7 rfl 0 1 (by decide) rfl rfl nf_X7_15 dX7_letterAt_6 ?_
  refine N_icmp_ge h 21 dX7_letterAt_9 (by decide) (by omega) (by omega) (fun c_9 => ?_) (fun c_9 => ?_)
  · skip
    refine J_iconst h (v := nI 0) dX7_letterAt_21 (by decide) ?_
    exact hR (nI 0) () (⟨(by unfold ltr; rw [if_neg (by omega)]), trivial⟩) 22 _ dX7_letterAt_22
  · skip
    refine J_iload_n h (i := 1) dX7_letterAt_12 rfl 1 rfl ?_
    refine J_aload_n h (i := 0) dX7_letterAt_13 rfl 0 rfl ?_
    refine J_get h inX7 rfl 0 0 (by decide) rfl rfl nf_X7_9 dX7_letterAt_14 ?_
    refine J_alen h 1 rfl dX7_letterAt_17 ?_
    refine N_icmp_lt h 23 dX7_letterAt_18 (by decide) (by omega) (by omega) (fun c_18 => ?_) (fun c_18 => absurd c_18 (by omega))
    refine J_aload_n h (i := 0) dX7_letterAt_23 rfl 0 rfl ?_
    refine J_get h inX7 rfl 0 0 (by decide) rfl rfl nf_X7_9 dX7_letterAt_24 ?_
    refine J_iload_n h (i := 1) dX7_letterAt_27 rfl 1 rfl ?_
    refine N_iald h 1 rfl (by decide) (by omega) dX7_letterAt_28 ?_
    exact hR ((nA lx) p0) () (⟨(by unfold ltr; rw [if_pos (by omega)]; rfl), trivial⟩) 29 _ dX7_letterAt_29
theorem c_X7_letterAt (l : Launch) (D : va_G) (cI cE : ClassId) (g0 : Nat) (g1 : Nat) (lx : Nat → Nat) (tn : Nat) (p0 : Nat) (hlx : ∀ j, lx j ≤ 126) (htn : tn ≤ 200) (hp0 : p0 < 2147483648) : Ci l D cI cE yX7_letterAt cX7_letterAt 2 (some .int) 0 0 0 [.ref g0, .int (nI p0)] [(g0, .inr (7, [.ref g1, .int (nI tn)])), (g1, .inl (cI, 200, .inl (nA lx)))] (fun (r : Int32) (u : Unit) => ((nI (ltr lx tn p0) = r) ∧ (True))) (fun (u : Unit) => ([(g0, .inr (7, [.ref g1, .int (nI tn)])), (g1, .inl (cI, 200, .inl (nA lx)))] : va_W)) :=
  Ci.of (by decide) (Nat.le_of_ble_eq_true rfl) (fun _ _ _ => rfl) (fun X h hR => w_X7_letterAt X h g0 g1 lx tn p0 hlx htn hp0 hR)
theorem yv_X7_letterAt : YV yX7_letterAt cX7_letterAt 2 (some .int) 1 := ⟨no_X7_letterAt, nv_X7_letterAt, ni_X7, nk_X7_letterAt, by decide +kernel⟩
set_option maxRecDepth 100000 in
set_option maxHeartbeats 4000000 in
theorem w_X7_behindNumber (X : Cx) {cI cE : ClassId} (h : Ok X cX7_behindNumber RX7 2 cI cE 1 0 0) (g0 : Nat) (g1 : Nat) (lx : Nat → Nat) (tn : Nat) (p0 : Nat) (hlx : ∀ j, lx j ≤ 126) (htn : tn ≤ 200) (hp0 : p0 < 100000) (hR : ∀ (r : Int32) (u : Unit), ((nI (bnm lx tn p0) = r) ∧ (True)) → RetI X cX7_behindNumber 2 0 0 r [(g0, .inr (7, [.ref g1, .int (nI tn)])), (g1, .inl (cI, 200, .inl (nA lx)))]) : J X 2 0 0 0 [(0, .ref g0), (1, .int (nI p0))] [] [(g0, .inr (7, [.ref g1, .int (nI tn)])), (g1, .inl (cI, 200, .inl (nA lx)))] := by
  have hl0 := ltr_le hlx tn p0
  have hl1 := ltr_le hlx tn (p0 + 1)
  refine J_aload_n h (i := 0) dX7_behindNumber_0 rfl 0 rfl ?_
  refine J_iload_n h (i := 1) dX7_behindNumber_1 rfl 1 rfl ?_
  refine K_vi h (wr := []) (c_X7_letterAt (xl X) (xD X) cI cE g0 g1 lx tn p0 (by first | exact hlx |  assumption | omega | rfl) (by first | exact htn |  assumption | omega | rfl) (by first | exact hp0 |  assumption | omega | rfl)) yv_X7_letterAt nm_X7_28 (by decide) (by decide) rfl rfl 0 rfl rfl rfl rfl (Nat.le_of_ble_eq_true rfl) (Nat.le_refl _) (Nat.le_refl _) dX7_behindNumber_2 (fun r_2 u_2 p_2 => ?_)
  obtain ⟨rfl, -⟩ := p_2
  show J X 2 0 0 5 [(0, .ref g0), (1, .int (nI p0))] [.int (nI (ltr lx tn p0))] [(g0, .inr (7, [.ref g1, .int (nI tn)])), (g1, .inl (cI, 200, .inl (nA lx)))]
  refine K_si h (wr := [(g0, .inr (7, [.ref g1, .int (nI tn)])), (g1, .inl (cI, 200, .inl (nA lx)))]) (c_X7_isFigure (xl X) (xD X) cI cE (ltr lx tn p0) (by first | exact hp0 |  assumption | omega | rfl)) yv_X7_isFigure nm_X7_69 (by decide) (by decide) rfl rfl rfl (Nat.le_of_ble_eq_true rfl) (Nat.le_refl _) (Nat.le_refl _) dX7_behindNumber_5 (fun r_5 u_5 p_5 => ?_)
  rcases p_5 with p_5 | p_5
  · obtain ⟨rfl, f0_5, -⟩ := p_5
    show J X 2 0 0 8 [(0, .ref g0), (1, .int (nI p0))] [.int (nI 1)] [(g0, .inr (7, [.ref g1, .int (nI tn)])), (g1, .inl (cI, 200, .inl (nA lx)))]
    refine J_if_ne h 13 dX7_behindNumber_8 (by decide) (fun _ => ?_) (fun z => absurd z (by decide))
    refine J_aload_n h (i := 0) dX7_behindNumber_13 rfl 0 rfl ?_
    refine J_iload_n h (i := 1) dX7_behindNumber_14 rfl 1 rfl ?_
    refine J_iconst h (v := nI 1) dX7_behindNumber_15 (by decide) ?_
    refine N_iadd h dX7_behindNumber_16 ?_
    refine K_vi h (wr := []) (c_X7_letterAt (xl X) (xD X) cI cE g0 g1 lx tn (p0 + 1) (by first | exact hlx |  assumption | omega | rfl) (by first | exact htn |  assumption | omega | rfl) (by first | exact hp0 |  assumption | omega | rfl)) yv_X7_letterAt nm_X7_28 (by decide) (by decide) rfl rfl 0 rfl rfl rfl rfl (Nat.le_of_ble_eq_true rfl) (Nat.le_refl _) (Nat.le_refl _) dX7_behindNumber_17 (fun r_17 u_17 p_17 => ?_)
    obtain ⟨rfl, -⟩ := p_17
    show J X 2 0 0 20 [(0, .ref g0), (1, .int (nI p0))] [.int (nI (ltr lx tn (p0 + 1)))] [(g0, .inr (7, [.ref g1, .int (nI tn)])), (g1, .inl (cI, 200, .inl (nA lx)))]
    refine K_si h (wr := [(g0, .inr (7, [.ref g1, .int (nI tn)])), (g1, .inl (cI, 200, .inl (nA lx)))]) (c_X7_isFigure (xl X) (xD X) cI cE (ltr lx tn (p0 + 1)) (by first | exact hp0 |  assumption | omega | rfl)) yv_X7_isFigure nm_X7_69 (by decide) (by decide) rfl rfl rfl (Nat.le_of_ble_eq_true rfl) (Nat.le_refl _) (Nat.le_refl _) dX7_behindNumber_20 (fun r_20 u_20 p_20 => ?_)
    rcases p_20 with p_20 | p_20
    · obtain ⟨rfl, f0_20, -⟩ := p_20
      show J X 2 0 0 23 [(0, .ref g0), (1, .int (nI p0))] [.int (nI 1)] [(g0, .inr (7, [.ref g1, .int (nI tn)])), (g1, .inl (cI, 200, .inl (nA lx)))]
      refine J_if_eq h 32 dX7_behindNumber_23 (by decide) (fun z => absurd z (by decide)) (fun _ => ?_)
      refine J_iload_n h (i := 1) dX7_behindNumber_26 rfl 1 rfl ?_
      refine J_iconst h (v := nI 2) dX7_behindNumber_27 (by decide) ?_
      refine N_iadd h dX7_behindNumber_28 ?_
      refine J_goto h 35 dX7_behindNumber_29 (by decide) ?_
      exact hR (nI (p0 + 2)) () (⟨(by unfold bnm; first | (rw [if_pos f0_5, if_pos f0_20]; done) | (rw [if_pos f0_5, if_neg f0_20]; done)), trivial⟩) 35 _ dX7_behindNumber_35
    · obtain ⟨rfl, f0_20, -⟩ := p_20
      show J X 2 0 0 23 [(0, .ref g0), (1, .int (nI p0))] [.int (nI 0)] [(g0, .inr (7, [.ref g1, .int (nI tn)])), (g1, .inl (cI, 200, .inl (nA lx)))]
      refine J_if_eq h 32 dX7_behindNumber_23 (by decide) (fun _ => ?_) (fun z => absurd z (by decide))
      refine J_iload_n h (i := 1) dX7_behindNumber_32 rfl 1 rfl ?_
      refine J_iconst h (v := nI 1) dX7_behindNumber_33 (by decide) ?_
      refine N_iadd h dX7_behindNumber_34 ?_
      exact hR (nI (p0 + 1)) () (⟨(by unfold bnm; first | (rw [if_pos f0_5, if_pos f0_20]; done) | (rw [if_pos f0_5, if_neg f0_20]; done)), trivial⟩) 35 _ dX7_behindNumber_35
  · obtain ⟨rfl, f0_5, -⟩ := p_5
    show J X 2 0 0 8 [(0, .ref g0), (1, .int (nI p0))] [.int (nI 0)] [(g0, .inr (7, [.ref g1, .int (nI tn)])), (g1, .inl (cI, 200, .inl (nA lx)))]
    refine J_if_ne h 13 dX7_behindNumber_8 (by decide) (fun z => absurd z (by decide)) (fun _ => ?_)
    refine J_iload_n h (i := 1) dX7_behindNumber_11 rfl 1 rfl ?_
    exact hR (nI p0) () (⟨(by unfold bnm; rw [if_neg f0_5]), trivial⟩) 12 _ dX7_behindNumber_12
theorem c_X7_behindNumber (l : Launch) (D : va_G) (cI cE : ClassId) (g0 : Nat) (g1 : Nat) (lx : Nat → Nat) (tn : Nat) (p0 : Nat) (hlx : ∀ j, lx j ≤ 126) (htn : tn ≤ 200) (hp0 : p0 < 100000) : Ci l D cI cE yX7_behindNumber cX7_behindNumber 2 (some .int) 1 0 0 [.ref g0, .int (nI p0)] [(g0, .inr (7, [.ref g1, .int (nI tn)])), (g1, .inl (cI, 200, .inl (nA lx)))] (fun (r : Int32) (u : Unit) => ((nI (bnm lx tn p0) = r) ∧ (True))) (fun (u : Unit) => ([(g0, .inr (7, [.ref g1, .int (nI tn)])), (g1, .inl (cI, 200, .inl (nA lx)))] : va_W)) :=
  Ci.of (by decide) (Nat.le_of_ble_eq_true rfl) (fun _ _ _ => rfl) (fun X h hR => w_X7_behindNumber X h g0 g1 lx tn p0 hlx htn hp0 hR)
theorem yv_X7_behindNumber : YV yX7_behindNumber cX7_behindNumber 2 (some .int) 1 := ⟨no_X7_behindNumber, nv_X7_behindNumber, ni_X7, nk_X7_behindNumber, by decide +kernel⟩
set_option maxRecDepth 100000 in
set_option maxHeartbeats 4000000 in
theorem w_X7_numberIn_5 (X : Cx) {cI cE : ClassId} (h : Ok X cX7_numberIn RX7 5 cI cE 1 0 0) (g0 : Nat) (g1 : Nat) (lx : Nat → Nat) (tn : Nat) (p0 : Nat) (p1 : Nat) (hlx : ∀ j, lx j ≤ 126) (htn : tn ≤ 200) (hp0 : p0 < 100000) (hp1 : p0 ≤ p1) (hp2 : p1 ≤ p0 + 2) (hf : ∀ k, p0 ≤ k → k < p1 → 48 ≤ ltr lx tn k ∧ ltr lx tn k ≤ 57) (hR : ∀ (r : Int32) (u : Unit), ((nI (nvr lx tn p0 (p1 - p0)) = r) ∧ (True)) → RetI X cX7_numberIn 5 0 0 r [(g0, .inr (7, [.ref g1, .int (nI tn)])), (g1, .inl (cI, 200, .inl (nA lx)))]) : ∀ (n_5 : Nat) (i : Nat) (n : Nat), (p0 + i ≤ p1) → (n = nvr lx tn p0 i) → ((i = 0 ∧ n = 0) ∨ (i = 1 ∧ n ≤ 9) ∨ (i = 2 ∧ n ≤ 99)) → p1 - p0 - i < n_5 → J X 5 0 0 5 [(0, .ref g0), (1, .int (nI p0)), (2, .int (nI p1)), (3, .int (nI n)), (4, .int (nI (p0 + i)))] [] [(g0, .inr (7, [.ref g1, .int (nI tn)])), (g1, .inl (cI, 200, .inl (nA lx)))] := by
  intro n_5
  induction n_5 with
  | zero => intro i n hi hn hb hn_; exact absurd hn_ (Nat.not_lt_zero _)
  | succ n_5 ih_5 =>
    intro i n hi hn hb hn_5
    have hle := ltr_le hlx tn (p0 + i)
    refine J_iload h dX7_numberIn_5 4 rfl ?_
    refine J_iload_n h (i := 2) dX7_numberIn_7 rfl 2 rfl ?_
    refine N_icmp_ge h 32 dX7_numberIn_8 (by decide) (by omega) (by omega) (fun c_8 => ?_) (fun c_8 => ?_)
    · skip
      refine J_iload_n h (i := 3) dX7_numberIn_32 rfl 3 rfl ?_
      exact hR (nI n) () (⟨(by rw [hn, show i = p1 - p0 by omega]), trivial⟩) 33 _ dX7_numberIn_33
    · skip
      have hfi := hf (p0 + i) (by omega) (by omega)
      refine J_bipush h (v := nI 10) dX7_numberIn_11 (by decide) ?_
      refine J_iload_n h (i := 3) dX7_numberIn_13 rfl 3 rfl ?_
      refine N_imul h dX7_numberIn_14 ?_
      refine J_aload_n h (i := 0) dX7_numberIn_15 rfl 0 rfl ?_
      refine J_iload h dX7_numberIn_16 4 rfl ?_
      refine K_vi h (wr := []) (c_X7_letterAt (xl X) (xD X) cI cE g0 g1 lx tn (p0 + i) (by first | exact hlx |  assumption | omega | rfl) (by first | exact htn |  assumption | omega | rfl) (by first | exact hp0 |  assumption | omega | rfl)) yv_X7_letterAt nm_X7_28 (by decide) (by decide) rfl rfl 0 rfl rfl rfl rfl (Nat.le_of_ble_eq_true rfl) (Nat.le_refl _) (Nat.le_refl _) dX7_numberIn_18 (fun r_18 u_18 p_18 => ?_)
      obtain ⟨rfl, -⟩ := p_18
      show J X 5 0 0 21 [(0, .ref g0), (1, .int (nI p0)), (2, .int (nI p1)), (3, .int (nI n)), (4, .int (nI (p0 + i)))] [.int (nI (ltr lx tn (p0 + i))), .int (nI (10 * n))] [(g0, .inr (7, [.ref g1, .int (nI tn)])), (g1, .inl (cI, 200, .inl (nA lx)))]
      refine N_iadd h dX7_numberIn_21 ?_
      refine J_bipush h (v := nI 48) dX7_numberIn_22 (by decide) ?_
      refine N_isub h (by omega) dX7_numberIn_24 ?_
      refine J_istore_n h (i := 3) (lv' := [(3, .int (nI (((10 * n) + (ltr lx tn (p0 + i))) - 48))), (0, .ref g0), (1, .int (nI p0)), (2, .int (nI p1)), (4, .int (nI (p0 + i)))]) dX7_numberIn_25 rfl (by decide) rfl ?_
      refine J_iinc h (v := nI ((p0 + i) + 1)) (lv' := [(4, .int (nI ((p0 + i) + 1))), (3, .int (nI (((10 * n) + (ltr lx tn (p0 + i))) - 48))), (0, .ref g0), (1, .int (nI p0)), (2, .int (nI p1))]) dX7_numberIn_26 4 rfl (inc_ok _ 1) (by decide) rfl ?_
      refine J_goto h 5 dX7_numberIn_29 (by decide) ?_
      refine J.loc [2, 3, 4, 1, 0] (lv' := [(0, .ref g0), (1, .int (nI p0)), (2, .int (nI p1)), (3, .int (nI (((10 * n) + (ltr lx tn (p0 + i))) - 48))), (4, .int (nI ((p0 + i) + 1)))]) rfl ?_
      exact ih_5 (i + 1) (((10 * n) + (ltr lx tn (p0 + i))) - 48) (by first | exact hi |  assumption | omega | rfl) (by rw [hn]; rfl) (by omega) (by omega)
set_option maxRecDepth 100000 in
set_option maxHeartbeats 4000000 in
theorem w_X7_numberIn (X : Cx) {cI cE : ClassId} (h : Ok X cX7_numberIn RX7 5 cI cE 1 0 0) (g0 : Nat) (g1 : Nat) (lx : Nat → Nat) (tn : Nat) (p0 : Nat) (p1 : Nat) (hlx : ∀ j, lx j ≤ 126) (htn : tn ≤ 200) (hp0 : p0 < 100000) (hp1 : p0 ≤ p1) (hp2 : p1 ≤ p0 + 2) (hf : ∀ k, p0 ≤ k → k < p1 → 48 ≤ ltr lx tn k ∧ ltr lx tn k ≤ 57) (hR : ∀ (r : Int32) (u : Unit), ((nI (nvr lx tn p0 (p1 - p0)) = r) ∧ (True)) → RetI X cX7_numberIn 5 0 0 r [(g0, .inr (7, [.ref g1, .int (nI tn)])), (g1, .inl (cI, 200, .inl (nA lx)))]) : J X 5 0 0 0 [(0, .ref g0), (1, .int (nI p0)), (2, .int (nI p1))] [] [(g0, .inr (7, [.ref g1, .int (nI tn)])), (g1, .inl (cI, 200, .inl (nA lx)))] := by
  refine J_iconst h (v := nI 0) dX7_numberIn_0 (by decide) ?_
  refine J_istore_n h (i := 3) (lv' := [(3, .int (nI 0)), (0, .ref g0), (1, .int (nI p0)), (2, .int (nI p1))]) dX7_numberIn_1 rfl (by decide) rfl ?_
  refine J_iload_n h (i := 1) dX7_numberIn_2 rfl 2 rfl ?_
  refine J_istore h (lv' := [(4, .int (nI p0)), (3, .int (nI 0)), (0, .ref g0), (1, .int (nI p0)), (2, .int (nI p1))]) dX7_numberIn_3 (by decide) rfl ?_
  refine J.loc [2, 3, 4, 1, 0] (lv' := [(0, .ref g0), (1, .int (nI p0)), (2, .int (nI p1)), (3, .int (nI 0)), (4, .int (nI p0))]) rfl ?_
  exact w_X7_numberIn_5 X h g0 g1 lx tn p0 p1 hlx htn hp0 hp1 hp2 hf hR  (p1 - p0 - 0 + 1) 0 0 (by first | assumption | omega | rfl) (by rfl) (by first | assumption | omega | rfl) (by omega)
theorem c_X7_numberIn (l : Launch) (D : va_G) (cI cE : ClassId) (g0 : Nat) (g1 : Nat) (lx : Nat → Nat) (tn : Nat) (p0 : Nat) (p1 : Nat) (hlx : ∀ j, lx j ≤ 126) (htn : tn ≤ 200) (hp0 : p0 < 100000) (hp1 : p0 ≤ p1) (hp2 : p1 ≤ p0 + 2) (hf : ∀ k, p0 ≤ k → k < p1 → 48 ≤ ltr lx tn k ∧ ltr lx tn k ≤ 57) : Ci l D cI cE yX7_numberIn cX7_numberIn 5 (some .int) 1 0 0 [.ref g0, .int (nI p0), .int (nI p1)] [(g0, .inr (7, [.ref g1, .int (nI tn)])), (g1, .inl (cI, 200, .inl (nA lx)))] (fun (r : Int32) (u : Unit) => ((nI (nvr lx tn p0 (p1 - p0)) = r) ∧ (True))) (fun (u : Unit) => ([(g0, .inr (7, [.ref g1, .int (nI tn)])), (g1, .inl (cI, 200, .inl (nA lx)))] : va_W)) :=
  Ci.of (by decide) (Nat.le_of_ble_eq_true rfl) (fun _ _ _ => rfl) (fun X h hR => w_X7_numberIn X h g0 g1 lx tn p0 p1 hlx htn hp0 hp1 hp2 hf hR)
theorem yv_X7_numberIn : YV yX7_numberIn cX7_numberIn 5 (some .int) 2 := ⟨no_X7_numberIn, nv_X7_numberIn, ni_X7, nk_X7_numberIn, by decide +kernel⟩
set_option maxRecDepth 100000 in
set_option maxHeartbeats 4000000 in
theorem w_X7_readRow_64 (X : Cx) {cI cE : ClassId} (h : Ok X cX7_readRow RX7 6 cI cE 3 0 0) (g0 : Nat) (g1 : Nat) (lx : Nat → Nat) (tn : Nat) (a0 : Nat) (a1 : Nat) (a2 : Nat) (th : Nat → Int32) (ow : Nat → Int32) (co : Nat) (ro : Nat) (sl : Int32) (p0 : Nat) (hlx : ∀ j, lx j ≤ 126) (htn : tn ≤ 200) (hrc : ro * co ≤ 48) (hco : co ≤ 6) (hro : ro ≤ 8) (hp0 : p0 < 1000) (hR : ∀ (r : Int32) (u : (Nat → Int32) × (Nat → Int32) × (Nat) × (Nat)), (∃ (q : Nat), (nI q = r) ∧ (rowR lx tn p0 (th, ow, co, ro) = some (q, u.1, u.2.1, u.2.2.1, u.2.2.2)) ∧ (u.2.2.2 * u.2.2.1 ≤ 48) ∧ (u.2.2.1 ≤ 6) ∧ (u.2.2.2 ≤ 8) ∧ (p0 < q) ∧ (q ≤ p0 + 10) ∧ (True)) ∨ (((-4) = r) ∧ (rowR lx tn p0 (th, ow, co, ro) = none) ∧ (u.2.2.2 * u.2.2.1 ≤ 48) ∧ (u.2.2.1 ≤ 6) ∧ (u.2.2.2 ≤ 8) ∧ (True)) → RetI X cX7_readRow 6 0 0 r [(g0, .inr (7, [.ref g1, .int (nI tn)])), (g1, .inl (cI, 200, .inl (nA lx))), (a0, .inr (0, [.ref a1, .ref a2, .int (nI u.2.2.1), .int (nI u.2.2.2), .int sl])), (a1, .inl (cI, 48, .inl u.1)), (a2, .inl (cI, 48, .inl u.2.1))]) : ∀ (n_64 : Nat) (n : Nat) (i : Nat) (t1 : Nat → Int32), (∀ k, k < n → 48 ≤ ltr lx tn (p0 + k) ∧ ltr lx tn (p0 + k) ≤ 51) → (EqN (rowN lx tn p0) n) → (ltr lx tn (p0 + n) = 59 ∧ 2 ≤ n ∧ n ≤ 6 ∧ ro < 8 ∧ (ro = 0 ∨ n = co)) → (i ≤ n) → (t1 = rowT lx tn p0 (ro * n) i (sgm (ro * n) n (fun _ => nI 0) th)) → n - i < n_64 → J X 6 0 0 64 [(0, .ref g0), (1, .int (nI p0)), (2, .ref a0), (3, .int (nI n)), (4, .int (nI (ro * n))), (5, .int (nI i))] [] [(g0, .inr (7, [.ref g1, .int (nI tn)])), (g1, .inl (cI, 200, .inl (nA lx))), (a0, .inr (0, [.ref a1, .ref a2, .int (nI n), .int (nI (ro + 1)), .int sl])), (a1, .inl (cI, 48, .inl t1)), (a2, .inl (cI, 48, .inl (sgm (ro * n) n (fun _ => nI 4) ow)))] := by
  intro n_64
  induction n_64 with
  | zero => intro n i t1 hd hN hc hi ht hn_; exact absurd hn_ (Nat.not_lt_zero _)
  | succ n_64 ih_64 =>
    intro n i t1 hd hN hc hi ht hn_64
    have hle := ltr_le hlx tn (p0 + i)
    have he1 : (ro + 1) * n = ro * n + n := Nat.succ_mul _ _
    have he2 : (ro + 1) * n ≤ 8 * 6 := Nat.mul_le_mul (by omega) (by omega)
    refine J_iload h dX7_readRow_64 5 rfl ?_
    refine J_iload_n h (i := 3) dX7_readRow_66 rfl 3 rfl ?_
    refine N_icmp_ge h 96 dX7_readRow_67 (by decide) (by omega) (by omega) (fun c_67 => ?_) (fun c_67 => ?_)
    · skip
      refine J_arr (g := (rowT lx tn p0 (ro * n) n th)) (ws' := [(g0, .inr (7, [.ref g1, .int (nI tn)])), (g1, .inl (cI, 200, .inl (nA lx))), (a0, .inr (0, [.ref a1, .ref a2, .int (nI n), .int (nI (ro + 1)), .int sl])), (a1, .inl (cI, 48, .inl (rowT lx tn p0 (ro * n) n th))), (a2, .inl (cI, 48, .inl (sgm (ro * n) n (fun _ => nI 4) ow)))]) 3 rfl (by intro j hj; rw [ht, show i = n by omega, rowT_sgm]) rfl ?_
      refine J_iload_n h (i := 1) dX7_readRow_96 rfl 1 rfl ?_
      refine J_iload_n h (i := 3) dX7_readRow_97 rfl 3 rfl ?_
      refine N_iadd h dX7_readRow_98 ?_
      refine J_iconst h (v := nI 1) dX7_readRow_99 (by decide) ?_
      refine N_iadd h dX7_readRow_100 ?_
      exact hR (nI ((p0 + n) + 1)) (rowT lx tn p0 (ro * n) n th, sgm (ro * n) n (fun _ => nI 4) ow, n, ro + 1) (by exact Or.inl ⟨_, rfl, by unfold rowR; rw [hN.eq]; exact if_pos hc, by dsimp only; omega, by dsimp only; omega, by dsimp only; omega, by omega, by omega, trivial⟩) 101 _ dX7_readRow_101
    · skip
      have hdi := hd i (by omega)
      refine J_aload_n h (i := 2) dX7_readRow_70 rfl 2 rfl ?_
      refine J_iload h dX7_readRow_71 4 rfl ?_
      refine J_iload h dX7_readRow_73 5 rfl ?_
      refine N_iadd h dX7_readRow_75 ?_
      refine J_aload_n h (i := 0) dX7_readRow_76 rfl 0 rfl ?_
      refine J_iload_n h (i := 1) dX7_readRow_77 rfl 1 rfl ?_
      refine J_iload h dX7_readRow_78 5 rfl ?_
      refine N_iadd h dX7_readRow_80 ?_
      refine K_vi h (wr := [(a0, .inr (0, [.ref a1, .ref a2, .int (nI n), .int (nI (ro + 1)), .int sl])), (a1, .inl (cI, 48, .inl t1)), (a2, .inl (cI, 48, .inl (sgm (ro * n) n (fun _ => nI 4) ow)))]) (c_X7_letterAt (xl X) (xD X) cI cE g0 g1 lx tn (p0 + i) (by first | exact hlx |  assumption | omega | rfl) (by first | exact htn |  assumption | omega | rfl) (by first | exact hp0 |  assumption | omega | rfl)) yv_X7_letterAt nm_X7_28 (by decide) (by decide) rfl rfl 0 rfl rfl rfl rfl (Nat.le_of_ble_eq_true rfl) (Nat.le_refl _) (Nat.le_refl _) dX7_readRow_81 (fun r_81 u_81 p_81 => ?_)
      obtain ⟨rfl, -⟩ := p_81
      show J X 6 0 0 84 [(0, .ref g0), (1, .int (nI p0)), (2, .ref a0), (3, .int (nI n)), (4, .int (nI (ro * n))), (5, .int (nI i))] [.int (nI (ltr lx tn (p0 + i))), .int (nI ((ro * n) + i)), .ref a0] [(g0, .inr (7, [.ref g1, .int (nI tn)])), (g1, .inl (cI, 200, .inl (nA lx))), (a0, .inr (0, [.ref a1, .ref a2, .int (nI n), .int (nI (ro + 1)), .int sl])), (a1, .inl (cI, 48, .inl t1)), (a2, .inl (cI, 48, .inl (sgm (ro * n) n (fun _ => nI 4) ow)))]
      refine J_bipush h (v := nI 48) dX7_readRow_84 (by decide) ?_
      refine N_isub h (by omega) dX7_readRow_86 ?_
      refine J.wld [2, 3, 4, 0, 1] (ws' := [(a0, .inr (0, [.ref a1, .ref a2, .int (nI n), .int (nI (ro + 1)), .int sl])), (a1, .inl (cI, 48, .inl t1)), (a2, .inl (cI, 48, .inl (sgm (ro * n) n (fun _ => nI 4) ow))), (g0, .inr (7, [.ref g1, .int (nI tn)])), (g1, .inl (cI, 200, .inl (nA lx)))]) rfl rfl ?_
      refine K_vv h (wr := [(g0, .inr (7, [.ref g1, .int (nI tn)])), (g1, .inl (cI, 200, .inl (nA lx)))]) (c_X0_putThing (xl X) (xD X) cI cE a0 a1 a2 t1 (sgm (ro * n) n (fun _ => nI 4) ow) n (ro + 1) sl ((ro * n) + i) (nI ((ltr lx tn (p0 + i)) - 48)) (by first | exact hrc |  assumption | omega | rfl) (by first | exact hp0 |  assumption | omega | rfl)) yv_X0_putThing nm_X7_49 (by decide) (by decide) rfl rfl 0 rfl rfl rfl rfl (Nat.le_of_ble_eq_true rfl) (Nat.le_refl _) (Nat.le_refl _) dX7_readRow_87 (fun u_87 p_87 => ?_)
      show J X 6 0 0 90 [(0, .ref g0), (1, .int (nI p0)), (2, .ref a0), (3, .int (nI n)), (4, .int (nI (ro * n))), (5, .int (nI i))] [] [(a0, .inr (0, [.ref a1, .ref a2, .int (nI n), .int (nI (ro + 1)), .int sl])), (a1, .inl (cI, 48, .inl (upd t1 ((ro * n) + i) (nI ((ltr lx tn (p0 + i)) - 48))))), (a2, .inl (cI, 48, .inl ((sgm (ro * n) n (fun _ => nI 4) ow)))), (g0, .inr (7, [.ref g1, .int (nI tn)])), (g1, .inl (cI, 200, .inl (nA lx)))]
      refine J_iinc h (v := nI (i + 1)) (lv' := [(5, .int (nI (i + 1))), (0, .ref g0), (1, .int (nI p0)), (2, .ref a0), (3, .int (nI n)), (4, .int (nI (ro * n)))]) dX7_readRow_90 5 rfl (inc_ok _ 1) (by decide) rfl ?_
      refine J_goto h 64 dX7_readRow_93 (by decide) ?_
      refine J.wld [3, 4, 0, 1, 2] (ws' := [(g0, .inr (7, [.ref g1, .int (nI tn)])), (g1, .inl (cI, 200, .inl (nA lx))), (a0, .inr (0, [.ref a1, .ref a2, .int (nI n), .int (nI (ro + 1)), .int sl])), (a1, .inl (cI, 48, .inl (upd t1 ((ro * n) + i) (nI ((ltr lx tn (p0 + i)) - 48))))), (a2, .inl (cI, 48, .inl ((sgm (ro * n) n (fun _ => nI 4) ow))))]) rfl rfl ?_
      refine J.loc [1, 2, 3, 4, 5, 0] (lv' := [(0, .ref g0), (1, .int (nI p0)), (2, .ref a0), (3, .int (nI n)), (4, .int (nI (ro * n))), (5, .int (nI (i + 1)))]) rfl ?_
      exact ih_64 n (i + 1) (upd t1 ((ro * n) + i) (nI ((ltr lx tn (p0 + i)) - 48))) (by first | exact hd |  assumption | omega | rfl) (by first | exact hN |  assumption | omega | rfl) (by omega) (by first | exact hi |  assumption | omega | rfl) (by rw [ht, rowT_s]) (by omega)
set_option maxRecDepth 100000 in
set_option maxHeartbeats 4000000 in
theorem w_X7_readRow_30 (X : Cx) {cI cE : ClassId} (h : Ok X cX7_readRow RX7 6 cI cE 3 0 0) (g0 : Nat) (g1 : Nat) (lx : Nat → Nat) (tn : Nat) (a0 : Nat) (a1 : Nat) (a2 : Nat) (th : Nat → Int32) (ow : Nat → Int32) (co : Nat) (ro : Nat) (sl : Int32) (p0 : Nat) (hlx : ∀ j, lx j ≤ 126) (htn : tn ≤ 200) (hrc : ro * co ≤ 48) (hco : co ≤ 6) (hro : ro ≤ 8) (hp0 : p0 < 1000) (hR : ∀ (r : Int32) (u : (Nat → Int32) × (Nat → Int32) × (Nat) × (Nat)), (∃ (q : Nat), (nI q = r) ∧ (rowR lx tn p0 (th, ow, co, ro) = some (q, u.1, u.2.1, u.2.2.1, u.2.2.2)) ∧ (u.2.2.2 * u.2.2.1 ≤ 48) ∧ (u.2.2.1 ≤ 6) ∧ (u.2.2.2 ≤ 8) ∧ (p0 < q) ∧ (q ≤ p0 + 10) ∧ (True)) ∨ (((-4) = r) ∧ (rowR lx tn p0 (th, ow, co, ro) = none) ∧ (u.2.2.2 * u.2.2.1 ≤ 48) ∧ (u.2.2.1 ≤ 6) ∧ (u.2.2.2 ≤ 8) ∧ (True)) → RetI X cX7_readRow 6 0 0 r [(g0, .inr (7, [.ref g1, .int (nI tn)])), (g1, .inl (cI, 200, .inl (nA lx))), (a0, .inr (0, [.ref a1, .ref a2, .int (nI u.2.2.1), .int (nI u.2.2.2), .int sl])), (a1, .inl (cI, 48, .inl u.1)), (a2, .inl (cI, 48, .inl u.2.1))]) : ∀ (n : Nat), (n ≤ 7) → (∀ k, k < n → 48 ≤ ltr lx tn (p0 + k) ∧ ltr lx tn (p0 + k) ≤ 51) → (EqN (rowN lx tn p0) n) → J X 6 0 0 30 [(0, .ref g0), (1, .int (nI p0)), (2, .ref a0), (3, .int (nI n))] [] [(g0, .inr (7, [.ref g1, .int (nI tn)])), (g1, .inl (cI, 200, .inl (nA lx))), (a0, .inr (0, [.ref a1, .ref a2, .int (nI co), .int (nI ro), .int sl])), (a1, .inl (cI, 48, .inl th)), (a2, .inl (cI, 48, .inl ow))] := by
  intro n hn hd hN
  have hle := ltr_le hlx tn (p0 + n)
  refine J_aload_n h (i := 0) dX7_readRow_30 rfl 0 rfl ?_
  refine J_iload_n h (i := 1) dX7_readRow_31 rfl 1 rfl ?_
  refine J_iload_n h (i := 3) dX7_readRow_32 rfl 3 rfl ?_
  refine N_iadd h dX7_readRow_33 ?_
  refine K_vi h (wr := [(a0, .inr (0, [.ref a1, .ref a2, .int (nI co), .int (nI ro), .int sl])), (a1, .inl (cI, 48, .inl th)), (a2, .inl (cI, 48, .inl ow))]) (c_X7_letterAt (xl X) (xD X) cI cE g0 g1 lx tn (p0 + n) (by first | exact hlx |  assumption | omega | rfl) (by first | exact htn |  assumption | omega | rfl) (by first | exact hp0 |  assumption | omega | rfl)) yv_X7_letterAt nm_X7_28 (by decide) (by decide) rfl rfl 0 rfl rfl rfl rfl (Nat.le_of_ble_eq_true rfl) (Nat.le_refl _) (Nat.le_refl _) dX7_readRow_34 (fun r_34 u_34 p_34 => ?_)
  obtain ⟨rfl, -⟩ := p_34
  show J X 6 0 0 37 [(0, .ref g0), (1, .int (nI p0)), (2, .ref a0), (3, .int (nI n))] [.int (nI (ltr lx tn (p0 + n)))] [(g0, .inr (7, [.ref g1, .int (nI tn)])), (g1, .inl (cI, 200, .inl (nA lx))), (a0, .inr (0, [.ref a1, .ref a2, .int (nI co), .int (nI ro), .int sl])), (a1, .inl (cI, 48, .inl th)), (a2, .inl (cI, 48, .inl ow))]
  refine J_bipush h (v := nI 59) dX7_readRow_37 (by decide) ?_
  refine N_icmp_ne h 50 dX7_readRow_39 (by decide) (by omega) (by omega) (fun c_39 => ?_) (fun c_39 => ?_)
  · skip
    refine J_bipush h (v := (-4)) dX7_readRow_50 (by decide) ?_
    exact hR ((-4)) (th, ow, co, ro) (by exact Or.inr ⟨rfl, by unfold rowR; rw [hN.eq]; exact if_neg (fun z => by have z1 := z.1; have z2 := z.2; simp only at z2; omega), by assumption, by assumption, by assumption, trivial⟩) 52 _ dX7_readRow_52
  · skip
    refine J_aload_n h (i := 2) dX7_readRow_42 rfl 2 rfl ?_
    refine J_iload_n h (i := 3) dX7_readRow_43 rfl 3 rfl ?_
    refine J.wld [2, 3, 4, 0, 1] (ws' := [(a0, .inr (0, [.ref a1, .ref a2, .int (nI co), .int (nI ro), .int sl])), (a1, .inl (cI, 48, .inl th)), (a2, .inl (cI, 48, .inl ow)), (g0, .inr (7, [.ref g1, .int (nI tn)])), (g1, .inl (cI, 200, .inl (nA lx)))]) rfl rfl ?_
    refine K_vi h (wr := [(g0, .inr (7, [.ref g1, .int (nI tn)])), (g1, .inl (cI, 200, .inl (nA lx)))]) (c_X0_addRow (xl X) (xD X) cI cE a0 a1 a2 th ow co ro sl n (by first | exact hro |  assumption | omega | rfl) (by first | exact hco |  assumption | omega | rfl) (by first | exact hp0 |  assumption | omega | rfl)) yv_X0_addRow nm_X7_42 (by decide) (by decide) rfl rfl 0 rfl rfl rfl rfl (Nat.le_of_ble_eq_true rfl) (Nat.le_refl _) (Nat.le_refl _) dX7_readRow_44 (fun r_44 u_44 p_44 => ?_)
    obtain ⟨th2_44, ow2_44, co2_44, ro2_44⟩ := u_44
    try dsimp only at p_44
    rcases p_44 with p_44 | p_44
    · obtain ⟨rfl, f0_44, f1_44, f2_44, f3_44, rfl, rfl, rfl, rfl, -⟩ := p_44
      show J X 6 0 0 47 [(0, .ref g0), (1, .int (nI p0)), (2, .ref a0), (3, .int (nI n))] [.int (nI 1)] [(a0, .inr (0, [.ref a1, .ref a2, .int (nI n), .int (nI (ro + 1)), .int sl])), (a1, .inl (cI, 48, .inl ((sgm (ro * n) n (fun _ => nI 0) th)))), (a2, .inl (cI, 48, .inl ((sgm (ro * n) n (fun _ => nI 4) ow)))), (g0, .inr (7, [.ref g1, .int (nI tn)])), (g1, .inl (cI, 200, .inl (nA lx)))]
      refine J_if_ne h 53 dX7_readRow_47 (by decide) (fun _ => ?_) (fun z => absurd z (by decide))
      have he1 : (ro + 1) * n = ro * n + n := Nat.succ_mul _ _
      refine J_aload_n h (i := 2) dX7_readRow_53 rfl 2 rfl ?_
      refine K_vi h (wr := [(g0, .inr (7, [.ref g1, .int (nI tn)])), (g1, .inl (cI, 200, .inl (nA lx)))]) (c_X0_cells (xl X) (xD X) cI cE a0 a1 a2 (sgm (ro * n) n (fun _ => nI 0) th) (sgm (ro * n) n (fun _ => nI 4) ow) n (ro + 1) sl ) yv_X0_cells nm_X7_45 (by decide) (by decide) rfl rfl 0 rfl rfl rfl rfl (Nat.le_of_ble_eq_true rfl) (Nat.le_refl _) (Nat.le_refl _) dX7_readRow_54 (fun r_54 u_54 p_54 => ?_)
      obtain ⟨rfl, -⟩ := p_54
      show J X 6 0 0 57 [(0, .ref g0), (1, .int (nI p0)), (2, .ref a0), (3, .int (nI n))] [.int (nI ((ro + 1) * n))] [(a0, .inr (0, [.ref a1, .ref a2, .int (nI n), .int (nI (ro + 1)), .int sl])), (a1, .inl (cI, 48, .inl ((sgm (ro * n) n (fun _ => nI 0) th)))), (a2, .inl (cI, 48, .inl ((sgm (ro * n) n (fun _ => nI 4) ow)))), (g0, .inr (7, [.ref g1, .int (nI tn)])), (g1, .inl (cI, 200, .inl (nA lx)))]
      refine J_iload_n h (i := 3) dX7_readRow_57 rfl 3 rfl ?_
      refine N_isub h (by omega) dX7_readRow_58 ?_
      refine J_eqs (st' := [.int (nI (ro * n))]) (by rw [show (ro + 1) * n - n = ro * n by omega]) ?_
      refine J_istore h (lv' := [(4, .int (nI (ro * n))), (0, .ref g0), (1, .int (nI p0)), (2, .ref a0), (3, .int (nI n))]) dX7_readRow_59 (by decide) rfl ?_
      refine J_iconst h (v := nI 0) dX7_readRow_61 (by decide) ?_
      refine J_istore h (lv' := [(5, .int (nI 0)), (4, .int (nI (ro * n))), (0, .ref g0), (1, .int (nI p0)), (2, .ref a0), (3, .int (nI n))]) dX7_readRow_62 (by decide) rfl ?_
      refine J.wld [3, 4, 0, 1, 2] (ws' := [(g0, .inr (7, [.ref g1, .int (nI tn)])), (g1, .inl (cI, 200, .inl (nA lx))), (a0, .inr (0, [.ref a1, .ref a2, .int (nI n), .int (nI (ro + 1)), .int sl])), (a1, .inl (cI, 48, .inl ((sgm (ro * n) n (fun _ => nI 0) th)))), (a2, .inl (cI, 48, .inl ((sgm (ro * n) n (fun _ => nI 4) ow))))]) rfl rfl ?_
      refine J.loc [2, 3, 4, 5, 1, 0] (lv' := [(0, .ref g0), (1, .int (nI p0)), (2, .ref a0), (3, .int (nI n)), (4, .int (nI (ro * n))), (5, .int (nI 0))]) rfl ?_
      exact w_X7_readRow_64 X h g0 g1 lx tn a0 a1 a2 th ow co ro sl p0 hlx htn hrc hco hro hp0 hR  (n - 0 + 1) n 0 (sgm (ro * n) n (fun _ => nI 0) th) (by first | exact hd |  assumption | omega | rfl) (by first | exact hN |  assumption | omega | rfl) (by omega) (by first | assumption | omega | rfl) (by rw [rowT_0]) (by omega)
    · obtain ⟨rfl, f0_44, rfl, rfl, rfl, rfl, -⟩ := p_44
      show J X 6 0 0 47 [(0, .ref g0), (1, .int (nI p0)), (2, .ref a0), (3, .int (nI n))] [.int (nI 0)] [(a0, .inr (0, [.ref a1, .ref a2, .int (nI co), .int (nI ro), .int sl])), (a1, .inl (cI, 48, .inl th)), (a2, .inl (cI, 48, .inl ow)), (g0, .inr (7, [.ref g1, .int (nI tn)])), (g1, .inl (cI, 200, .inl (nA lx)))]
      refine J_if_ne h 53 dX7_readRow_47 (by decide) (fun z => absurd z (by decide)) (fun _ => ?_)
      refine J_bipush h (v := (-4)) dX7_readRow_50 (by decide) ?_
      refine J.wld [3, 4, 0, 1, 2] (ws' := [(g0, .inr (7, [.ref g1, .int (nI tn)])), (g1, .inl (cI, 200, .inl (nA lx))), (a0, .inr (0, [.ref a1, .ref a2, .int (nI co), .int (nI ro), .int sl])), (a1, .inl (cI, 48, .inl th)), (a2, .inl (cI, 48, .inl ow))]) rfl rfl ?_
      exact hR ((-4)) (th, ow, co, ro) (by exact Or.inr ⟨rfl, by unfold rowR; rw [hN.eq]; exact if_neg (fun z => by have z1 := z.1; have z2 := z.2; simp only at z2; omega), by assumption, by assumption, by assumption, trivial⟩) 52 _ dX7_readRow_52
set_option maxRecDepth 100000 in
set_option maxHeartbeats 4000000 in
theorem w_X7_readRow_2 (X : Cx) {cI cE : ClassId} (h : Ok X cX7_readRow RX7 6 cI cE 3 0 0) (g0 : Nat) (g1 : Nat) (lx : Nat → Nat) (tn : Nat) (a0 : Nat) (a1 : Nat) (a2 : Nat) (th : Nat → Int32) (ow : Nat → Int32) (co : Nat) (ro : Nat) (sl : Int32) (p0 : Nat) (hlx : ∀ j, lx j ≤ 126) (htn : tn ≤ 200) (hrc : ro * co ≤ 48) (hco : co ≤ 6) (hro : ro ≤ 8) (hp0 : p0 < 1000) (hR : ∀ (r : Int32) (u : (Nat → Int32) × (Nat → Int32) × (Nat) × (Nat)), (∃ (q : Nat), (nI q = r) ∧ (rowR lx tn p0 (th, ow, co, ro) = some (q, u.1, u.2.1, u.2.2.1, u.2.2.2)) ∧ (u.2.2.2 * u.2.2.1 ≤ 48) ∧ (u.2.2.1 ≤ 6) ∧ (u.2.2.2 ≤ 8) ∧ (p0 < q) ∧ (q ≤ p0 + 10) ∧ (True)) ∨ (((-4) = r) ∧ (rowR lx tn p0 (th, ow, co, ro) = none) ∧ (u.2.2.2 * u.2.2.1 ≤ 48) ∧ (u.2.2.1 ≤ 6) ∧ (u.2.2.2 ≤ 8) ∧ (True)) → RetI X cX7_readRow 6 0 0 r [(g0, .inr (7, [.ref g1, .int (nI tn)])), (g1, .inl (cI, 200, .inl (nA lx))), (a0, .inr (0, [.ref a1, .ref a2, .int (nI u.2.2.1), .int (nI u.2.2.2), .int sl])), (a1, .inl (cI, 48, .inl u.1)), (a2, .inl (cI, 48, .inl u.2.1))]) : ∀ (n_2 : Nat) (n : Nat), (n ≤ 7) → (∀ k, k < n → 48 ≤ ltr lx tn (p0 + k) ∧ ltr lx tn (p0 + k) ≤ 51) → 7 - n < n_2 → J X 6 0 0 2 [(0, .ref g0), (1, .int (nI p0)), (2, .ref a0), (3, .int (nI n))] [] [(g0, .inr (7, [.ref g1, .int (nI tn)])), (g1, .inl (cI, 200, .inl (nA lx))), (a0, .inr (0, [.ref a1, .ref a2, .int (nI co), .int (nI ro), .int sl])), (a1, .inl (cI, 48, .inl th)), (a2, .inl (cI, 48, .inl ow))] := by
  intro n_2
  induction n_2 with
  | zero => intro n hn hd hn_; exact absurd hn_ (Nat.not_lt_zero _)
  | succ n_2 ih_2 =>
    intro n hn hd hn_2
    have hle := ltr_le hlx tn (p0 + n)
    refine J_iload_n h (i := 3) dX7_readRow_2 rfl 3 rfl ?_
    refine J_bipush h (v := nI 6) dX7_readRow_3 (by decide) ?_
    refine N_icmp_gt h 30 dX7_readRow_5 (by decide) (by omega) (by omega) (fun c_5 => ?_) (fun c_5 => ?_)
    · skip
      exact w_X7_readRow_30 X h g0 g1 lx tn a0 a1 a2 th ow co ro sl p0 hlx htn hrc hco hro hp0 hR  n (by first | exact hn |  assumption | omega | rfl) (by first | exact hd |  assumption | omega | rfl) (by rcases (show n = 7 ∨ n < 7 by omega) with e7 | e7 <;> first | exact .mk (rowN_7 e7 hd) | exact .mk (rowN_n hd (by omega) e7))
    · skip
      refine J_aload_n h (i := 0) dX7_readRow_8 rfl 0 rfl ?_
      refine J_iload_n h (i := 1) dX7_readRow_9 rfl 1 rfl ?_
      refine J_iload_n h (i := 3) dX7_readRow_10 rfl 3 rfl ?_
      refine N_iadd h dX7_readRow_11 ?_
      refine K_vi h (wr := [(a0, .inr (0, [.ref a1, .ref a2, .int (nI co), .int (nI ro), .int sl])), (a1, .inl (cI, 48, .inl th)), (a2, .inl (cI, 48, .inl ow))]) (c_X7_letterAt (xl X) (xD X) cI cE g0 g1 lx tn (p0 + n) (by first | exact hlx |  assumption | omega | rfl) (by first | exact htn |  assumption | omega | rfl) (by first | exact hp0 |  assumption | omega | rfl)) yv_X7_letterAt nm_X7_28 (by decide) (by decide) rfl rfl 0 rfl rfl rfl rfl (Nat.le_of_ble_eq_true rfl) (Nat.le_refl _) (Nat.le_refl _) dX7_readRow_12 (fun r_12 u_12 p_12 => ?_)
      obtain ⟨rfl, -⟩ := p_12
      show J X 6 0 0 15 [(0, .ref g0), (1, .int (nI p0)), (2, .ref a0), (3, .int (nI n))] [.int (nI (ltr lx tn (p0 + n)))] [(g0, .inr (7, [.ref g1, .int (nI tn)])), (g1, .inl (cI, 200, .inl (nA lx))), (a0, .inr (0, [.ref a1, .ref a2, .int (nI co), .int (nI ro), .int sl])), (a1, .inl (cI, 48, .inl th)), (a2, .inl (cI, 48, .inl ow))]
      refine J_bipush h (v := nI 48) dX7_readRow_15 (by decide) ?_
      refine J_isub h dX7_readRow_17 ?_
      refine K_ni h (wr := [(g0, .inr (7, [.ref g1, .int (nI tn)])), (g1, .inl (cI, 200, .inl (nA lx))), (a0, .inr (0, [.ref a1, .ref a2, .int (nI co), .int (nI ro), .int sl])), (a1, .inl (cI, 48, .inl th)), (a2, .inl (cI, 48, .inl ow))]) (c_X8_isThing (xl X) (xD X) cI cE ((nI (ltr lx tn (p0 + n))) - (nI 48)) (((ltr lx tn (p0 + n) : Nat) : Int) - ((48 : Nat) : Int)) (by exact pk_sub_toInt (by omega) (by omega))) yv_X8_isThing nx_X7_38 (by decide) (by decide) rfl rfl rfl (Nat.le_of_ble_eq_true rfl) (Nat.le_refl _) (Nat.le_refl _) dX7_readRow_18 (fun r_18 u_18 p_18 => ?_)
      rcases p_18 with p_18 | p_18
      · obtain ⟨rfl, f0_18, -⟩ := p_18
        show J X 6 0 0 21 [(0, .ref g0), (1, .int (nI p0)), (2, .ref a0), (3, .int (nI n))] [.int (nI 1)] [(g0, .inr (7, [.ref g1, .int (nI tn)])), (g1, .inl (cI, 200, .inl (nA lx))), (a0, .inr (0, [.ref a1, .ref a2, .int (nI co), .int (nI ro), .int sl])), (a1, .inl (cI, 48, .inl th)), (a2, .inl (cI, 48, .inl ow))]
        refine J_if_eq h 30 dX7_readRow_21 (by decide) (fun z => absurd z (by decide)) (fun _ => ?_)
        refine J_iinc h (v := nI (n + 1)) (lv' := [(3, .int (nI (n + 1))), (0, .ref g0), (1, .int (nI p0)), (2, .ref a0)]) dX7_readRow_24 3 rfl (inc_ok _ 1) (by decide) rfl ?_
        refine J_goto h 2 dX7_readRow_27 (by decide) ?_
        refine J.loc [1, 2, 3, 0] (lv' := [(0, .ref g0), (1, .int (nI p0)), (2, .ref a0), (3, .int (nI (n + 1)))]) rfl ?_
        exact ih_2 (n + 1) (by first | exact hn |  assumption | omega | rfl) (by exact lt_s hd (by omega)) (by omega)
      · obtain ⟨rfl, f0_18, -⟩ := p_18
        show J X 6 0 0 21 [(0, .ref g0), (1, .int (nI p0)), (2, .ref a0), (3, .int (nI n))] [.int (nI 0)] [(g0, .inr (7, [.ref g1, .int (nI tn)])), (g1, .inl (cI, 200, .inl (nA lx))), (a0, .inr (0, [.ref a1, .ref a2, .int (nI co), .int (nI ro), .int sl])), (a1, .inl (cI, 48, .inl th)), (a2, .inl (cI, 48, .inl ow))]
        refine J_if_eq h 30 dX7_readRow_21 (by decide) (fun _ => ?_) (fun z => absurd z (by decide))
        exact w_X7_readRow_30 X h g0 g1 lx tn a0 a1 a2 th ow co ro sl p0 hlx htn hrc hco hro hp0 hR  n (by first | exact hn |  assumption | omega | rfl) (by first | exact hd |  assumption | omega | rfl) (by rcases (show n = 7 ∨ n < 7 by omega) with e7 | e7 <;> first | exact .mk (rowN_7 e7 hd) | exact .mk (rowN_n hd (by omega) e7))
set_option maxRecDepth 100000 in
set_option maxHeartbeats 4000000 in
theorem w_X7_readRow (X : Cx) {cI cE : ClassId} (h : Ok X cX7_readRow RX7 6 cI cE 3 0 0) (g0 : Nat) (g1 : Nat) (lx : Nat → Nat) (tn : Nat) (a0 : Nat) (a1 : Nat) (a2 : Nat) (th : Nat → Int32) (ow : Nat → Int32) (co : Nat) (ro : Nat) (sl : Int32) (p0 : Nat) (hlx : ∀ j, lx j ≤ 126) (htn : tn ≤ 200) (hrc : ro * co ≤ 48) (hco : co ≤ 6) (hro : ro ≤ 8) (hp0 : p0 < 1000) (hR : ∀ (r : Int32) (u : (Nat → Int32) × (Nat → Int32) × (Nat) × (Nat)), (∃ (q : Nat), (nI q = r) ∧ (rowR lx tn p0 (th, ow, co, ro) = some (q, u.1, u.2.1, u.2.2.1, u.2.2.2)) ∧ (u.2.2.2 * u.2.2.1 ≤ 48) ∧ (u.2.2.1 ≤ 6) ∧ (u.2.2.2 ≤ 8) ∧ (p0 < q) ∧ (q ≤ p0 + 10) ∧ (True)) ∨ (((-4) = r) ∧ (rowR lx tn p0 (th, ow, co, ro) = none) ∧ (u.2.2.2 * u.2.2.1 ≤ 48) ∧ (u.2.2.1 ≤ 6) ∧ (u.2.2.2 ≤ 8) ∧ (True)) → RetI X cX7_readRow 6 0 0 r [(g0, .inr (7, [.ref g1, .int (nI tn)])), (g1, .inl (cI, 200, .inl (nA lx))), (a0, .inr (0, [.ref a1, .ref a2, .int (nI u.2.2.1), .int (nI u.2.2.2), .int sl])), (a1, .inl (cI, 48, .inl u.1)), (a2, .inl (cI, 48, .inl u.2.1))]) : J X 6 0 0 0 [(0, .ref g0), (1, .int (nI p0)), (2, .ref a0)] [] [(g0, .inr (7, [.ref g1, .int (nI tn)])), (g1, .inl (cI, 200, .inl (nA lx))), (a0, .inr (0, [.ref a1, .ref a2, .int (nI co), .int (nI ro), .int sl])), (a1, .inl (cI, 48, .inl th)), (a2, .inl (cI, 48, .inl ow))] := by
  refine J_iconst h (v := nI 0) dX7_readRow_0 (by decide) ?_
  refine J_istore_n h (i := 3) (lv' := [(3, .int (nI 0)), (0, .ref g0), (1, .int (nI p0)), (2, .ref a0)]) dX7_readRow_1 rfl (by decide) rfl ?_
  refine J.loc [1, 2, 3, 0] (lv' := [(0, .ref g0), (1, .int (nI p0)), (2, .ref a0), (3, .int (nI 0))]) rfl ?_
  exact w_X7_readRow_2 X h g0 g1 lx tn a0 a1 a2 th ow co ro sl p0 hlx htn hrc hco hro hp0 hR  (7 - 0 + 1) 0 (by first | assumption | omega | rfl) (by intro k hk; omega) (by omega)
theorem c_X7_readRow (l : Launch) (D : va_G) (cI cE : ClassId) (g0 : Nat) (g1 : Nat) (lx : Nat → Nat) (tn : Nat) (a0 : Nat) (a1 : Nat) (a2 : Nat) (th : Nat → Int32) (ow : Nat → Int32) (co : Nat) (ro : Nat) (sl : Int32) (p0 : Nat) (hlx : ∀ j, lx j ≤ 126) (htn : tn ≤ 200) (hrc : ro * co ≤ 48) (hco : co ≤ 6) (hro : ro ≤ 8) (hp0 : p0 < 1000) : Ci l D cI cE yX7_readRow cX7_readRow 6 (some .int) 3 0 0 [.ref g0, .int (nI p0), .ref a0] [(g0, .inr (7, [.ref g1, .int (nI tn)])), (g1, .inl (cI, 200, .inl (nA lx))), (a0, .inr (0, [.ref a1, .ref a2, .int (nI co), .int (nI ro), .int sl])), (a1, .inl (cI, 48, .inl th)), (a2, .inl (cI, 48, .inl ow))] (fun (r : Int32) (u : (Nat → Int32) × (Nat → Int32) × (Nat) × (Nat)) => (∃ (q : Nat), (nI q = r) ∧ (rowR lx tn p0 (th, ow, co, ro) = some (q, u.1, u.2.1, u.2.2.1, u.2.2.2)) ∧ (u.2.2.2 * u.2.2.1 ≤ 48) ∧ (u.2.2.1 ≤ 6) ∧ (u.2.2.2 ≤ 8) ∧ (p0 < q) ∧ (q ≤ p0 + 10) ∧ (True)) ∨ (((-4) = r) ∧ (rowR lx tn p0 (th, ow, co, ro) = none) ∧ (u.2.2.2 * u.2.2.1 ≤ 48) ∧ (u.2.2.1 ≤ 6) ∧ (u.2.2.2 ≤ 8) ∧ (True))) (fun (u : (Nat → Int32) × (Nat → Int32) × (Nat) × (Nat)) => ([(g0, .inr (7, [.ref g1, .int (nI tn)])), (g1, .inl (cI, 200, .inl (nA lx))), (a0, .inr (0, [.ref a1, .ref a2, .int (nI u.2.2.1), .int (nI u.2.2.2), .int sl])), (a1, .inl (cI, 48, .inl u.1)), (a2, .inl (cI, 48, .inl u.2.1))] : va_W)) :=
  Ci.of (by decide) (Nat.le_of_ble_eq_true rfl) (fun _ _ _ => rfl) (fun X h hR => w_X7_readRow X h g0 g1 lx tn a0 a1 a2 th ow co ro sl p0 hlx htn hrc hco hro hp0 hR)
theorem yv_X7_readRow : YV yX7_readRow cX7_readRow 6 (some .int) 2 := ⟨no_X7_readRow, nv_X7_readRow, ni_X7, nk_X7_readRow, by decide +kernel⟩
theorem nvr_lt {lx : Nat → Nat} (hlx : ∀ j, lx j ≤ 126) (tn a k : Nat) (hk : k ≤ 2) : nvr lx tn a k < 100000 := by
  have h0 := ltr_le hlx tn a
  have h1 := ltr_le hlx tn (a + 1)
  rcases (show k = 0 ∨ k = 1 ∨ k = 2 by omega) with e | e | e <;> rw [e] <;> simp [nvr] <;> omega
set_option maxRecDepth 100000 in
set_option maxHeartbeats 4000000 in
theorem w_X7_readOwner (X : Cx) {cI cE : ClassId} (h : Ok X cX7_readOwner RX7 7 cI cE 2 0 0) (g0 : Nat) (g1 : Nat) (lx : Nat → Nat) (tn : Nat) (a0 : Nat) (a1 : Nat) (a2 : Nat) (th : Nat → Int32) (ow : Nat → Int32) (co : Nat) (ro : Nat) (sl : Int32) (p0 : Nat) (hlx : ∀ j, lx j ≤ 126) (htn : tn ≤ 200) (hrc : ro * co ≤ 48) (hco : co ≤ 6) (hro : ro ≤ 8) (hp0 : p0 < 1000) (hR : ∀ (r : Int32) (u : (Nat → Int32) × (Nat → Int32) × (Nat) × (Nat)), (∃ (q : Nat), (nI q = r) ∧ (ownR lx tn p0 (th, ow, co, ro) = some (q, u.1, u.2.1, u.2.2.1, u.2.2.2)) ∧ (u.2.2.2 * u.2.2.1 ≤ 48) ∧ (u.2.2.1 ≤ 6) ∧ (u.2.2.2 ≤ 8) ∧ (p0 < q) ∧ (q ≤ p0 + 10) ∧ (True)) ∨ (((-4) = r) ∧ (ownR lx tn p0 (th, ow, co, ro) = none) ∧ (u.2.2.2 * u.2.2.1 ≤ 48) ∧ (u.2.2.1 ≤ 6) ∧ (u.2.2.2 ≤ 8) ∧ (True)) → RetI X cX7_readOwner 7 0 0 r [(g0, .inr (7, [.ref g1, .int (nI tn)])), (g1, .inl (cI, 200, .inl (nA lx))), (a0, .inr (0, [.ref a1, .ref a2, .int (nI u.2.2.1), .int (nI u.2.2.2), .int sl])), (a1, .inl (cI, 48, .inl u.1)), (a2, .inl (cI, 48, .inl u.2.1))]) : J X 7 0 0 0 [(0, .ref g0), (1, .int (nI p0)), (2, .ref a0)] [] [(g0, .inr (7, [.ref g1, .int (nI tn)])), (g1, .inl (cI, 200, .inl (nA lx))), (a0, .inr (0, [.ref a1, .ref a2, .int (nI co), .int (nI ro), .int sl])), (a1, .inl (cI, 48, .inl th)), (a2, .inl (cI, 48, .inl ow))] := by
  obtain ⟨c1, hc1⟩ : ∃ z, z = bnm lx tn p0 := ⟨_, rfl⟩
  have hb1 := bnm_in lx tn p0
  rw [← hc1] at hb1
  obtain ⟨e1, he1⟩ : ∃ z, z = bnm lx tn (c1 + 1) := ⟨_, rfl⟩
  have hb2 := bnm_in lx tn (c1 + 1)
  rw [← he1] at hb2
  obtain ⟨l1, hl1⟩ : ∃ z, z = ltr lx tn c1 := ⟨_, rfl⟩
  have hl1b : l1 ≤ 126 := by rw [hl1]; exact ltr_le hlx tn c1
  obtain ⟨l2, hl2⟩ : ∃ z, z = ltr lx tn e1 := ⟨_, rfl⟩
  have hl2b : l2 ≤ 126 := by rw [hl2]; exact ltr_le hlx tn e1
  obtain ⟨m1, hm1⟩ : ∃ z, z = nvr lx tn p0 (c1 - p0) := ⟨_, rfl⟩
  have hn1 : m1 < 100000 := by rw [hm1]; exact nvr_lt hlx tn _ _ (by omega)
  obtain ⟨m2, hm2⟩ : ∃ z, z = nvr lx tn (c1 + 1) (e1 - (c1 + 1)) := ⟨_, rfl⟩
  have hn2 : m2 < 100000 := by rw [hm2]; exact nvr_lt hlx tn _ _ (by omega)
  refine J_aload_n h (i := 0) dX7_readOwner_0 rfl 0 rfl ?_
  refine J_iload_n h (i := 1) dX7_readOwner_1 rfl 1 rfl ?_
  refine K_vi h (wr := [(a0, .inr (0, [.ref a1, .ref a2, .int (nI co), .int (nI ro), .int sl])), (a1, .inl (cI, 48, .inl th)), (a2, .inl (cI, 48, .inl ow))]) (c_X7_behindNumber (xl X) (xD X) cI cE g0 g1 lx tn p0 (by first | exact hlx |  assumption | omega | rfl) (by first | exact htn |  assumption | omega | rfl) (by first | exact hp0 |  assumption | omega | rfl)) yv_X7_behindNumber nm_X7_53 (by decide) (by decide) rfl rfl 0 rfl rfl rfl rfl (Nat.le_of_ble_eq_true rfl) (Nat.le_refl _) (Nat.le_refl _) dX7_readOwner_2 (fun r_2 u_2 p_2 => ?_)
  obtain ⟨rfl, -⟩ := p_2
  show J X 7 0 0 5 [(0, .ref g0), (1, .int (nI p0)), (2, .ref a0)] [.int (nI (bnm lx tn p0))] [(g0, .inr (7, [.ref g1, .int (nI tn)])), (g1, .inl (cI, 200, .inl (nA lx))), (a0, .inr (0, [.ref a1, .ref a2, .int (nI co), .int (nI ro), .int sl])), (a1, .inl (cI, 48, .inl th)), (a2, .inl (cI, 48, .inl ow))]
  refine J_eqs (st' := [.int (nI c1)]) (by rw [hc1]) ?_
  refine J_istore_n h (i := 3) (lv' := [(3, .int (nI c1)), (0, .ref g0), (1, .int (nI p0)), (2, .ref a0)]) dX7_readOwner_5 rfl (by decide) rfl ?_
  refine J_aload_n h (i := 0) dX7_readOwner_6 rfl 1 rfl ?_
  refine J_iload_n h (i := 3) dX7_readOwner_7 rfl 0 rfl ?_
  refine J_iconst h (v := nI 1) dX7_readOwner_8 (by decide) ?_
  refine N_iadd h dX7_readOwner_9 ?_
  refine K_vi h (wr := [(a0, .inr (0, [.ref a1, .ref a2, .int (nI co), .int (nI ro), .int sl])), (a1, .inl (cI, 48, .inl th)), (a2, .inl (cI, 48, .inl ow))]) (c_X7_behindNumber (xl X) (xD X) cI cE g0 g1 lx tn (c1 + 1) (by first | exact hlx |  assumption | omega | rfl) (by first | exact htn |  assumption | omega | rfl) (by first | exact hp0 |  assumption | omega | rfl)) yv_X7_behindNumber nm_X7_53 (by decide) (by decide) rfl rfl 0 rfl rfl rfl rfl (Nat.le_of_ble_eq_true rfl) (Nat.le_refl _) (Nat.le_refl _) dX7_readOwner_10 (fun r_10 u_10 p_10 => ?_)
  obtain ⟨rfl, -⟩ := p_10
  show J X 7 0 0 13 [(3, .int (nI c1)), (0, .ref g0), (1, .int (nI p0)), (2, .ref a0)] [.int (nI (bnm lx tn (c1 + 1)))] [(g0, .inr (7, [.ref g1, .int (nI tn)])), (g1, .inl (cI, 200, .inl (nA lx))), (a0, .inr (0, [.ref a1, .ref a2, .int (nI co), .int (nI ro), .int sl])), (a1, .inl (cI, 48, .inl th)), (a2, .inl (cI, 48, .inl ow))]
  refine J_eqs (st' := [.int (nI e1)]) (by rw [he1]) ?_
  refine J_istore h (lv' := [(4, .int (nI e1)), (3, .int (nI c1)), (0, .ref g0), (1, .int (nI p0)), (2, .ref a0)]) dX7_readOwner_13 (by decide) rfl ?_
  refine J_iload_n h (i := 3) dX7_readOwner_15 rfl 1 rfl ?_
  refine J_iload_n h (i := 1) dX7_readOwner_16 rfl 3 rfl ?_
  refine N_icmp_eq h 28 dX7_readOwner_17 (by decide) (by omega) (by omega) (fun c_17 => ?_) (fun c_17 => ?_)
  · skip
    refine J_bipush h (v := (-4)) dX7_readOwner_28 (by decide) ?_
    exact hR ((-4)) (th, ow, co, ro) (by exact Or.inr ⟨rfl, by unfold ownR; dsimp only; rw [← hc1, ← he1, ← hl1, ← hl2, ← hm1, ← hm2]; exact if_neg (fun z => by obtain ⟨z1, z2, z3, z4, z5, z6⟩ := z; omega), by assumption, by assumption, by assumption, trivial⟩) 30 _ dX7_readOwner_30
  · skip
    refine J_iload h dX7_readOwner_20 0 rfl ?_
    refine J_iload_n h (i := 3) dX7_readOwner_22 rfl 1 rfl ?_
    refine J_iconst h (v := nI 1) dX7_readOwner_23 (by decide) ?_
    refine N_iadd h dX7_readOwner_24 ?_
    refine N_icmp_ne h 31 dX7_readOwner_25 (by decide) (by omega) (by omega) (fun c_25 => ?_) (fun c_25 => ?_)
    · skip
      refine J_aload_n h (i := 0) dX7_readOwner_31 rfl 2 rfl ?_
      refine J_iload_n h (i := 3) dX7_readOwner_32 rfl 1 rfl ?_
      refine K_vi h (wr := [(a0, .inr (0, [.ref a1, .ref a2, .int (nI co), .int (nI ro), .int sl])), (a1, .inl (cI, 48, .inl th)), (a2, .inl (cI, 48, .inl ow))]) (c_X7_letterAt (xl X) (xD X) cI cE g0 g1 lx tn c1 (by first | exact hlx |  assumption | omega | rfl) (by first | exact htn |  assumption | omega | rfl) (by first | exact hp0 |  assumption | omega | rfl)) yv_X7_letterAt nm_X7_28 (by decide) (by decide) rfl rfl 0 rfl rfl rfl rfl (Nat.le_of_ble_eq_true rfl) (Nat.le_refl _) (Nat.le_refl _) dX7_readOwner_33 (fun r_33 u_33 p_33 => ?_)
      obtain ⟨rfl, -⟩ := p_33
      show J X 7 0 0 36 [(4, .int (nI e1)), (3, .int (nI c1)), (0, .ref g0), (1, .int (nI p0)), (2, .ref a0)] [.int (nI (ltr lx tn c1))] [(g0, .inr (7, [.ref g1, .int (nI tn)])), (g1, .inl (cI, 200, .inl (nA lx))), (a0, .inr (0, [.ref a1, .ref a2, .int (nI co), .int (nI ro), .int sl])), (a1, .inl (cI, 48, .inl th)), (a2, .inl (cI, 48, .inl ow))]
      refine J_eqs (st' := [.int (nI l1)]) (by rw [hl1]) ?_
      refine J_bipush h (v := nI 44) dX7_readOwner_36 (by decide) ?_
      refine N_icmp_ne h 52 dX7_readOwner_38 (by decide) (by omega) (by omega) (fun c_38 => ?_) (fun c_38 => ?_)
      · skip
        refine J_bipush h (v := (-4)) dX7_readOwner_52 (by decide) ?_
        exact hR ((-4)) (th, ow, co, ro) (by exact Or.inr ⟨rfl, by unfold ownR; dsimp only; rw [← hc1, ← he1, ← hl1, ← hl2, ← hm1, ← hm2]; exact if_neg (fun z => by obtain ⟨z1, z2, z3, z4, z5, z6⟩ := z; omega), by assumption, by assumption, by assumption, trivial⟩) 54 _ dX7_readOwner_54
      · skip
        refine J_aload_n h (i := 0) dX7_readOwner_41 rfl 2 rfl ?_
        refine J_iload h dX7_readOwner_42 0 rfl ?_
        refine K_vi h (wr := [(a0, .inr (0, [.ref a1, .ref a2, .int (nI co), .int (nI ro), .int sl])), (a1, .inl (cI, 48, .inl th)), (a2, .inl (cI, 48, .inl ow))]) (c_X7_letterAt (xl X) (xD X) cI cE g0 g1 lx tn e1 (by first | exact hlx |  assumption | omega | rfl) (by first | exact htn |  assumption | omega | rfl) (by first | exact hp0 |  assumption | omega | rfl)) yv_X7_letterAt nm_X7_28 (by decide) (by decide) rfl rfl 0 rfl rfl rfl rfl (Nat.le_of_ble_eq_true rfl) (Nat.le_refl _) (Nat.le_refl _) dX7_readOwner_44 (fun r_44 u_44 p_44 => ?_)
        obtain ⟨rfl, -⟩ := p_44
        show J X 7 0 0 47 [(4, .int (nI e1)), (3, .int (nI c1)), (0, .ref g0), (1, .int (nI p0)), (2, .ref a0)] [.int (nI (ltr lx tn e1))] [(g0, .inr (7, [.ref g1, .int (nI tn)])), (g1, .inl (cI, 200, .inl (nA lx))), (a0, .inr (0, [.ref a1, .ref a2, .int (nI co), .int (nI ro), .int sl])), (a1, .inl (cI, 48, .inl th)), (a2, .inl (cI, 48, .inl ow))]
        refine J_eqs (st' := [.int (nI l2)]) (by rw [hl2]) ?_
        refine J_bipush h (v := nI 59) dX7_readOwner_47 (by decide) ?_
        refine N_icmp_eq h 55 dX7_readOwner_49 (by decide) (by omega) (by omega) (fun c_49 => ?_) (fun c_49 => ?_)
        · skip
          refine J_aload_n h (i := 0) dX7_readOwner_55 rfl 2 rfl ?_
          refine J_iload_n h (i := 1) dX7_readOwner_56 rfl 3 rfl ?_
          refine J_iload_n h (i := 3) dX7_readOwner_57 rfl 1 rfl ?_
          refine K_vi h (wr := [(a0, .inr (0, [.ref a1, .ref a2, .int (nI co), .int (nI ro), .int sl])), (a1, .inl (cI, 48, .inl th)), (a2, .inl (cI, 48, .inl ow))]) (c_X7_numberIn (xl X) (xD X) cI cE g0 g1 lx tn p0 c1 (by first | exact hlx |  assumption | omega | rfl) (by first | exact htn |  assumption | omega | rfl) (by first | exact hp0 |  assumption | omega | rfl) (by first | assumption | omega | rfl) (by first | assumption | omega | rfl) (by intro k h1 h2; rw [hc1] at h2; exact bnm_fig k h1 h2)) yv_X7_numberIn nm_X7_56 (by decide) (by decide) rfl rfl 0 rfl rfl rfl rfl (Nat.le_of_ble_eq_true rfl) (Nat.le_refl _) (Nat.le_refl _) dX7_readOwner_58 (fun r_58 u_58 p_58 => ?_)
          obtain ⟨rfl, -⟩ := p_58
          show J X 7 0 0 61 [(4, .int (nI e1)), (3, .int (nI c1)), (0, .ref g0), (1, .int (nI p0)), (2, .ref a0)] [.int (nI (nvr lx tn p0 (c1 - p0)))] [(g0, .inr (7, [.ref g1, .int (nI tn)])), (g1, .inl (cI, 200, .inl (nA lx))), (a0, .inr (0, [.ref a1, .ref a2, .int (nI co), .int (nI ro), .int sl])), (a1, .inl (cI, 48, .inl th)), (a2, .inl (cI, 48, .inl ow))]
          refine J_eqs (st' := [.int (nI m1)]) (by rw [hm1]) ?_
          refine J_istore h (lv' := [(5, .int (nI m1)), (4, .int (nI e1)), (3, .int (nI c1)), (0, .ref g0), (1, .int (nI p0)), (2, .ref a0)]) dX7_readOwner_61 (by decide) rfl ?_
          refine J_aload_n h (i := 0) dX7_readOwner_63 rfl 3 rfl ?_
          refine J_iload_n h (i := 3) dX7_readOwner_64 rfl 2 rfl ?_
          refine J_iconst h (v := nI 1) dX7_readOwner_65 (by decide) ?_
          refine N_iadd h dX7_readOwner_66 ?_
          refine J_iload h dX7_readOwner_67 1 rfl ?_
          refine K_vi h (wr := [(a0, .inr (0, [.ref a1, .ref a2, .int (nI co), .int (nI ro), .int sl])), (a1, .inl (cI, 48, .inl th)), (a2, .inl (cI, 48, .inl ow))]) (c_X7_numberIn (xl X) (xD X) cI cE g0 g1 lx tn (c1 + 1) e1 (by first | exact hlx |  assumption | omega | rfl) (by first | exact htn |  assumption | omega | rfl) (by first | exact hp0 |  assumption | omega | rfl) (by first | assumption | omega | rfl) (by first | assumption | omega | rfl) (by intro k h1 h2; rw [he1] at h2; exact bnm_fig k h1 h2)) yv_X7_numberIn nm_X7_56 (by decide) (by decide) rfl rfl 0 rfl rfl rfl rfl (Nat.le_of_ble_eq_true rfl) (Nat.le_refl _) (Nat.le_refl _) dX7_readOwner_69 (fun r_69 u_69 p_69 => ?_)
          obtain ⟨rfl, -⟩ := p_69
          show J X 7 0 0 72 [(5, .int (nI m1)), (4, .int (nI e1)), (3, .int (nI c1)), (0, .ref g0), (1, .int (nI p0)), (2, .ref a0)] [.int (nI (nvr lx tn (c1 + 1) (e1 - (c1 + 1))))] [(g0, .inr (7, [.ref g1, .int (nI tn)])), (g1, .inl (cI, 200, .inl (nA lx))), (a0, .inr (0, [.ref a1, .ref a2, .int (nI co), .int (nI ro), .int sl])), (a1, .inl (cI, 48, .inl th)), (a2, .inl (cI, 48, .inl ow))]
          refine J_eqs (st' := [.int (nI m2)]) (by rw [hm2]) ?_
          refine J_istore h (lv' := [(6, .int (nI m2)), (5, .int (nI m1)), (4, .int (nI e1)), (3, .int (nI c1)), (0, .ref g0), (1, .int (nI p0)), (2, .ref a0)]) dX7_readOwner_72 (by decide) rfl ?_
          refine J_aload_n h (i := 2) dX7_readOwner_74 rfl 6 rfl ?_
          refine J_iload h dX7_readOwner_75 1 rfl ?_
          refine J.wld [2, 3, 4, 0, 1] (ws' := [(a0, .inr (0, [.ref a1, .ref a2, .int (nI co), .int (nI ro), .int sl])), (a1, .inl (cI, 48, .inl th)), (a2, .inl (cI, 48, .inl ow)), (g0, .inr (7, [.ref g1, .int (nI tn)])), (g1, .inl (cI, 200, .inl (nA lx)))]) rfl rfl ?_
          refine K_vi h (wr := [(g0, .inr (7, [.ref g1, .int (nI tn)])), (g1, .inl (cI, 200, .inl (nA lx)))]) (c_X0_hasCellN (xl X) (xD X) cI cE a0 a1 a2 th ow co ro sl m1 (by first | exact hrc |  assumption | omega | rfl) (by first | exact hp0 |  assumption | omega | rfl)) yv_X0_hasCell nm_X7_60 (by decide) (by decide) rfl rfl 0 rfl rfl rfl rfl (Nat.le_of_ble_eq_true rfl) (Nat.le_refl _) (Nat.le_refl _) dX7_readOwner_77 (fun r_77 u_77 p_77 => ?_)
          rcases p_77 with p_77 | p_77
          · obtain ⟨rfl, f0_77, -⟩ := p_77
            show J X 7 0 0 80 [(6, .int (nI m2)), (5, .int (nI m1)), (4, .int (nI e1)), (3, .int (nI c1)), (0, .ref g0), (1, .int (nI p0)), (2, .ref a0)] [.int (nI 1)] [(a0, .inr (0, [.ref a1, .ref a2, .int (nI co), .int (nI ro), .int sl])), (a1, .inl (cI, 48, .inl th)), (a2, .inl (cI, 48, .inl ow)), (g0, .inr (7, [.ref g1, .int (nI tn)])), (g1, .inl (cI, 200, .inl (nA lx)))]
            refine J_if_eq h 91 dX7_readOwner_80 (by decide) (fun z => absurd z (by decide)) (fun _ => ?_)
            refine J_iload h dX7_readOwner_83 0 rfl ?_
            refine K_ni h (wr := [(a0, .inr (0, [.ref a1, .ref a2, .int (nI co), .int (nI ro), .int sl])), (a1, .inl (cI, 48, .inl th)), (a2, .inl (cI, 48, .inl ow)), (g0, .inr (7, [.ref g1, .int (nI tn)])), (g1, .inl (cI, 200, .inl (nA lx)))]) (c_X8_isSide (xl X) (xD X) cI cE (nI m2) (((m2 : Nat) : Int)) (by exact nI_toInt (by omega))) yv_X8_isSide nx_X7_63 (by decide) (by decide) rfl rfl rfl (Nat.le_of_ble_eq_true rfl) (Nat.le_refl _) (Nat.le_refl _) dX7_readOwner_85 (fun r_85 u_85 p_85 => ?_)
            rcases p_85 with p_85 | p_85
            · obtain ⟨rfl, f0_85, -⟩ := p_85
              show J X 7 0 0 88 [(6, .int (nI m2)), (5, .int (nI m1)), (4, .int (nI e1)), (3, .int (nI c1)), (0, .ref g0), (1, .int (nI p0)), (2, .ref a0)] [.int (nI 1)] [(a0, .inr (0, [.ref a1, .ref a2, .int (nI co), .int (nI ro), .int sl])), (a1, .inl (cI, 48, .inl th)), (a2, .inl (cI, 48, .inl ow)), (g0, .inr (7, [.ref g1, .int (nI tn)])), (g1, .inl (cI, 200, .inl (nA lx)))]
              refine J_if_ne h 94 dX7_readOwner_88 (by decide) (fun _ => ?_) (fun z => absurd z (by decide))
              refine J_aload_n h (i := 2) dX7_readOwner_94 rfl 6 rfl ?_
              refine J_iload h dX7_readOwner_95 1 rfl ?_
              refine J_iload h dX7_readOwner_97 0 rfl ?_
              refine K_vv h (wr := [(g0, .inr (7, [.ref g1, .int (nI tn)])), (g1, .inl (cI, 200, .inl (nA lx)))]) (c_X0_putOwner (xl X) (xD X) cI cE a0 a1 a2 th ow co ro sl m1 (nI m2) (by first | exact hrc |  assumption | omega | rfl) (by first | exact hp0 |  assumption | omega | rfl)) yv_X0_putOwner nm_X7_66 (by decide) (by decide) rfl rfl 0 rfl rfl rfl rfl (Nat.le_of_ble_eq_true rfl) (Nat.le_refl _) (Nat.le_refl _) dX7_readOwner_99 (fun u_99 p_99 => ?_)
              show J X 7 0 0 102 [(6, .int (nI m2)), (5, .int (nI m1)), (4, .int (nI e1)), (3, .int (nI c1)), (0, .ref g0), (1, .int (nI p0)), (2, .ref a0)] [] [(a0, .inr (0, [.ref a1, .ref a2, .int (nI co), .int (nI ro), .int sl])), (a1, .inl (cI, 48, .inl th)), (a2, .inl (cI, 48, .inl (upd ow m1 (nI m2)))), (g0, .inr (7, [.ref g1, .int (nI tn)])), (g1, .inl (cI, 200, .inl (nA lx)))]
              refine J_iload h dX7_readOwner_102 2 rfl ?_
              refine J_iconst h (v := nI 1) dX7_readOwner_104 (by decide) ?_
              refine N_iadd h dX7_readOwner_105 ?_
              refine J.wld [3, 4, 0, 1, 2] (ws' := [(g0, .inr (7, [.ref g1, .int (nI tn)])), (g1, .inl (cI, 200, .inl (nA lx))), (a0, .inr (0, [.ref a1, .ref a2, .int (nI co), .int (nI ro), .int sl])), (a1, .inl (cI, 48, .inl th)), (a2, .inl (cI, 48, .inl (upd ow m1 (nI m2))))]) rfl rfl ?_
              exact hR (nI (e1 + 1)) (th, upd ow m1 (nI m2), co, ro) (by exact Or.inl ⟨_, rfl, by unfold ownR; dsimp only; rw [← hc1, ← he1, ← hl1, ← hl2, ← hm1, ← hm2]; exact if_pos ⟨by omega, by omega, by omega, by omega, by omega, by omega⟩, by assumption, by assumption, by assumption, by omega, by omega, trivial⟩) 106 _ dX7_readOwner_106
            · obtain ⟨rfl, f0_85, -⟩ := p_85
              show J X 7 0 0 88 [(6, .int (nI m2)), (5, .int (nI m1)), (4, .int (nI e1)), (3, .int (nI c1)), (0, .ref g0), (1, .int (nI p0)), (2, .ref a0)] [.int (nI 0)] [(a0, .inr (0, [.ref a1, .ref a2, .int (nI co), .int (nI ro), .int sl])), (a1, .inl (cI, 48, .inl th)), (a2, .inl (cI, 48, .inl ow)), (g0, .inr (7, [.ref g1, .int (nI tn)])), (g1, .inl (cI, 200, .inl (nA lx)))]
              refine J_if_ne h 94 dX7_readOwner_88 (by decide) (fun z => absurd z (by decide)) (fun _ => ?_)
              refine J_bipush h (v := (-4)) dX7_readOwner_91 (by decide) ?_
              refine J.wld [3, 4, 0, 1, 2] (ws' := [(g0, .inr (7, [.ref g1, .int (nI tn)])), (g1, .inl (cI, 200, .inl (nA lx))), (a0, .inr (0, [.ref a1, .ref a2, .int (nI co), .int (nI ro), .int sl])), (a1, .inl (cI, 48, .inl th)), (a2, .inl (cI, 48, .inl ow))]) rfl rfl ?_
              exact hR ((-4)) (th, ow, co, ro) (by exact Or.inr ⟨rfl, by unfold ownR; dsimp only; rw [← hc1, ← he1, ← hl1, ← hl2, ← hm1, ← hm2]; exact if_neg (fun z => by obtain ⟨z1, z2, z3, z4, z5, z6⟩ := z; omega), by assumption, by assumption, by assumption, trivial⟩) 93 _ dX7_readOwner_93
          · obtain ⟨rfl, f0_77, -⟩ := p_77
            show J X 7 0 0 80 [(6, .int (nI m2)), (5, .int (nI m1)), (4, .int (nI e1)), (3, .int (nI c1)), (0, .ref g0), (1, .int (nI p0)), (2, .ref a0)] [.int (nI 0)] [(a0, .inr (0, [.ref a1, .ref a2, .int (nI co), .int (nI ro), .int sl])), (a1, .inl (cI, 48, .inl th)), (a2, .inl (cI, 48, .inl ow)), (g0, .inr (7, [.ref g1, .int (nI tn)])), (g1, .inl (cI, 200, .inl (nA lx)))]
            refine J_if_eq h 91 dX7_readOwner_80 (by decide) (fun _ => ?_) (fun z => absurd z (by decide))
            refine J_bipush h (v := (-4)) dX7_readOwner_91 (by decide) ?_
            refine J.wld [3, 4, 0, 1, 2] (ws' := [(g0, .inr (7, [.ref g1, .int (nI tn)])), (g1, .inl (cI, 200, .inl (nA lx))), (a0, .inr (0, [.ref a1, .ref a2, .int (nI co), .int (nI ro), .int sl])), (a1, .inl (cI, 48, .inl th)), (a2, .inl (cI, 48, .inl ow))]) rfl rfl ?_
            exact hR ((-4)) (th, ow, co, ro) (by exact Or.inr ⟨rfl, by unfold ownR; dsimp only; rw [← hc1, ← he1, ← hl1, ← hl2, ← hm1, ← hm2]; exact if_neg (fun z => by obtain ⟨z1, z2, z3, z4, z5, z6⟩ := z; omega), by assumption, by assumption, by assumption, trivial⟩) 93 _ dX7_readOwner_93
        · skip
          refine J_bipush h (v := (-4)) dX7_readOwner_52 (by decide) ?_
          exact hR ((-4)) (th, ow, co, ro) (by exact Or.inr ⟨rfl, by unfold ownR; dsimp only; rw [← hc1, ← he1, ← hl1, ← hl2, ← hm1, ← hm2]; exact if_neg (fun z => by obtain ⟨z1, z2, z3, z4, z5, z6⟩ := z; omega), by assumption, by assumption, by assumption, trivial⟩) 54 _ dX7_readOwner_54
    · skip
      refine J_bipush h (v := (-4)) dX7_readOwner_28 (by decide) ?_
      exact hR ((-4)) (th, ow, co, ro) (by exact Or.inr ⟨rfl, by unfold ownR; dsimp only; rw [← hc1, ← he1, ← hl1, ← hl2, ← hm1, ← hm2]; exact if_neg (fun z => by obtain ⟨z1, z2, z3, z4, z5, z6⟩ := z; omega), by assumption, by assumption, by assumption, trivial⟩) 30 _ dX7_readOwner_30
theorem c_X7_readOwner (l : Launch) (D : va_G) (cI cE : ClassId) (g0 : Nat) (g1 : Nat) (lx : Nat → Nat) (tn : Nat) (a0 : Nat) (a1 : Nat) (a2 : Nat) (th : Nat → Int32) (ow : Nat → Int32) (co : Nat) (ro : Nat) (sl : Int32) (p0 : Nat) (hlx : ∀ j, lx j ≤ 126) (htn : tn ≤ 200) (hrc : ro * co ≤ 48) (hco : co ≤ 6) (hro : ro ≤ 8) (hp0 : p0 < 1000) : Ci l D cI cE yX7_readOwner cX7_readOwner 7 (some .int) 2 0 0 [.ref g0, .int (nI p0), .ref a0] [(g0, .inr (7, [.ref g1, .int (nI tn)])), (g1, .inl (cI, 200, .inl (nA lx))), (a0, .inr (0, [.ref a1, .ref a2, .int (nI co), .int (nI ro), .int sl])), (a1, .inl (cI, 48, .inl th)), (a2, .inl (cI, 48, .inl ow))] (fun (r : Int32) (u : (Nat → Int32) × (Nat → Int32) × (Nat) × (Nat)) => (∃ (q : Nat), (nI q = r) ∧ (ownR lx tn p0 (th, ow, co, ro) = some (q, u.1, u.2.1, u.2.2.1, u.2.2.2)) ∧ (u.2.2.2 * u.2.2.1 ≤ 48) ∧ (u.2.2.1 ≤ 6) ∧ (u.2.2.2 ≤ 8) ∧ (p0 < q) ∧ (q ≤ p0 + 10) ∧ (True)) ∨ (((-4) = r) ∧ (ownR lx tn p0 (th, ow, co, ro) = none) ∧ (u.2.2.2 * u.2.2.1 ≤ 48) ∧ (u.2.2.1 ≤ 6) ∧ (u.2.2.2 ≤ 8) ∧ (True))) (fun (u : (Nat → Int32) × (Nat → Int32) × (Nat) × (Nat)) => ([(g0, .inr (7, [.ref g1, .int (nI tn)])), (g1, .inl (cI, 200, .inl (nA lx))), (a0, .inr (0, [.ref a1, .ref a2, .int (nI u.2.2.1), .int (nI u.2.2.2), .int sl])), (a1, .inl (cI, 48, .inl u.1)), (a2, .inl (cI, 48, .inl u.2.1))] : va_W)) :=
  Ci.of (by decide) (Nat.le_of_ble_eq_true rfl) (fun _ _ _ => rfl) (fun X h hR => w_X7_readOwner X h g0 g1 lx tn a0 a1 a2 th ow co ro sl p0 hlx htn hrc hco hro hp0 hR)
theorem yv_X7_readOwner : YV yX7_readOwner cX7_readOwner 7 (some .int) 2 := ⟨no_X7_readOwner, nv_X7_readOwner, ni_X7, nk_X7_readOwner, by decide +kernel⟩
set_option maxRecDepth 100000 in
set_option maxHeartbeats 4000000 in
theorem w_X7_readItem (X : Cx) {cI cE : ClassId} (h : Ok X cX7_readItem RX7 3 cI cE 4 0 0) (g0 : Nat) (g1 : Nat) (lx : Nat → Nat) (tn : Nat) (a0 : Nat) (a1 : Nat) (a2 : Nat) (th : Nat → Int32) (ow : Nat → Int32) (co : Nat) (ro : Nat) (sl : Int32) (p0 : Nat) (hlx : ∀ j, lx j ≤ 126) (htn : tn ≤ 200) (hrc : ro * co ≤ 48) (hco : co ≤ 6) (hro : ro ≤ 8) (hp0 : p0 < 900) (hR : ∀ (r : Int32) (u : (Nat → Int32) × (Nat → Int32) × (Nat) × (Nat)), (∃ (q : Nat), (nI q = r) ∧ (itmR lx tn p0 (th, ow, co, ro) = some (q, u.1, u.2.1, u.2.2.1, u.2.2.2)) ∧ (u.2.2.2 * u.2.2.1 ≤ 48) ∧ (u.2.2.1 ≤ 6) ∧ (u.2.2.2 ≤ 8) ∧ (p0 < q) ∧ (q ≤ p0 + 11) ∧ (True)) ∨ (((-4) = r) ∧ (itmR lx tn p0 (th, ow, co, ro) = none) ∧ (u.2.2.2 * u.2.2.1 ≤ 48) ∧ (u.2.2.1 ≤ 6) ∧ (u.2.2.2 ≤ 8) ∧ (True)) → RetI X cX7_readItem 3 0 0 r [(g0, .inr (7, [.ref g1, .int (nI tn)])), (g1, .inl (cI, 200, .inl (nA lx))), (a0, .inr (0, [.ref a1, .ref a2, .int (nI u.2.2.1), .int (nI u.2.2.2), .int sl])), (a1, .inl (cI, 48, .inl u.1)), (a2, .inl (cI, 48, .inl u.2.1))]) : J X 3 0 0 0 [(0, .ref g0), (1, .int (nI p0)), (2, .ref a0)] [] [(g0, .inr (7, [.ref g1, .int (nI tn)])), (g1, .inl (cI, 200, .inl (nA lx))), (a0, .inr (0, [.ref a1, .ref a2, .int (nI co), .int (nI ro), .int sl])), (a1, .inl (cI, 48, .inl th)), (a2, .inl (cI, 48, .inl ow))] := by
  have hl0 := ltr_le hlx tn p0
  refine J_aload_n h (i := 0) dX7_readItem_0 rfl 0 rfl ?_
  refine J_iload_n h (i := 1) dX7_readItem_1 rfl 1 rfl ?_
  refine K_vi h (wr := [(a0, .inr (0, [.ref a1, .ref a2, .int (nI co), .int (nI ro), .int sl])), (a1, .inl (cI, 48, .inl th)), (a2, .inl (cI, 48, .inl ow))]) (c_X7_letterAt (xl X) (xD X) cI cE g0 g1 lx tn p0 (by first | exact hlx |  assumption | omega | rfl) (by first | exact htn |  assumption | omega | rfl) (by first | exact hp0 |  assumption | omega | rfl)) yv_X7_letterAt nm_X7_28 (by decide) (by decide) rfl rfl 0 rfl rfl rfl rfl (Nat.le_of_ble_eq_true rfl) (Nat.le_refl _) (Nat.le_refl _) dX7_readItem_2 (fun r_2 u_2 p_2 => ?_)
  obtain ⟨rfl, -⟩ := p_2
  show J X 3 0 0 5 [(0, .ref g0), (1, .int (nI p0)), (2, .ref a0)] [.int (nI (ltr lx tn p0))] [(g0, .inr (7, [.ref g1, .int (nI tn)])), (g1, .inl (cI, 200, .inl (nA lx))), (a0, .inr (0, [.ref a1, .ref a2, .int (nI co), .int (nI ro), .int sl])), (a1, .inl (cI, 48, .inl th)), (a2, .inl (cI, 48, .inl ow))]
  have hti : (nI (ltr lx tn p0)).toInt = ((ltr lx tn p0 : Nat) : Int) := nI_toInt (by omega)
  have c_5 : (nI (ltr lx tn p0)).toInt = 111 ∨ (nI (ltr lx tn p0)).toInt = 114 ∨ ((nI (ltr lx tn p0)).toInt ≠ 111 ∧ (nI (ltr lx tn p0)).toInt ≠ 114) := by omega
  rcases c_5 with c_5 | c_5 | c_5
  · refine J_look h 41 dX7_readItem_5 (by decide) (by first | (rw [c_5]; done) | (rw [c_5]; decide +kernel)) (by decide) ?_
    refine J_aload_n h (i := 0) dX7_readItem_41 rfl 0 rfl ?_
    refine J_iload_n h (i := 1) dX7_readItem_42 rfl 1 rfl ?_
    refine J_iconst h (v := nI 1) dX7_readItem_43 (by decide) ?_
    refine N_iadd h dX7_readItem_44 ?_
    refine J_aload_n h (i := 2) dX7_readItem_45 rfl 2 rfl ?_
    refine K_vi h (wr := []) (c_X7_readOwner (xl X) (xD X) cI cE g0 g1 lx tn a0 a1 a2 th ow co ro sl (p0 + 1) (by first | exact hlx |  assumption | omega | rfl) (by first | exact htn |  assumption | omega | rfl) (by first | exact hrc |  assumption | omega | rfl) (by first | exact hco |  assumption | omega | rfl) (by first | exact hro |  assumption | omega | rfl) (by first | exact hp0 |  assumption | omega | rfl)) yv_X7_readOwner nm_X7_35 (by decide) (by decide) rfl rfl 0 rfl rfl rfl rfl (Nat.le_of_ble_eq_true rfl) (Nat.le_refl _) (Nat.le_refl _) dX7_readItem_46 (fun r_46 u_46 p_46 => ?_)
    obtain ⟨th2_46, ow2_46, co2_46, ro2_46⟩ := u_46
    try dsimp only at p_46
    rcases p_46 with p_46 | p_46
    · obtain ⟨q_46, rfl, f0_46, f1_46, f2_46, f3_46, f4_46, f5_46, -⟩ := p_46
      show J X 3 0 0 49 [(0, .ref g0), (1, .int (nI p0)), (2, .ref a0)] [.int (nI q_46)] [(g0, .inr (7, [.ref g1, .int (nI tn)])), (g1, .inl (cI, 200, .inl (nA lx))), (a0, .inr (0, [.ref a1, .ref a2, .int (nI co2_46), .int (nI ro2_46), .int sl])), (a1, .inl (cI, 48, .inl th2_46)), (a2, .inl (cI, 48, .inl ow2_46))]
      exact hR (nI q_46) (th2_46, ow2_46, co2_46, ro2_46) (by first | exact Or.inl ⟨_, rfl, by unfold itmR; rw [if_neg (by omega), if_pos (by omega)]; exact f0_46, by assumption, by assumption, by assumption, by omega, by omega, trivial⟩ | exact Or.inr ⟨rfl, by unfold itmR; rw [if_neg (by omega), if_pos (by omega)]; exact f0_46, by assumption, by assumption, by assumption, trivial⟩) 49 _ dX7_readItem_49
    · obtain ⟨rfl, f0_46, f1_46, f2_46, f3_46, -⟩ := p_46
      show J X 3 0 0 49 [(0, .ref g0), (1, .int (nI p0)), (2, .ref a0)] [.int (-4)] [(g0, .inr (7, [.ref g1, .int (nI tn)])), (g1, .inl (cI, 200, .inl (nA lx))), (a0, .inr (0, [.ref a1, .ref a2, .int (nI co2_46), .int (nI ro2_46), .int sl])), (a1, .inl (cI, 48, .inl th2_46)), (a2, .inl (cI, 48, .inl ow2_46))]
      exact hR (-4) (th2_46, ow2_46, co2_46, ro2_46) (by first | exact Or.inl ⟨_, rfl, by unfold itmR; rw [if_neg (by omega), if_pos (by omega)]; exact f0_46, by assumption, by assumption, by assumption, by omega, by omega, trivial⟩ | exact Or.inr ⟨rfl, by unfold itmR; rw [if_neg (by omega), if_pos (by omega)]; exact f0_46, by assumption, by assumption, by assumption, trivial⟩) 49 _ dX7_readItem_49
  · refine J_look h 32 dX7_readItem_5 (by decide) (by first | (rw [c_5]; done) | (rw [c_5]; decide +kernel)) (by decide) ?_
    refine J_aload_n h (i := 0) dX7_readItem_32 rfl 0 rfl ?_
    refine J_iload_n h (i := 1) dX7_readItem_33 rfl 1 rfl ?_
    refine J_iconst h (v := nI 1) dX7_readItem_34 (by decide) ?_
    refine N_iadd h dX7_readItem_35 ?_
    refine J_aload_n h (i := 2) dX7_readItem_36 rfl 2 rfl ?_
    refine K_vi h (wr := []) (c_X7_readRow (xl X) (xD X) cI cE g0 g1 lx tn a0 a1 a2 th ow co ro sl (p0 + 1) (by first | exact hlx |  assumption | omega | rfl) (by first | exact htn |  assumption | omega | rfl) (by first | exact hrc |  assumption | omega | rfl) (by first | exact hco |  assumption | omega | rfl) (by first | exact hro |  assumption | omega | rfl) (by first | exact hp0 |  assumption | omega | rfl)) yv_X7_readRow nm_X7_32 (by decide) (by decide) rfl rfl 0 rfl rfl rfl rfl (Nat.le_of_ble_eq_true rfl) (Nat.le_refl _) (Nat.le_refl _) dX7_readItem_37 (fun r_37 u_37 p_37 => ?_)
    obtain ⟨th2_37, ow2_37, co2_37, ro2_37⟩ := u_37
    try dsimp only at p_37
    rcases p_37 with p_37 | p_37
    · obtain ⟨q_37, rfl, f0_37, f1_37, f2_37, f3_37, f4_37, f5_37, -⟩ := p_37
      show J X 3 0 0 40 [(0, .ref g0), (1, .int (nI p0)), (2, .ref a0)] [.int (nI q_37)] [(g0, .inr (7, [.ref g1, .int (nI tn)])), (g1, .inl (cI, 200, .inl (nA lx))), (a0, .inr (0, [.ref a1, .ref a2, .int (nI co2_37), .int (nI ro2_37), .int sl])), (a1, .inl (cI, 48, .inl th2_37)), (a2, .inl (cI, 48, .inl ow2_37))]
      exact hR (nI q_37) (th2_37, ow2_37, co2_37, ro2_37) (by first | exact Or.inl ⟨_, rfl, by unfold itmR; rw [if_pos (by omega)]; exact f0_37, by assumption, by assumption, by assumption, by omega, by omega, trivial⟩ | exact Or.inr ⟨rfl, by unfold itmR; rw [if_pos (by omega)]; exact f0_37, by assumption, by assumption, by assumption, trivial⟩) 40 _ dX7_readItem_40
    · obtain ⟨rfl, f0_37, f1_37, f2_37, f3_37, -⟩ := p_37
      show J X 3 0 0 40 [(0, .ref g0), (1, .int (nI p0)), (2, .ref a0)] [.int (-4)] [(g0, .inr (7, [.ref g1, .int (nI tn)])), (g1, .inl (cI, 200, .inl (nA lx))), (a0, .inr (0, [.ref a1, .ref a2, .int (nI co2_37), .int (nI ro2_37), .int sl])), (a1, .inl (cI, 48, .inl th2_37)), (a2, .inl (cI, 48, .inl ow2_37))]
      exact hR (-4) (th2_37, ow2_37, co2_37, ro2_37) (by first | exact Or.inl ⟨_, rfl, by unfold itmR; rw [if_pos (by omega)]; exact f0_37, by assumption, by assumption, by assumption, by omega, by omega, trivial⟩ | exact Or.inr ⟨rfl, by unfold itmR; rw [if_pos (by omega)]; exact f0_37, by assumption, by assumption, by assumption, trivial⟩) 40 _ dX7_readItem_40
  · refine J_look h (off := 45) 50 dX7_readItem_5 (by decide) (by simp [Op.lookupswitch.offset]; rw [if_neg (by omega), if_neg (by omega)]) (by decide) ?_
    refine J_bipush h (v := (-4)) dX7_readItem_50 (by decide) ?_
    exact hR ((-4)) (th, ow, co, ro) (by exact Or.inr ⟨rfl, by unfold itmR; rw [if_neg (by omega), if_neg (by omega)], by assumption, by assumption, by assumption, trivial⟩) 52 _ dX7_readItem_52
theorem c_X7_readItem (l : Launch) (D : va_G) (cI cE : ClassId) (g0 : Nat) (g1 : Nat) (lx : Nat → Nat) (tn : Nat) (a0 : Nat) (a1 : Nat) (a2 : Nat) (th : Nat → Int32) (ow : Nat → Int32) (co : Nat) (ro : Nat) (sl : Int32) (p0 : Nat) (hlx : ∀ j, lx j ≤ 126) (htn : tn ≤ 200) (hrc : ro * co ≤ 48) (hco : co ≤ 6) (hro : ro ≤ 8) (hp0 : p0 < 900) : Ci l D cI cE yX7_readItem cX7_readItem 3 (some .int) 4 0 0 [.ref g0, .int (nI p0), .ref a0] [(g0, .inr (7, [.ref g1, .int (nI tn)])), (g1, .inl (cI, 200, .inl (nA lx))), (a0, .inr (0, [.ref a1, .ref a2, .int (nI co), .int (nI ro), .int sl])), (a1, .inl (cI, 48, .inl th)), (a2, .inl (cI, 48, .inl ow))] (fun (r : Int32) (u : (Nat → Int32) × (Nat → Int32) × (Nat) × (Nat)) => (∃ (q : Nat), (nI q = r) ∧ (itmR lx tn p0 (th, ow, co, ro) = some (q, u.1, u.2.1, u.2.2.1, u.2.2.2)) ∧ (u.2.2.2 * u.2.2.1 ≤ 48) ∧ (u.2.2.1 ≤ 6) ∧ (u.2.2.2 ≤ 8) ∧ (p0 < q) ∧ (q ≤ p0 + 11) ∧ (True)) ∨ (((-4) = r) ∧ (itmR lx tn p0 (th, ow, co, ro) = none) ∧ (u.2.2.2 * u.2.2.1 ≤ 48) ∧ (u.2.2.1 ≤ 6) ∧ (u.2.2.2 ≤ 8) ∧ (True))) (fun (u : (Nat → Int32) × (Nat → Int32) × (Nat) × (Nat)) => ([(g0, .inr (7, [.ref g1, .int (nI tn)])), (g1, .inl (cI, 200, .inl (nA lx))), (a0, .inr (0, [.ref a1, .ref a2, .int (nI u.2.2.1), .int (nI u.2.2.2), .int sl])), (a1, .inl (cI, 48, .inl u.1)), (a2, .inl (cI, 48, .inl u.2.1))] : va_W)) :=
  Ci.of (by decide) (Nat.le_of_ble_eq_true rfl) (fun _ _ _ => rfl) (fun X h hR => w_X7_readItem X h g0 g1 lx tn a0 a1 a2 th ow co ro sl p0 hlx htn hrc hco hro hp0 hR)
theorem yv_X7_readItem : YV yX7_readItem cX7_readItem 3 (some .int) 2 := ⟨no_X7_readItem, nv_X7_readItem, ni_X7, nk_X7_readItem, by decide +kernel⟩
set_option maxRecDepth 100000 in
set_option maxHeartbeats 4000000 in
theorem w_X7_readInto_8 (X : Cx) {cI cE : ClassId} (h : Ok X cX7_readInto RX7 5 cI cE 5 0 0) (g0 : Nat) (g1 : Nat) (lx : Nat → Nat) (tn : Nat) (a0 : Nat) (a1 : Nat) (a2 : Nat) (th : Nat → Int32) (ow : Nat → Int32) (co : Int32) (ro : Int32) (sl : Int32) (hlx : ∀ j, lx j ≤ 126) (htn : tn ≤ 200) (hR : ∀ (r : Int32) (u : (Nat → Int32) × (Nat → Int32) × (Nat) × (Nat)), (∃ (q : Nat), (nI q = r) ∧ ((rdA lx tn 201 0 (th, ow, 0, 0)).1 = some q) ∧ (u.2.2.2 * u.2.2.1 ≤ 48) ∧ (u.2.2.1 ≤ 6) ∧ (u.2.2.2 ≤ 8) ∧ (q < tn) ∧ (True)) ∨ (((-4) = r) ∧ (rdA lx tn 201 0 (th, ow, 0, 0) = (none, u.1, u.2.1, u.2.2.1, u.2.2.2)) ∧ (u.2.2.2 * u.2.2.1 ≤ 48) ∧ (u.2.2.1 ≤ 6) ∧ (u.2.2.2 ≤ 8) ∧ (True)) → RetI X cX7_readInto 5 0 0 r [(g0, .inr (7, [.ref g1, .int (nI tn)])), (g1, .inl (cI, 200, .inl (nA lx))), (a0, .inr (0, [.ref a1, .ref a2, .int (nI u.2.2.1), .int (nI u.2.2.2), .int (nI 0)])), (a1, .inl (cI, 48, .inl u.1)), (a2, .inl (cI, 48, .inl u.2.1))]) : ∀ (n_8 : Nat) (i : Nat) (p : Nat) (t1 : Nat → Int32) (o1 : Nat → Int32) (c1 : Nat) (r1 : Nat), (i ≤ p) → (p ≤ tn + 11) → (rdA lx tn 201 0 (th, ow, 0, 0) = rdA lx tn (201 - i) p (t1, o1, c1, r1)) → (r1 * c1 ≤ 48) → (c1 ≤ 6) → (r1 ≤ 8) → 201 - i < n_8 → J X 5 0 0 8 [(0, .ref g0), (1, .ref a0), (2, .int (nI p)), (3, .int (nI i))] [] [(g0, .inr (7, [.ref g1, .int (nI tn)])), (g1, .inl (cI, 200, .inl (nA lx))), (a0, .inr (0, [.ref a1, .ref a2, .int (nI c1), .int (nI r1), .int (nI 0)])), (a1, .inl (cI, 48, .inl t1)), (a2, .inl (cI, 48, .inl o1))] := by
  intro n_8
  induction n_8 with
  | zero => intro i p t1 o1 c1 r1 hi hp hrd hrc1 hco1 hro1 hn_; exact absurd hn_ (Nat.not_lt_zero _)
  | succ n_8 ih_8 =>
    intro i p t1 o1 c1 r1 hi hp hrd hrc1 hco1 hro1 hn_8
    refine J_iload_n h (i := 3) dX7_readInto_8 rfl 3 rfl ?_
    refine J_sipush h (v := nI 200) dX7_readInto_9 (by decide) ?_
    refine N_icmp_ge h 49 dX7_readInto_12 (by decide) (by omega) (by omega) (fun c_12 => ?_) (fun c_12 => ?_)
    · skip
      refine J_bipush h (v := (-4)) dX7_readInto_49 (by decide) ?_
      exact hR ((-4)) (t1, o1, c1, r1) (by exact Or.inr ⟨rfl, by rw [hrd]; exact rdA_end (by omega) _ _, by assumption, by assumption, by assumption, trivial⟩) 51 _ dX7_readInto_51
    · skip
      refine J_iload_n h (i := 2) dX7_readInto_15 rfl 2 rfl ?_
      refine J_aload_n h (i := 0) dX7_readInto_16 rfl 0 rfl ?_
      refine J_get h inX7 rfl 0 1 (by decide) rfl rfl nf_X7_15 dX7_readInto_17 ?_
      refine N_icmp_ge h 49 dX7_readInto_20 (by decide) (by omega) (by omega) (fun c_20 => ?_) (fun c_20 => ?_)
      · skip
        refine J_bipush h (v := (-4)) dX7_readInto_49 (by decide) ?_
        exact hR ((-4)) (t1, o1, c1, r1) (by exact Or.inr ⟨rfl, by rw [hrd]; exact rdA_end (by omega) _ _, by assumption, by assumption, by assumption, trivial⟩) 51 _ dX7_readInto_51
      · skip
        refine J_aload_n h (i := 0) dX7_readInto_23 rfl 0 rfl ?_
        refine J_iload_n h (i := 2) dX7_readInto_24 rfl 2 rfl ?_
        refine J_aload_n h (i := 1) dX7_readInto_25 rfl 1 rfl ?_
        refine K_vi h (wr := []) (c_X7_readItem (xl X) (xD X) cI cE g0 g1 lx tn a0 a1 a2 t1 o1 c1 r1 (nI 0) p (by first | exact hlx |  assumption | omega | rfl) (by first | exact htn |  assumption | omega | rfl) (by first | assumption | omega | rfl) (by first | assumption | omega | rfl) (by first | assumption | omega | rfl) (by first | assumption | omega | rfl)) yv_X7_readItem nm_X7_24 (by decide) (by decide) rfl rfl 0 rfl rfl rfl rfl (Nat.le_of_ble_eq_true rfl) (Nat.le_refl _) (Nat.le_refl _) dX7_readInto_26 (fun r_26 u_26 p_26 => ?_)
        obtain ⟨th2_26, ow2_26, co2_26, ro2_26⟩ := u_26
        try dsimp only at p_26
        rcases p_26 with p_26 | p_26
        · obtain ⟨q_26, rfl, f0_26, f1_26, f2_26, f3_26, f4_26, f5_26, -⟩ := p_26
          show J X 5 0 0 29 [(0, .ref g0), (1, .ref a0), (2, .int (nI p)), (3, .int (nI i))] [.int (nI q_26)] [(g0, .inr (7, [.ref g1, .int (nI tn)])), (g1, .inl (cI, 200, .inl (nA lx))), (a0, .inr (0, [.ref a1, .ref a2, .int (nI co2_26), .int (nI ro2_26), .int (nI 0)])), (a1, .inl (cI, 48, .inl th2_26)), (a2, .inl (cI, 48, .inl ow2_26))]
          refine J_istore h (lv' := [(4, .int (nI q_26)), (0, .ref g0), (1, .ref a0), (2, .int (nI p)), (3, .int (nI i))]) dX7_readInto_29 (by decide) rfl ?_
          refine J_iload h dX7_readInto_31 0 rfl ?_
          refine J_bipush h (v := (-4)) dX7_readInto_33 (by decide) ?_
          refine T_icmp_ne h (A := ((q_26 : Nat) : Int)) (B := (-4)) 40 dX7_readInto_35 (by decide) (nI_toInt (by omega)) (by decide) (fun c_35 => ?_) (fun c_35 => absurd c_35 (by omega))
          refine J_iload h dX7_readInto_40 0 rfl ?_
          refine J_istore_n h (i := 2) (lv' := [(2, .int (nI q_26)), (4, .int (nI q_26)), (0, .ref g0), (1, .ref a0), (3, .int (nI i))]) dX7_readInto_42 rfl (by decide) rfl ?_
          refine J_iinc h (v := nI (i + 1)) (lv' := [(3, .int (nI (i + 1))), (2, .int (nI q_26)), (4, .int (nI q_26)), (0, .ref g0), (1, .ref a0)]) dX7_readInto_43 4 rfl (inc_ok _ 1) (by decide) rfl ?_
          refine J_goto h 8 dX7_readInto_46 (by decide) ?_
          refine J.loc [3, 4, 1, 0] (lv' := [(0, .ref g0), (1, .ref a0), (2, .int (nI q_26)), (3, .int (nI (i + 1)))]) rfl ?_
          exact ih_8 (i + 1) q_26 th2_26 ow2_26 co2_26 ro2_26 (by first | exact hi |  assumption | omega | rfl) (by first | exact hp |  assumption | omega | rfl) (by rw [hrd, show 201 - i = (201 - (i + 1)) + 1 by omega]; exact rdA_go (by omega) f0_26) (by first | exact hrc1 |  assumption | omega | rfl) (by first | exact hco1 |  assumption | omega | rfl) (by first | exact hro1 |  assumption | omega | rfl) (by omega)
        · obtain ⟨rfl, f0_26, f1_26, f2_26, f3_26, -⟩ := p_26
          show J X 5 0 0 29 [(0, .ref g0), (1, .ref a0), (2, .int (nI p)), (3, .int (nI i))] [.int (-4)] [(g0, .inr (7, [.ref g1, .int (nI tn)])), (g1, .inl (cI, 200, .inl (nA lx))), (a0, .inr (0, [.ref a1, .ref a2, .int (nI co2_26), .int (nI ro2_26), .int (nI 0)])), (a1, .inl (cI, 48, .inl th2_26)), (a2, .inl (cI, 48, .inl ow2_26))]
          refine J_istore h (lv' := [(4, .int (-4)), (0, .ref g0), (1, .ref a0), (2, .int (nI p)), (3, .int (nI i))]) dX7_readInto_29 (by decide) rfl ?_
          refine J_iload h dX7_readInto_31 0 rfl ?_
          refine J_bipush h (v := (-4)) dX7_readInto_33 (by decide) ?_
          refine T_icmp_ne h (A := (-4)) (B := (-4)) 40 dX7_readInto_35 (by decide) (by decide) (by decide) (fun c_35 => absurd c_35 (by omega)) (fun c_35 => ?_)
          refine J_iload_n h (i := 2) dX7_readInto_38 rfl 3 rfl ?_
          exact hR (nI p) (th2_26, ow2_26, co2_26, ro2_26) (by exact Or.inl ⟨_, rfl, by rw [hrd, show 201 - i = (201 - (i + 1)) + 1 by omega, rdA_no (by omega) f0_26], by assumption, by assumption, by assumption, by omega, trivial⟩) 39 _ dX7_readInto_39
set_option maxRecDepth 100000 in
set_option maxHeartbeats 4000000 in
theorem w_X7_readInto (X : Cx) {cI cE : ClassId} (h : Ok X cX7_readInto RX7 5 cI cE 5 0 0) (g0 : Nat) (g1 : Nat) (lx : Nat → Nat) (tn : Nat) (a0 : Nat) (a1 : Nat) (a2 : Nat) (th : Nat → Int32) (ow : Nat → Int32) (co : Int32) (ro : Int32) (sl : Int32) (hlx : ∀ j, lx j ≤ 126) (htn : tn ≤ 200) (hR : ∀ (r : Int32) (u : (Nat → Int32) × (Nat → Int32) × (Nat) × (Nat)), (∃ (q : Nat), (nI q = r) ∧ ((rdA lx tn 201 0 (th, ow, 0, 0)).1 = some q) ∧ (u.2.2.2 * u.2.2.1 ≤ 48) ∧ (u.2.2.1 ≤ 6) ∧ (u.2.2.2 ≤ 8) ∧ (q < tn) ∧ (True)) ∨ (((-4) = r) ∧ (rdA lx tn 201 0 (th, ow, 0, 0) = (none, u.1, u.2.1, u.2.2.1, u.2.2.2)) ∧ (u.2.2.2 * u.2.2.1 ≤ 48) ∧ (u.2.2.1 ≤ 6) ∧ (u.2.2.2 ≤ 8) ∧ (True)) → RetI X cX7_readInto 5 0 0 r [(g0, .inr (7, [.ref g1, .int (nI tn)])), (g1, .inl (cI, 200, .inl (nA lx))), (a0, .inr (0, [.ref a1, .ref a2, .int (nI u.2.2.1), .int (nI u.2.2.2), .int (nI 0)])), (a1, .inl (cI, 48, .inl u.1)), (a2, .inl (cI, 48, .inl u.2.1))]) : J X 5 0 0 0 [(0, .ref g0), (1, .ref a0)] [] [(g0, .inr (7, [.ref g1, .int (nI tn)])), (g1, .inl (cI, 200, .inl (nA lx))), (a0, .inr (0, [.ref a1, .ref a2, .int co, .int ro, .int sl])), (a1, .inl (cI, 48, .inl th)), (a2, .inl (cI, 48, .inl ow))] := by
  refine J_aload_n h (i := 1) dX7_readInto_0 rfl 1 rfl ?_
  refine J.wld [2, 3, 4, 0, 1] (ws' := [(a0, .inr (0, [.ref a1, .ref a2, .int co, .int ro, .int sl])), (a1, .inl (cI, 48, .inl th)), (a2, .inl (cI, 48, .inl ow)), (g0, .inr (7, [.ref g1, .int (nI tn)])), (g1, .inl (cI, 200, .inl (nA lx)))]) rfl rfl ?_
  refine K_vv h (wr := [(g0, .inr (7, [.ref g1, .int (nI tn)])), (g1, .inl (cI, 200, .inl (nA lx)))]) (c_X0_clear (xl X) (xD X) cI cE a0 a1 a2 th ow co ro sl ) yv_X0_clear nm_X7_19 (by decide) (by decide) rfl rfl 0 rfl rfl rfl rfl (Nat.le_of_ble_eq_true rfl) (Nat.le_refl _) (Nat.le_refl _) dX7_readInto_1 (fun u_1 p_1 => ?_)
  show J X 5 0 0 4 [(0, .ref g0), (1, .ref a0)] [] [(a0, .inr (0, [.ref a1, .ref a2, .int (nI 0), .int (nI 0), .int (nI 0)])), (a1, .inl (cI, 48, .inl th)), (a2, .inl (cI, 48, .inl ow)), (g0, .inr (7, [.ref g1, .int (nI tn)])), (g1, .inl (cI, 200, .inl (nA lx)))]
  refine J_iconst h (v := nI 0) dX7_readInto_4 (by decide) ?_
  refine J_istore_n h (i := 2) (lv' := [(2, .int (nI 0)), (0, .ref g0), (1, .ref a0)]) dX7_readInto_5 rfl (by decide) rfl ?_
  refine J_iconst h (v := nI 0) dX7_readInto_6 (by decide) ?_
  refine J_istore_n h (i := 3) (lv' := [(3, .int (nI 0)), (2, .int (nI 0)), (0, .ref g0), (1, .ref a0)]) dX7_readInto_7 rfl (by decide) rfl ?_
  refine J.wld [3, 4, 0, 1, 2] (ws' := [(g0, .inr (7, [.ref g1, .int (nI tn)])), (g1, .inl (cI, 200, .inl (nA lx))), (a0, .inr (0, [.ref a1, .ref a2, .int (nI 0), .int (nI 0), .int (nI 0)])), (a1, .inl (cI, 48, .inl th)), (a2, .inl (cI, 48, .inl ow))]) rfl rfl ?_
  refine J.loc [2, 3, 1, 0] (lv' := [(0, .ref g0), (1, .ref a0), (2, .int (nI 0)), (3, .int (nI 0))]) rfl ?_
  exact w_X7_readInto_8 X h g0 g1 lx tn a0 a1 a2 th ow co ro sl hlx htn hR  (201 - 0 + 1) 0 0 th ow 0 0 (by first | assumption | omega | rfl) (by first | assumption | omega | rfl) (by rfl) (by decide) (by decide) (by decide) (by omega)
theorem c_X7_readInto (l : Launch) (D : va_G) (cI cE : ClassId) (g0 : Nat) (g1 : Nat) (lx : Nat → Nat) (tn : Nat) (a0 : Nat) (a1 : Nat) (a2 : Nat) (th : Nat → Int32) (ow : Nat → Int32) (co : Int32) (ro : Int32) (sl : Int32) (hlx : ∀ j, lx j ≤ 126) (htn : tn ≤ 200) : Ci l D cI cE yX7_readInto cX7_readInto 5 (some .int) 5 0 0 [.ref g0, .ref a0] [(g0, .inr (7, [.ref g1, .int (nI tn)])), (g1, .inl (cI, 200, .inl (nA lx))), (a0, .inr (0, [.ref a1, .ref a2, .int co, .int ro, .int sl])), (a1, .inl (cI, 48, .inl th)), (a2, .inl (cI, 48, .inl ow))] (fun (r : Int32) (u : (Nat → Int32) × (Nat → Int32) × (Nat) × (Nat)) => (∃ (q : Nat), (nI q = r) ∧ ((rdA lx tn 201 0 (th, ow, 0, 0)).1 = some q) ∧ (u.2.2.2 * u.2.2.1 ≤ 48) ∧ (u.2.2.1 ≤ 6) ∧ (u.2.2.2 ≤ 8) ∧ (q < tn) ∧ (True)) ∨ (((-4) = r) ∧ (rdA lx tn 201 0 (th, ow, 0, 0) = (none, u.1, u.2.1, u.2.2.1, u.2.2.2)) ∧ (u.2.2.2 * u.2.2.1 ≤ 48) ∧ (u.2.2.1 ≤ 6) ∧ (u.2.2.2 ≤ 8) ∧ (True))) (fun (u : (Nat → Int32) × (Nat → Int32) × (Nat) × (Nat)) => ([(g0, .inr (7, [.ref g1, .int (nI tn)])), (g1, .inl (cI, 200, .inl (nA lx))), (a0, .inr (0, [.ref a1, .ref a2, .int (nI u.2.2.1), .int (nI u.2.2.2), .int (nI 0)])), (a1, .inl (cI, 48, .inl u.1)), (a2, .inl (cI, 48, .inl u.2.1))] : va_W)) :=
  Ci.of (by decide) (Nat.le_of_ble_eq_true rfl) (fun _ _ _ => rfl) (fun X h hR => w_X7_readInto X h g0 g1 lx tn a0 a1 a2 th ow co ro sl hlx htn hR)
theorem yv_X7_readInto : YV yX7_readInto cX7_readInto 5 (some .int) 1 := ⟨no_X7_readInto, nv_X7_readInto, ni_X7, nk_X7_readInto, by decide +kernel⟩
