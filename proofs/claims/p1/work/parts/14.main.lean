set_option maxRecDepth 100000 in
set_option maxHeartbeats 4000000 in
theorem w_X8_isFlag (X : Cx) {cI cE : ClassId} (h : Ok X cX8_isFlag RX8 1 cI cE 0 0 0) (p0 : Int32)  (hR : ∀ (r : Int32) (u : Unit), ((nI 1 = r) ∧ (vFlag p0) ∧ (True)) ∨ ((nI 0 = r) ∧ (¬ vFlag p0) ∧ (True)) → RetI X cX8_isFlag 1 0 0 r []) : J X 1 0 0 0 [(0, .int p0)] [] [] := by
  refine J_iload_n h (i := 0) dX8_isFlag_0 rfl 0 rfl ?_
  refine T_if_eq h (A := (p0).toInt) 9 dX8_isFlag_1 (by decide) (rfl) (fun c_1 => ?_) (fun c_1 => ?_)
  · skip
    refine J_iconst h (v := nI 1) dX8_isFlag_9 (by decide) ?_
    refine J_goto h 14 dX8_isFlag_10 (by decide) ?_
    exact hR (nI 1) () (Or.inl ⟨rfl, (by first | assumption | omega | rfl), trivial⟩) 14 _ dX8_isFlag_14
  · skip
    refine J_iload_n h (i := 0) dX8_isFlag_4 rfl 0 rfl ?_
    refine J_iconst h (v := nI 1) dX8_isFlag_5 (by decide) ?_
    refine T_icmp_ne h (A := (p0).toInt) (B := 1) 13 dX8_isFlag_6 (by decide) (rfl) (nI_toInt (by omega)) (fun c_6 => ?_) (fun c_6 => ?_)
    · skip
      refine J_iconst h (v := nI 0) dX8_isFlag_13 (by decide) ?_
      exact hR (nI 0) () (Or.inr (⟨rfl, (by first | assumption | omega | rfl), trivial⟩)) 14 _ dX8_isFlag_14
    · skip
      refine J_iconst h (v := nI 1) dX8_isFlag_9 (by decide) ?_
      refine J_goto h 14 dX8_isFlag_10 (by decide) ?_
      exact hR (nI 1) () (Or.inl ⟨rfl, (by first | assumption | omega | rfl), trivial⟩) 14 _ dX8_isFlag_14
theorem c_X8_isFlag (l : Launch) (D : va_G) (cI cE : ClassId) (p0 : Int32)  : Ci l D cI cE yX8_isFlag cX8_isFlag 1 (some .boolean) 0 0 0 [.int p0] [] (fun (r : Int32) (u : Unit) => ((nI 1 = r) ∧ (vFlag p0) ∧ (True)) ∨ ((nI 0 = r) ∧ (¬ vFlag p0) ∧ (True))) (fun (u : Unit) => ([] : va_W)) :=
  Ci.of (by decide) (Nat.le_of_ble_eq_true rfl) (fun r u hp => by rcases hp with ⟨hp, _⟩ | ⟨hp, _⟩ <;> (rw [← hp]; rfl)) (fun X h hR => w_X8_isFlag X h p0 hR)
theorem yv_X8_isFlag : YS yX8_isFlag cX8_isFlag 1 (some .boolean) 1 := ⟨ns_X8_isFlag, ni_X8, nk_X8_isFlag, by decide +kernel⟩
set_option maxRecDepth 100000 in
set_option maxHeartbeats 4000000 in
theorem w_X8_isHeels (X : Cx) {cI cE : ClassId} (h : Ok X cX8_isHeels RX8 1 cI cE 0 0 0) (p0 : Int32)  (hR : ∀ (r : Int32) (u : Unit), ((nI 1 = r) ∧ (vHeels p0) ∧ (True)) ∨ ((nI 0 = r) ∧ (¬ vHeels p0) ∧ (True)) → RetI X cX8_isHeels 1 0 0 r []) : J X 1 0 0 0 [(0, .int p0)] [] [] := by
  refine J_iload_n h (i := 0) dX8_isHeels_0 rfl 0 rfl ?_
  refine T_if_lt h (A := (p0).toInt) 10 dX8_isHeels_1 (by decide) (rfl) (fun c_1 => ?_) (fun c_1 => ?_)
  · skip
    refine J_iload_n h (i := 0) dX8_isHeels_10 rfl 0 rfl ?_
    refine J_bipush h (v := nI 10) dX8_isHeels_11 (by decide) ?_
    refine T_icmp_le h (A := (p0).toInt) (B := 10) 26 dX8_isHeels_13 (by decide) (rfl) (nI_toInt (by omega)) (fun c_13 => ?_) (fun c_13 => ?_)
    · skip
      refine J_iconst h (v := nI 0) dX8_isHeels_26 (by decide) ?_
      exact hR (nI 0) () (Or.inr (⟨rfl, (by first | assumption | omega | rfl), trivial⟩)) 27 _ dX8_isHeels_27
    · skip
      refine J_iload_n h (i := 0) dX8_isHeels_16 rfl 0 rfl ?_
      refine J_bipush h (v := nI 18) dX8_isHeels_17 (by decide) ?_
      refine T_icmp_gt h (A := (p0).toInt) (B := 18) 26 dX8_isHeels_19 (by decide) (rfl) (nI_toInt (by omega)) (fun c_19 => ?_) (fun c_19 => ?_)
      · skip
        refine J_iconst h (v := nI 0) dX8_isHeels_26 (by decide) ?_
        exact hR (nI 0) () (Or.inr (⟨rfl, (by first | assumption | omega | rfl), trivial⟩)) 27 _ dX8_isHeels_27
      · skip
        refine J_iconst h (v := nI 1) dX8_isHeels_22 (by decide) ?_
        refine J_goto h 27 dX8_isHeels_23 (by decide) ?_
        exact hR (nI 1) () (Or.inl ⟨rfl, (by first | assumption | omega | rfl), trivial⟩) 27 _ dX8_isHeels_27
  · skip
    refine J_iload_n h (i := 0) dX8_isHeels_4 rfl 0 rfl ?_
    refine J_bipush h (v := nI 8) dX8_isHeels_5 (by decide) ?_
    refine T_icmp_le h (A := (p0).toInt) (B := 8) 22 dX8_isHeels_7 (by decide) (rfl) (nI_toInt (by omega)) (fun c_7 => ?_) (fun c_7 => ?_)
    · skip
      refine J_iconst h (v := nI 1) dX8_isHeels_22 (by decide) ?_
      refine J_goto h 27 dX8_isHeels_23 (by decide) ?_
      exact hR (nI 1) () (Or.inl ⟨rfl, (by first | assumption | omega | rfl), trivial⟩) 27 _ dX8_isHeels_27
    · skip
      refine J_iload_n h (i := 0) dX8_isHeels_10 rfl 0 rfl ?_
      refine J_bipush h (v := nI 10) dX8_isHeels_11 (by decide) ?_
      refine T_icmp_le h (A := (p0).toInt) (B := 10) 26 dX8_isHeels_13 (by decide) (rfl) (nI_toInt (by omega)) (fun c_13 => ?_) (fun c_13 => ?_)
      · skip
        refine J_iconst h (v := nI 0) dX8_isHeels_26 (by decide) ?_
        exact hR (nI 0) () (Or.inr (⟨rfl, (by first | assumption | omega | rfl), trivial⟩)) 27 _ dX8_isHeels_27
      · skip
        refine J_iload_n h (i := 0) dX8_isHeels_16 rfl 0 rfl ?_
        refine J_bipush h (v := nI 18) dX8_isHeels_17 (by decide) ?_
        refine T_icmp_gt h (A := (p0).toInt) (B := 18) 26 dX8_isHeels_19 (by decide) (rfl) (nI_toInt (by omega)) (fun c_19 => ?_) (fun c_19 => ?_)
        · skip
          refine J_iconst h (v := nI 0) dX8_isHeels_26 (by decide) ?_
          exact hR (nI 0) () (Or.inr (⟨rfl, (by first | assumption | omega | rfl), trivial⟩)) 27 _ dX8_isHeels_27
        · skip
          refine J_iconst h (v := nI 1) dX8_isHeels_22 (by decide) ?_
          refine J_goto h 27 dX8_isHeels_23 (by decide) ?_
          exact hR (nI 1) () (Or.inl ⟨rfl, (by first | assumption | omega | rfl), trivial⟩) 27 _ dX8_isHeels_27
theorem c_X8_isHeels (l : Launch) (D : va_G) (cI cE : ClassId) (p0 : Int32)  : Ci l D cI cE yX8_isHeels cX8_isHeels 1 (some .boolean) 0 0 0 [.int p0] [] (fun (r : Int32) (u : Unit) => ((nI 1 = r) ∧ (vHeels p0) ∧ (True)) ∨ ((nI 0 = r) ∧ (¬ vHeels p0) ∧ (True))) (fun (u : Unit) => ([] : va_W)) :=
  Ci.of (by decide) (Nat.le_of_ble_eq_true rfl) (fun r u hp => by rcases hp with ⟨hp, _⟩ | ⟨hp, _⟩ <;> (rw [← hp]; rfl)) (fun X h hR => w_X8_isHeels X h p0 hR)
theorem yv_X8_isHeels : YS yX8_isHeels cX8_isHeels 1 (some .boolean) 1 := ⟨ns_X8_isHeels, ni_X8, nk_X8_isHeels, by decide +kernel⟩
set_option maxRecDepth 100000 in
set_option maxHeartbeats 4000000 in
theorem w_X8_isRide (X : Cx) {cI cE : ClassId} (h : Ok X cX8_isRide RX8 4 cI cE 1 0 0) (z0 : Nat) (g0 : Nat) (a0 : Nat) (f0 : Nat) (s0 : Nat) (k0 : Nat) (v0 : Nat) (d0 : Nat) (y0 : Nat) (m0 : Nat) (o0 : Nat) (a1 : Nat) (a2 : Nat) (th : Nat → Int32) (ow : Nat → Int32) (co : Nat) (ro : Nat) (sl : Int32) (p0 : Int32) (p1 : Int32) (p2 : Int32) (hco : co ≤ 6) (hR : ∀ (r : Int32) (u : Unit), (∃ (jx : Nat) (jw : Nat) (jh : Nat), (nI 1 = r) ∧ (jx < co) ∧ (1 ≤ jw) ∧ (jw ≤ 20) ∧ (jh ≤ 18) ∧ (vRide co p0 p1 p2) ∧ (p0 = nI jx) ∧ (p1 = nI jw) ∧ (p2 = nI jh) ∧ (True)) ∨ ((nI 0 = r) ∧ (¬ vRide co p0 p1 p2) ∧ (True)) → RetI X cX8_isRide 4 0 0 r [(z0, .inr (8, [.ref g0, .ref a0, .ref f0, .ref s0, .ref k0, .ref v0, .ref d0, .ref y0, .ref m0, .ref o0])), (a0, .inr (0, [.ref a1, .ref a2, .int (nI co), .int (nI ro), .int sl])), (a1, .inl (cI, 48, .inl th)), (a2, .inl (cI, 48, .inl ow))]) : J X 4 0 0 0 [(0, .ref z0), (1, .int p0), (2, .int p1), (3, .int p2)] [] [(z0, .inr (8, [.ref g0, .ref a0, .ref f0, .ref s0, .ref k0, .ref v0, .ref d0, .ref y0, .ref m0, .ref o0])), (a0, .inr (0, [.ref a1, .ref a2, .int (nI co), .int (nI ro), .int sl])), (a1, .inl (cI, 48, .inl th)), (a2, .inl (cI, 48, .inl ow))] := by
  refine J_aload_n h (i := 0) dX8_isRide_0 rfl 0 rfl ?_
  refine J_get h inX8 rfl 0 1 (by decide) rfl rfl nf_X8_19 dX8_isRide_1 ?_
  refine J_iload_n h (i := 1) dX8_isRide_4 rfl 1 rfl ?_
  refine K_vi h (c_X0_hasColumnT (xl X) (xD X) cI cE a0 a1 a2 th ow co ro sl p0 ((p0).toInt) (by first | assumption | omega | rfl) (by exact rfl)) yv_X0_hasColumn nm_X8_226 (by decide) (by decide) rfl [1, 2, 3] rfl rfl 0 rfl rfl rfl (fun _ => rfl) rfl (Nat.le_of_ble_eq_true rfl) (Nat.le_refl _) (Nat.le_refl _) dX8_isRide_5 (fun r_5 u_5 p_5 => ?_)
  rcases p_5 with p_5 | p_5
  · obtain ⟨rfl, f0_5, f1_5, -⟩ := p_5
    show J X 4 0 0 8 [(0, .ref z0), (1, .int p0), (2, .int p1), (3, .int p2)] [.int (nI 1)] [(z0, .inr (8, [.ref g0, .ref a0, .ref f0, .ref s0, .ref k0, .ref v0, .ref d0, .ref y0, .ref m0, .ref o0])), (a0, .inr (0, [.ref a1, .ref a2, .int (nI co), .int (nI ro), .int sl])), (a1, .inl (cI, 48, .inl th)), (a2, .inl (cI, 48, .inl ow))]
    refine J_if_eq h 33 dX8_isRide_8 (by decide) (fun z => absurd z (by decide)) (fun _ => ?_)
    refine J_iload_n h (i := 2) dX8_isRide_11 rfl 2 rfl ?_
    refine J_iconst h (v := nI 1) dX8_isRide_12 (by decide) ?_
    refine T_icmp_lt h (A := (p1).toInt) (B := 1) 33 dX8_isRide_13 (by decide) (rfl) (nI_toInt (by omega)) (fun c_13 => ?_) (fun c_13 => ?_)
    · skip
      refine J_iconst h (v := nI 0) dX8_isRide_33 (by decide) ?_
      exact hR (nI 0) () (by first | (obtain ⟨jx, hx1, rfl⟩ := toNI (x := p0) (n := co) (by omega) (by omega); obtain ⟨jw, hw1, rfl⟩ := toNI (x := p1) (n := 21) (by omega) (by omega); obtain ⟨jh, hh1, rfl⟩ := toNI (x := p2) (n := 19) (by omega) (by omega); have hw2 := tiI (j := jw) (by omega); exact Or.inl ⟨jx, jw, jh, rfl, hx1, by omega, by omega, by omega, by omega, rfl, rfl, rfl, trivial⟩) | exact Or.inr ⟨rfl, by omega, trivial⟩) 34 _ dX8_isRide_34
    · skip
      refine J_iload_n h (i := 2) dX8_isRide_16 rfl 2 rfl ?_
      refine J_bipush h (v := nI 20) dX8_isRide_17 (by decide) ?_
      refine T_icmp_gt h (A := (p1).toInt) (B := 20) 33 dX8_isRide_19 (by decide) (rfl) (nI_toInt (by omega)) (fun c_19 => ?_) (fun c_19 => ?_)
      · skip
        refine J_iconst h (v := nI 0) dX8_isRide_33 (by decide) ?_
        exact hR (nI 0) () (by first | (obtain ⟨jx, hx1, rfl⟩ := toNI (x := p0) (n := co) (by omega) (by omega); obtain ⟨jw, hw1, rfl⟩ := toNI (x := p1) (n := 21) (by omega) (by omega); obtain ⟨jh, hh1, rfl⟩ := toNI (x := p2) (n := 19) (by omega) (by omega); have hw2 := tiI (j := jw) (by omega); exact Or.inl ⟨jx, jw, jh, rfl, hx1, by omega, by omega, by omega, by omega, rfl, rfl, rfl, trivial⟩) | exact Or.inr ⟨rfl, by omega, trivial⟩) 34 _ dX8_isRide_34
      · skip
        refine J_iload_n h (i := 3) dX8_isRide_22 rfl 3 rfl ?_
        refine K_si h (c_X8_isHeels (xl X) (xD X) cI cE p2 ) yv_X8_isHeels nm_X8_255 (by decide) (by decide) rfl [] rfl rfl (fun _ => rfl) rfl (Nat.le_of_ble_eq_true rfl) (Nat.le_refl _) (Nat.le_refl _) dX8_isRide_23 (fun r_23 u_23 p_23 => ?_)
        rcases p_23 with p_23 | p_23
        · obtain ⟨rfl, f0_23, -⟩ := p_23
          show J X 4 0 0 26 [(0, .ref z0), (1, .int p0), (2, .int p1), (3, .int p2)] [.int (nI 1)] [(z0, .inr (8, [.ref g0, .ref a0, .ref f0, .ref s0, .ref k0, .ref v0, .ref d0, .ref y0, .ref m0, .ref o0])), (a0, .inr (0, [.ref a1, .ref a2, .int (nI co), .int (nI ro), .int sl])), (a1, .inl (cI, 48, .inl th)), (a2, .inl (cI, 48, .inl ow))]
          refine J_if_eq h 33 dX8_isRide_26 (by decide) (fun z => absurd z (by decide)) (fun _ => ?_)
          refine J_iconst h (v := nI 1) dX8_isRide_29 (by decide) ?_
          refine J_goto h 34 dX8_isRide_30 (by decide) ?_
          exact hR (nI 1) () (by first | (obtain ⟨jx, hx1, rfl⟩ := toNI (x := p0) (n := co) (by omega) (by omega); obtain ⟨jw, hw1, rfl⟩ := toNI (x := p1) (n := 21) (by omega) (by omega); obtain ⟨jh, hh1, rfl⟩ := toNI (x := p2) (n := 19) (by omega) (by omega); have hw2 := tiI (j := jw) (by omega); exact Or.inl ⟨jx, jw, jh, rfl, hx1, by omega, by omega, by omega, by omega, rfl, rfl, rfl, trivial⟩) | exact Or.inr ⟨rfl, by omega, trivial⟩) 34 _ dX8_isRide_34
        · obtain ⟨rfl, f0_23, -⟩ := p_23
          show J X 4 0 0 26 [(0, .ref z0), (1, .int p0), (2, .int p1), (3, .int p2)] [.int (nI 0)] [(z0, .inr (8, [.ref g0, .ref a0, .ref f0, .ref s0, .ref k0, .ref v0, .ref d0, .ref y0, .ref m0, .ref o0])), (a0, .inr (0, [.ref a1, .ref a2, .int (nI co), .int (nI ro), .int sl])), (a1, .inl (cI, 48, .inl th)), (a2, .inl (cI, 48, .inl ow))]
          refine J_if_eq h 33 dX8_isRide_26 (by decide) (fun _ => ?_) (fun z => absurd z (by decide))
          refine J_iconst h (v := nI 0) dX8_isRide_33 (by decide) ?_
          exact hR (nI 0) () (by first | (obtain ⟨jx, hx1, rfl⟩ := toNI (x := p0) (n := co) (by omega) (by omega); obtain ⟨jw, hw1, rfl⟩ := toNI (x := p1) (n := 21) (by omega) (by omega); obtain ⟨jh, hh1, rfl⟩ := toNI (x := p2) (n := 19) (by omega) (by omega); have hw2 := tiI (j := jw) (by omega); exact Or.inl ⟨jx, jw, jh, rfl, hx1, by omega, by omega, by omega, by omega, rfl, rfl, rfl, trivial⟩) | exact Or.inr ⟨rfl, by omega, trivial⟩) 34 _ dX8_isRide_34
  · obtain ⟨rfl, f0_5, -⟩ := p_5
    show J X 4 0 0 8 [(0, .ref z0), (1, .int p0), (2, .int p1), (3, .int p2)] [.int (nI 0)] [(z0, .inr (8, [.ref g0, .ref a0, .ref f0, .ref s0, .ref k0, .ref v0, .ref d0, .ref y0, .ref m0, .ref o0])), (a0, .inr (0, [.ref a1, .ref a2, .int (nI co), .int (nI ro), .int sl])), (a1, .inl (cI, 48, .inl th)), (a2, .inl (cI, 48, .inl ow))]
    refine J_if_eq h 33 dX8_isRide_8 (by decide) (fun _ => ?_) (fun z => absurd z (by decide))
    refine J_iconst h (v := nI 0) dX8_isRide_33 (by decide) ?_
    exact hR (nI 0) () (by first | (obtain ⟨jx, hx1, rfl⟩ := toNI (x := p0) (n := co) (by omega) (by omega); obtain ⟨jw, hw1, rfl⟩ := toNI (x := p1) (n := 21) (by omega) (by omega); obtain ⟨jh, hh1, rfl⟩ := toNI (x := p2) (n := 19) (by omega) (by omega); have hw2 := tiI (j := jw) (by omega); exact Or.inl ⟨jx, jw, jh, rfl, hx1, by omega, by omega, by omega, by omega, rfl, rfl, rfl, trivial⟩) | exact Or.inr ⟨rfl, by omega, trivial⟩) 34 _ dX8_isRide_34
theorem c_X8_isRide (l : Launch) (D : va_G) (cI cE : ClassId) (z0 : Nat) (g0 : Nat) (a0 : Nat) (f0 : Nat) (s0 : Nat) (k0 : Nat) (v0 : Nat) (d0 : Nat) (y0 : Nat) (m0 : Nat) (o0 : Nat) (a1 : Nat) (a2 : Nat) (th : Nat → Int32) (ow : Nat → Int32) (co : Nat) (ro : Nat) (sl : Int32) (p0 : Int32) (p1 : Int32) (p2 : Int32) (hco : co ≤ 6) : Ci l D cI cE yX8_isRide cX8_isRide 4 (some .boolean) 1 0 0 [.ref z0, .int p0, .int p1, .int p2] [(z0, .inr (8, [.ref g0, .ref a0, .ref f0, .ref s0, .ref k0, .ref v0, .ref d0, .ref y0, .ref m0, .ref o0])), (a0, .inr (0, [.ref a1, .ref a2, .int (nI co), .int (nI ro), .int sl])), (a1, .inl (cI, 48, .inl th)), (a2, .inl (cI, 48, .inl ow))] (fun (r : Int32) (u : Unit) => (∃ (jx : Nat) (jw : Nat) (jh : Nat), (nI 1 = r) ∧ (jx < co) ∧ (1 ≤ jw) ∧ (jw ≤ 20) ∧ (jh ≤ 18) ∧ (vRide co p0 p1 p2) ∧ (p0 = nI jx) ∧ (p1 = nI jw) ∧ (p2 = nI jh) ∧ (True)) ∨ ((nI 0 = r) ∧ (¬ vRide co p0 p1 p2) ∧ (True))) (fun (u : Unit) => ([(z0, .inr (8, [.ref g0, .ref a0, .ref f0, .ref s0, .ref k0, .ref v0, .ref d0, .ref y0, .ref m0, .ref o0])), (a0, .inr (0, [.ref a1, .ref a2, .int (nI co), .int (nI ro), .int sl])), (a1, .inl (cI, 48, .inl th)), (a2, .inl (cI, 48, .inl ow))] : va_W)) :=
  Ci.of (by decide) (Nat.le_of_ble_eq_true rfl) (fun r u hp => by rcases hp with ⟨_, _, _, hp, _⟩ | ⟨hp, _⟩ <;> (rw [← hp]; rfl)) (fun X h hR => w_X8_isRide X h z0 g0 a0 f0 s0 k0 v0 d0 y0 m0 o0 a1 a2 th ow co ro sl p0 p1 p2 hco hR)
theorem yv_X8_isRide : YV yX8_isRide cX8_isRide 4 (some .boolean) 3 := ⟨no_X8_isRide, nv_X8_isRide, ni_X8, nk_X8_isRide, by decide +kernel⟩
set_option maxRecDepth 100000 in
set_option maxHeartbeats 4000000 in
theorem w_X8_isEnd (X : Cx) {cI cE : ClassId} (h : Ok X cX8_isEnd RX8 2 cI cE 1 0 0) (z0 : Nat) (g0 : Nat) (a0 : Nat) (f0 : Nat) (s0 : Nat) (k0 : Nat) (v0 : Nat) (d0 : Nat) (y0 : Nat) (m0 : Nat) (o0 : Nat) (a1 : Nat) (a2 : Nat) (th : Nat → Int32) (ow : Nat → Int32) (co : Nat) (ro : Nat) (sl : Int32) (p0 : Int32) (hrc : ro * co ≤ 48) (hR : ∀ (r : Int32) (u : Unit), (∃ (jc : Nat), (nI 1 = r) ∧ (jc = 99 ∨ jc < ro * co) ∧ (vEnd (ro * co) p0) ∧ (p0 = nI jc) ∧ (True)) ∨ ((nI 0 = r) ∧ (¬ vEnd (ro * co) p0) ∧ (True)) → RetI X cX8_isEnd 2 0 0 r [(z0, .inr (8, [.ref g0, .ref a0, .ref f0, .ref s0, .ref k0, .ref v0, .ref d0, .ref y0, .ref m0, .ref o0])), (a0, .inr (0, [.ref a1, .ref a2, .int (nI co), .int (nI ro), .int sl])), (a1, .inl (cI, 48, .inl th)), (a2, .inl (cI, 48, .inl ow))]) : J X 2 0 0 0 [(0, .ref z0), (1, .int p0)] [] [(z0, .inr (8, [.ref g0, .ref a0, .ref f0, .ref s0, .ref k0, .ref v0, .ref d0, .ref y0, .ref m0, .ref o0])), (a0, .inr (0, [.ref a1, .ref a2, .int (nI co), .int (nI ro), .int sl])), (a1, .inl (cI, 48, .inl th)), (a2, .inl (cI, 48, .inl ow))] := by
  refine J_iload_n h (i := 1) dX8_isEnd_0 rfl 1 rfl ?_
  refine J_bipush h (v := nI 99) dX8_isEnd_1 (by decide) ?_
  refine T_icmp_eq h (A := (p0).toInt) (B := 99) 17 dX8_isEnd_3 (by decide) (rfl) (nI_toInt (by omega)) (fun c_3 => ?_) (fun c_3 => ?_)
  · skip
    refine J_iconst h (v := nI 1) dX8_isEnd_17 (by decide) ?_
    refine J_goto h 22 dX8_isEnd_18 (by decide) ?_
    exact hR (nI 1) () (by first | (obtain ⟨jc, hc1, rfl⟩ := toNI (x := p0) (n := 100) (by omega) (by omega); have hc2 := tiI (j := jc) (by omega); exact Or.inl ⟨jc, rfl, by omega, by omega, rfl, trivial⟩) | exact Or.inr ⟨rfl, by omega, trivial⟩) 22 _ dX8_isEnd_22
  · skip
    refine J_aload_n h (i := 0) dX8_isEnd_6 rfl 0 rfl ?_
    refine J_get h inX8 rfl 0 1 (by decide) rfl rfl nf_X8_19 dX8_isEnd_7 ?_
    refine J_iload_n h (i := 1) dX8_isEnd_10 rfl 1 rfl ?_
    refine K_vi h (c_X0_hasCellT (xl X) (xD X) cI cE a0 a1 a2 th ow co ro sl p0 ((p0).toInt) (by first | exact hrc |  assumption | omega | rfl) (by exact rfl)) yv_X0_hasCell nm_X8_114 (by decide) (by decide) rfl [1, 2, 3] rfl rfl 0 rfl rfl rfl (fun _ => rfl) rfl (Nat.le_of_ble_eq_true rfl) (Nat.le_refl _) (Nat.le_refl _) dX8_isEnd_11 (fun r_11 u_11 p_11 => ?_)
    rcases p_11 with p_11 | p_11
    · obtain ⟨rfl, f0_11, f1_11, -⟩ := p_11
      show J X 2 0 0 14 [(0, .ref z0), (1, .int p0)] [.int (nI 1)] [(z0, .inr (8, [.ref g0, .ref a0, .ref f0, .ref s0, .ref k0, .ref v0, .ref d0, .ref y0, .ref m0, .ref o0])), (a0, .inr (0, [.ref a1, .ref a2, .int (nI co), .int (nI ro), .int sl])), (a1, .inl (cI, 48, .inl th)), (a2, .inl (cI, 48, .inl ow))]
      refine J_if_eq h 21 dX8_isEnd_14 (by decide) (fun z => absurd z (by decide)) (fun _ => ?_)
      refine J_iconst h (v := nI 1) dX8_isEnd_17 (by decide) ?_
      refine J_goto h 22 dX8_isEnd_18 (by decide) ?_
      exact hR (nI 1) () (by first | (obtain ⟨jc, hc1, rfl⟩ := toNI (x := p0) (n := 100) (by omega) (by omega); have hc2 := tiI (j := jc) (by omega); exact Or.inl ⟨jc, rfl, by omega, by omega, rfl, trivial⟩) | exact Or.inr ⟨rfl, by omega, trivial⟩) 22 _ dX8_isEnd_22
    · obtain ⟨rfl, f0_11, -⟩ := p_11
      show J X 2 0 0 14 [(0, .ref z0), (1, .int p0)] [.int (nI 0)] [(z0, .inr (8, [.ref g0, .ref a0, .ref f0, .ref s0, .ref k0, .ref v0, .ref d0, .ref y0, .ref m0, .ref o0])), (a0, .inr (0, [.ref a1, .ref a2, .int (nI co), .int (nI ro), .int sl])), (a1, .inl (cI, 48, .inl th)), (a2, .inl (cI, 48, .inl ow))]
      refine J_if_eq h 21 dX8_isEnd_14 (by decide) (fun _ => ?_) (fun z => absurd z (by decide))
      refine J_iconst h (v := nI 0) dX8_isEnd_21 (by decide) ?_
      exact hR (nI 0) () (by first | (obtain ⟨jc, hc1, rfl⟩ := toNI (x := p0) (n := 100) (by omega) (by omega); have hc2 := tiI (j := jc) (by omega); exact Or.inl ⟨jc, rfl, by omega, by omega, rfl, trivial⟩) | exact Or.inr ⟨rfl, by omega, trivial⟩) 22 _ dX8_isEnd_22
theorem c_X8_isEnd (l : Launch) (D : va_G) (cI cE : ClassId) (z0 : Nat) (g0 : Nat) (a0 : Nat) (f0 : Nat) (s0 : Nat) (k0 : Nat) (v0 : Nat) (d0 : Nat) (y0 : Nat) (m0 : Nat) (o0 : Nat) (a1 : Nat) (a2 : Nat) (th : Nat → Int32) (ow : Nat → Int32) (co : Nat) (ro : Nat) (sl : Int32) (p0 : Int32) (hrc : ro * co ≤ 48) : Ci l D cI cE yX8_isEnd cX8_isEnd 2 (some .boolean) 1 0 0 [.ref z0, .int p0] [(z0, .inr (8, [.ref g0, .ref a0, .ref f0, .ref s0, .ref k0, .ref v0, .ref d0, .ref y0, .ref m0, .ref o0])), (a0, .inr (0, [.ref a1, .ref a2, .int (nI co), .int (nI ro), .int sl])), (a1, .inl (cI, 48, .inl th)), (a2, .inl (cI, 48, .inl ow))] (fun (r : Int32) (u : Unit) => (∃ (jc : Nat), (nI 1 = r) ∧ (jc = 99 ∨ jc < ro * co) ∧ (vEnd (ro * co) p0) ∧ (p0 = nI jc) ∧ (True)) ∨ ((nI 0 = r) ∧ (¬ vEnd (ro * co) p0) ∧ (True))) (fun (u : Unit) => ([(z0, .inr (8, [.ref g0, .ref a0, .ref f0, .ref s0, .ref k0, .ref v0, .ref d0, .ref y0, .ref m0, .ref o0])), (a0, .inr (0, [.ref a1, .ref a2, .int (nI co), .int (nI ro), .int sl])), (a1, .inl (cI, 48, .inl th)), (a2, .inl (cI, 48, .inl ow))] : va_W)) :=
  Ci.of (by decide) (Nat.le_of_ble_eq_true rfl) (fun r u hp => by rcases hp with ⟨_, hp, _⟩ | ⟨hp, _⟩ <;> (rw [← hp]; rfl)) (fun X h hR => w_X8_isEnd X h z0 g0 a0 f0 s0 k0 v0 d0 y0 m0 o0 a1 a2 th ow co ro sl p0 hrc hR)
theorem yv_X8_isEnd : YV yX8_isEnd cX8_isEnd 2 (some .boolean) 1 := ⟨no_X8_isEnd, nv_X8_isEnd, ni_X8, nk_X8_isEnd, by decide +kernel⟩
set_option maxRecDepth 100000 in
set_option maxHeartbeats 4000000 in
theorem w_X8_sideOrNone (X : Cx) {cI cE : ClassId} (h : Ok X cX8_sideOrNone RX8 1 cI cE 0 0 0) (p0 : Int32)  (hR : ∀ (r : Int32) (u : Unit), ((sON p0 = r) ∧ (True)) → RetI X cX8_sideOrNone 1 0 0 r []) : J X 1 0 0 0 [(0, .int p0)] [] [] := by
  refine J_iload_n h (i := 0) dX8_sideOrNone_0 rfl 0 rfl ?_
  refine J_iconst h (v := nI 4) dX8_sideOrNone_1 (by decide) ?_
  refine T_icmp_ne h (A := (p0).toInt) (B := 4) 10 dX8_sideOrNone_2 (by decide) (rfl) (nI_toInt (by omega)) (fun c_2 => ?_) (fun c_2 => ?_)
  · skip
    refine J_iload_n h (i := 0) dX8_sideOrNone_10 rfl 0 rfl ?_
    exact hR p0 () (⟨(by unfold sON; first | (rw [if_pos (by omega)]; done) | (rw [if_neg (by omega)]; done)), trivial⟩) 11 _ dX8_sideOrNone_11
  · skip
    refine J_bipush h (v := (-4)) dX8_sideOrNone_5 (by decide) ?_
    refine J_goto h 11 dX8_sideOrNone_7 (by decide) ?_
    exact hR ((-4)) () (⟨(by unfold sON; first | (rw [if_pos (by omega)]; done) | (rw [if_neg (by omega)]; done)), trivial⟩) 11 _ dX8_sideOrNone_11
theorem c_X8_sideOrNone (l : Launch) (D : va_G) (cI cE : ClassId) (p0 : Int32)  : Ci l D cI cE yX8_sideOrNone cX8_sideOrNone 1 (some .int) 0 0 0 [.int p0] [] (fun (r : Int32) (u : Unit) => ((sON p0 = r) ∧ (True))) (fun (u : Unit) => ([] : va_W)) :=
  Ci.of (by decide) (Nat.le_of_ble_eq_true rfl) (fun _ _ _ => rfl) (fun X h hR => w_X8_sideOrNone X h p0 hR)
theorem yv_X8_sideOrNone : YS yX8_sideOrNone cX8_sideOrNone 1 (some .int) 1 := ⟨ns_X8_sideOrNone, ni_X8, nk_X8_sideOrNone, by decide +kernel⟩
set_option maxRecDepth 100000 in
set_option maxHeartbeats 4000000 in
theorem w_X8_write (X : Cx) {cI cE : ClassId} (h : Ok X cX8_write RX8 2 cI cE 1 0 0) (z0 : Nat) (g0 : Nat) (a0 : Nat) (f0 : Nat) (s0 : Nat) (k0 : Nat) (v0 : Nat) (d0 : Nat) (y0 : Nat) (m0 : Nat) (o0 : Nat) (g1 : Nat) (lx : Nat → Nat) (tn : Nat) (p0 : Int32) (hlx : ∀ j, lx j ≤ 126) (htn : tn ≤ 200) (hR : ∀ (r : Int32) (u : (Nat → Nat) × (Nat)), ((nI (tn + 1) = r) ∧ (32 ≤ p0.toInt ∧ p0.toInt ≤ 126) ∧ (tn < 200) ∧ ((va_up lx tn (ton p0)) = u.1) ∧ ((tn + 1) = u.2) ∧ (True)) ∨ (((-3) = r) ∧ (32 ≤ p0.toInt ∧ p0.toInt ≤ 126) ∧ (tn = 200) ∧ ((lx) = u.1) ∧ ((tn) = u.2) ∧ (True)) ∨ (((-1) = r) ∧ (¬ (32 ≤ p0.toInt ∧ p0.toInt ≤ 126)) ∧ ((lx) = u.1) ∧ ((tn) = u.2) ∧ (True)) → RetI X cX8_write 2 0 0 r [(z0, .inr (8, [.ref g0, .ref a0, .ref f0, .ref s0, .ref k0, .ref v0, .ref d0, .ref y0, .ref m0, .ref o0])), (g0, .inr (7, [.ref g1, .int (nI u.2)])), (g1, .inl (cI, 200, .inl (nA u.1)))]) : J X 2 0 0 0 [(0, .ref z0), (1, .int p0)] [] [(z0, .inr (8, [.ref g0, .ref a0, .ref f0, .ref s0, .ref k0, .ref v0, .ref d0, .ref y0, .ref m0, .ref o0])), (g0, .inr (7, [.ref g1, .int (nI tn)])), (g1, .inl (cI, 200, .inl (nA lx)))] := by
  refine J_iload_n h (i := 1) dX8_write_0 rfl 1 rfl ?_
  refine J_bipush h (v := nI 32) dX8_write_1 (by decide) ?_
  refine T_icmp_lt h (A := (p0).toInt) (B := 32) 12 dX8_write_3 (by decide) (rfl) (nI_toInt (by omega)) (fun c_3 => ?_) (fun c_3 => ?_)
  · skip
    refine J_iconst h (v := (-1)) dX8_write_12 (by decide) ?_
    exact hR ((-1)) (lx, tn) (by exact Or.inr (Or.inr ⟨rfl, by omega, rfl, rfl, trivial⟩)) 13 _ dX8_write_13
  · skip
    refine J_iload_n h (i := 1) dX8_write_6 rfl 1 rfl ?_
    refine J_bipush h (v := nI 126) dX8_write_7 (by decide) ?_
    refine T_icmp_le h (A := (p0).toInt) (B := 126) 14 dX8_write_9 (by decide) (rfl) (nI_toInt (by omega)) (fun c_9 => ?_) (fun c_9 => ?_)
    · skip
      obtain ⟨j, hj, rfl⟩ := toNI (x := p0) (n := 127) (by omega) (by omega)
      have htj := tiI (j := j) (by omega)
      refine J_aload_n h (i := 0) dX8_write_14 rfl 0 rfl ?_
      refine J_get h inX8 rfl 0 0 (by decide) rfl rfl nf_X8_12 dX8_write_15 ?_
      refine J_iload_n h (i := 1) dX8_write_18 rfl 1 rfl ?_
      refine K_vi h (c_X7_append (xl X) (xD X) cI cE g0 g1 lx tn j (by first | exact hlx |  assumption | omega | rfl) (by first | exact htn |  assumption | omega | rfl)) yv_X7_append nm_X8_85 (by decide) (by decide) rfl [1, 2] rfl rfl 0 rfl rfl rfl (fun _ => rfl) rfl (Nat.le_of_ble_eq_true rfl) (Nat.le_refl _) (Nat.le_refl _) dX8_write_19 (fun r_19 u_19 p_19 => ?_)
      obtain ⟨lx2_19, tn2_19⟩ := u_19
      try dsimp only at p_19
      rcases p_19 with p_19 | p_19
      · obtain ⟨rfl, f0_19, rfl, rfl, -⟩ := p_19
        show J X 2 0 0 22 [(0, .ref z0), (1, .int (nI j))] [.int (nI 1)] [(z0, .inr (8, [.ref g0, .ref a0, .ref f0, .ref s0, .ref k0, .ref v0, .ref d0, .ref y0, .ref m0, .ref o0])), (g0, .inr (7, [.ref g1, .int (nI (tn + 1))])), (g1, .inl (cI, 200, .inl (nA (va_up lx tn j))))]
        refine J_if_eq h 35 dX8_write_22 (by decide) (fun z => absurd z (by decide)) (fun _ => ?_)
        refine J_aload_n h (i := 0) dX8_write_25 rfl 0 rfl ?_
        refine J_get h inX8 rfl 0 0 (by decide) rfl rfl nf_X8_12 dX8_write_26 ?_
        refine J_get h inX7 rfl 1 1 (by decide) rfl rfl nf_X8_100 dX8_write_29 ?_
        refine J_goto h 37 dX8_write_32 (by decide) ?_
        exact hR (nI (tn + 1)) (va_up lx tn j, tn + 1) (by first | exact Or.inl ⟨rfl, by omega, by omega, by rw [show ton (nI j) = j from nI_clamp (by omega)], rfl, trivial⟩ | exact Or.inr (Or.inl ⟨rfl, by omega, by omega, rfl, rfl, trivial⟩)) 37 _ dX8_write_37
      · obtain ⟨rfl, f0_19, rfl, rfl, -⟩ := p_19
        show J X 2 0 0 22 [(0, .ref z0), (1, .int (nI j))] [.int (nI 0)] [(z0, .inr (8, [.ref g0, .ref a0, .ref f0, .ref s0, .ref k0, .ref v0, .ref d0, .ref y0, .ref m0, .ref o0])), (g0, .inr (7, [.ref g1, .int (nI tn)])), (g1, .inl (cI, 200, .inl (nA lx)))]
        refine J_if_eq h 35 dX8_write_22 (by decide) (fun _ => ?_) (fun z => absurd z (by decide))
        refine J_bipush h (v := (-3)) dX8_write_35 (by decide) ?_
        exact hR ((-3)) (lx, tn) (by first | exact Or.inl ⟨rfl, by omega, by omega, by rw [show ton (nI j) = j from nI_clamp (by omega)], rfl, trivial⟩ | exact Or.inr (Or.inl ⟨rfl, by omega, by omega, rfl, rfl, trivial⟩)) 37 _ dX8_write_37
    · skip
      refine J_iconst h (v := (-1)) dX8_write_12 (by decide) ?_
      exact hR ((-1)) (lx, tn) (by exact Or.inr (Or.inr ⟨rfl, by omega, rfl, rfl, trivial⟩)) 13 _ dX8_write_13
theorem c_X8_write (l : Launch) (D : va_G) (cI cE : ClassId) (z0 : Nat) (g0 : Nat) (a0 : Nat) (f0 : Nat) (s0 : Nat) (k0 : Nat) (v0 : Nat) (d0 : Nat) (y0 : Nat) (m0 : Nat) (o0 : Nat) (g1 : Nat) (lx : Nat → Nat) (tn : Nat) (p0 : Int32) (hlx : ∀ j, lx j ≤ 126) (htn : tn ≤ 200) : Ci l D cI cE yX8_write cX8_write 2 (some .int) 1 0 0 [.ref z0, .int p0] [(z0, .inr (8, [.ref g0, .ref a0, .ref f0, .ref s0, .ref k0, .ref v0, .ref d0, .ref y0, .ref m0, .ref o0])), (g0, .inr (7, [.ref g1, .int (nI tn)])), (g1, .inl (cI, 200, .inl (nA lx)))] (fun (r : Int32) (u : (Nat → Nat) × (Nat)) => ((nI (tn + 1) = r) ∧ (32 ≤ p0.toInt ∧ p0.toInt ≤ 126) ∧ (tn < 200) ∧ ((va_up lx tn (ton p0)) = u.1) ∧ ((tn + 1) = u.2) ∧ (True)) ∨ (((-3) = r) ∧ (32 ≤ p0.toInt ∧ p0.toInt ≤ 126) ∧ (tn = 200) ∧ ((lx) = u.1) ∧ ((tn) = u.2) ∧ (True)) ∨ (((-1) = r) ∧ (¬ (32 ≤ p0.toInt ∧ p0.toInt ≤ 126)) ∧ ((lx) = u.1) ∧ ((tn) = u.2) ∧ (True))) (fun (u : (Nat → Nat) × (Nat)) => ([(z0, .inr (8, [.ref g0, .ref a0, .ref f0, .ref s0, .ref k0, .ref v0, .ref d0, .ref y0, .ref m0, .ref o0])), (g0, .inr (7, [.ref g1, .int (nI u.2)])), (g1, .inl (cI, 200, .inl (nA u.1)))] : va_W)) :=
  Ci.of (by decide) (Nat.le_of_ble_eq_true rfl) (fun _ _ _ => rfl) (fun X h hR => w_X8_write X h z0 g0 a0 f0 s0 k0 v0 d0 y0 m0 o0 g1 lx tn p0 hlx htn hR)
theorem yv_X8_write : YV yX8_write cX8_write 2 (some .int) 1 := ⟨no_X8_write, nv_X8_write, ni_X8, nk_X8_write, by decide +kernel⟩
set_option maxRecDepth 100000 in
set_option maxHeartbeats 4000000 in
theorem w_X8_wipe (X : Cx) {cI cE : ClassId} (h : Ok X cX8_wipe RX8 2 cI cE 1 0 0) (z0 : Nat) (g0 : Nat) (a0 : Nat) (f0 : Nat) (s0 : Nat) (k0 : Nat) (v0 : Nat) (d0 : Nat) (y0 : Nat) (m0 : Nat) (o0 : Nat) (g1 : Nat) (lx : Nat → Nat) (tn : Nat)  (hR : ∀ (r : Int32) (u : Unit), ((nI tn = r) ∧ (True)) → RetI X cX8_wipe 2 0 0 r [(z0, .inr (8, [.ref g0, .ref a0, .ref f0, .ref s0, .ref k0, .ref v0, .ref d0, .ref y0, .ref m0, .ref o0])), (g0, .inr (7, [.ref g1, .int (nI 0)])), (g1, .inl (cI, 200, .inl (nA lx)))]) : J X 2 0 0 0 [(0, .ref z0)] [] [(z0, .inr (8, [.ref g0, .ref a0, .ref f0, .ref s0, .ref k0, .ref v0, .ref d0, .ref y0, .ref m0, .ref o0])), (g0, .inr (7, [.ref g1, .int (nI tn)])), (g1, .inl (cI, 200, .inl (nA lx)))] := by
  refine J_aload_n h (i := 0) dX8_wipe_0 rfl 0 rfl ?_
  refine J_get h inX8 rfl 0 0 (by decide) rfl rfl nf_X8_12 dX8_wipe_1 ?_
  refine J_get h inX7 rfl 1 1 (by decide) rfl rfl nf_X8_100 dX8_wipe_4 ?_
  refine J_istore_n h (i := 1) (lv' := [(1, .int (nI tn)), (0, .ref z0)]) dX8_wipe_7 rfl (by decide) rfl ?_
  refine J_aload_n h (i := 0) dX8_wipe_8 rfl 1 rfl ?_
  refine J_get h inX8 rfl 0 0 (by decide) rfl rfl nf_X8_12 dX8_wipe_9 ?_
  refine K_vv h (c_X7_clear (xl X) (xD X) cI cE g0 g1 lx tn ) yv_X7_clear nm_X8_97 (by decide) (by decide) rfl [1, 2] rfl rfl 0 rfl rfl rfl (fun _ => rfl) rfl (Nat.le_of_ble_eq_true rfl) (Nat.le_refl _) (Nat.le_refl _) dX8_wipe_12 (fun u_12 p_12 => ?_)
  show J X 2 0 0 15 [(1, .int (nI tn)), (0, .ref z0)] [] [(z0, .inr (8, [.ref g0, .ref a0, .ref f0, .ref s0, .ref k0, .ref v0, .ref d0, .ref y0, .ref m0, .ref o0])), (g0, .inr (7, [.ref g1, .int (nI 0)])), (g1, .inl (cI, 200, .inl (nA lx)))]
  refine J_iload_n h (i := 1) dX8_wipe_15 rfl 0 rfl ?_
  exact hR (nI tn) () (⟨rfl, trivial⟩) 16 _ dX8_wipe_16
theorem c_X8_wipe (l : Launch) (D : va_G) (cI cE : ClassId) (z0 : Nat) (g0 : Nat) (a0 : Nat) (f0 : Nat) (s0 : Nat) (k0 : Nat) (v0 : Nat) (d0 : Nat) (y0 : Nat) (m0 : Nat) (o0 : Nat) (g1 : Nat) (lx : Nat → Nat) (tn : Nat)  : Ci l D cI cE yX8_wipe cX8_wipe 2 (some .int) 1 0 0 [.ref z0] [(z0, .inr (8, [.ref g0, .ref a0, .ref f0, .ref s0, .ref k0, .ref v0, .ref d0, .ref y0, .ref m0, .ref o0])), (g0, .inr (7, [.ref g1, .int (nI tn)])), (g1, .inl (cI, 200, .inl (nA lx)))] (fun (r : Int32) (u : Unit) => ((nI tn = r) ∧ (True))) (fun (u : Unit) => ([(z0, .inr (8, [.ref g0, .ref a0, .ref f0, .ref s0, .ref k0, .ref v0, .ref d0, .ref y0, .ref m0, .ref o0])), (g0, .inr (7, [.ref g1, .int (nI 0)])), (g1, .inl (cI, 200, .inl (nA lx)))] : va_W)) :=
  Ci.of (by decide) (Nat.le_of_ble_eq_true rfl) (fun _ _ _ => rfl) (fun X h hR => w_X8_wipe X h z0 g0 a0 f0 s0 k0 v0 d0 y0 m0 o0 g1 lx tn hR)
theorem yv_X8_wipe : YV yX8_wipe cX8_wipe 2 (some .int) 0 := ⟨no_X8_wipe, nv_X8_wipe, ni_X8, nk_X8_wipe, by decide +kernel⟩
set_option maxRecDepth 100000 in
set_option maxHeartbeats 4000000 in
theorem w_X8_fault (X : Cx) {cI cE : ClassId} (h : Ok X cX8_fault RX8 1 cI cE 6 0 0) (z0 : Nat) (g0 : Nat) (a0 : Nat) (f0 : Nat) (s0 : Nat) (k0 : Nat) (v0 : Nat) (d0 : Nat) (y0 : Nat) (m0 : Nat) (o0 : Nat) (g1 : Nat) (lx : Nat → Nat) (tn : Nat) (f1 : Nat) (f2 : Nat) (dth : Nat → Int32) (dow : Nat → Int32) (dco : Int32) (dro : Int32) (dsl : Int32) (hlx : ∀ j, lx j ≤ 126) (htn : tn ≤ 200) (hR : ∀ (r : Int32) (u : (Nat → Int32) × (Nat → Int32) × (Nat) × (Nat)), ((fltO (rdA lx tn 201 0 (dth, dow, 0, 0)).1 = r) ∧ (True)) → RetI X cX8_fault 1 0 0 r [(z0, .inr (8, [.ref g0, .ref a0, .ref f0, .ref s0, .ref k0, .ref v0, .ref d0, .ref y0, .ref m0, .ref o0])), (g0, .inr (7, [.ref g1, .int (nI tn)])), (g1, .inl (cI, 200, .inl (nA lx))), (f0, .inr (0, [.ref f1, .ref f2, .int (nI u.2.2.1), .int (nI u.2.2.2), .int (nI 0)])), (f1, .inl (cI, 48, .inl u.1)), (f2, .inl (cI, 48, .inl u.2.1))]) : J X 1 0 0 0 [(0, .ref z0)] [] [(z0, .inr (8, [.ref g0, .ref a0, .ref f0, .ref s0, .ref k0, .ref v0, .ref d0, .ref y0, .ref m0, .ref o0])), (g0, .inr (7, [.ref g1, .int (nI tn)])), (g1, .inl (cI, 200, .inl (nA lx))), (f0, .inr (0, [.ref f1, .ref f2, .int dco, .int dro, .int dsl])), (f1, .inl (cI, 48, .inl dth)), (f2, .inl (cI, 48, .inl dow))] := by
  refine J_aload_n h (i := 0) dX8_fault_0 rfl 0 rfl ?_
  refine J_get h inX8 rfl 0 0 (by decide) rfl rfl nf_X8_12 dX8_fault_1 ?_
  refine J_aload_n h (i := 0) dX8_fault_4 rfl 0 rfl ?_
  refine J_get h inX8 rfl 0 2 (by decide) rfl rfl nf_X8_23 dX8_fault_5 ?_
  refine K_vi h (c_X7_readInto (xl X) (xD X) cI cE g0 g1 lx tn f0 f1 f2 dth dow dco dro dsl (by first | exact hlx |  assumption | omega | rfl) (by first | exact htn |  assumption | omega | rfl)) yv_X7_readInto nm_X8_89 (by decide) (by decide) rfl [1, 2, 3, 4, 5] rfl rfl 0 rfl rfl rfl (fun _ => rfl) rfl (Nat.le_of_ble_eq_true rfl) (Nat.le_refl _) (Nat.le_refl _) dX8_fault_8 (fun r_8 u_8 p_8 => ?_)
  obtain ⟨th2_8, ow2_8, co2_8, ro2_8⟩ := u_8
  try dsimp only at p_8
  rcases p_8 with p_8 | p_8
  · obtain ⟨q_8, rfl, f0_8, f1_8, f2_8, f3_8, f4_8, -⟩ := p_8
    show J X 1 0 0 11 [(0, .ref z0)] [.int (nI q_8)] [(z0, .inr (8, [.ref g0, .ref a0, .ref f0, .ref s0, .ref k0, .ref v0, .ref d0, .ref y0, .ref m0, .ref o0])), (g0, .inr (7, [.ref g1, .int (nI tn)])), (g1, .inl (cI, 200, .inl (nA lx))), (f0, .inr (0, [.ref f1, .ref f2, .int (nI co2_8), .int (nI ro2_8), .int (nI 0)])), (f1, .inl (cI, 48, .inl th2_8)), (f2, .inl (cI, 48, .inl ow2_8))]
    exact hR (nI q_8) (th2_8, ow2_8, co2_8, ro2_8) (by first | exact ⟨by rw [f0_8]; rfl, trivial⟩) 11 _ dX8_fault_11
  · obtain ⟨rfl, f0_8, f1_8, f2_8, f3_8, -⟩ := p_8
    show J X 1 0 0 11 [(0, .ref z0)] [.int (-4)] [(z0, .inr (8, [.ref g0, .ref a0, .ref f0, .ref s0, .ref k0, .ref v0, .ref d0, .ref y0, .ref m0, .ref o0])), (g0, .inr (7, [.ref g1, .int (nI tn)])), (g1, .inl (cI, 200, .inl (nA lx))), (f0, .inr (0, [.ref f1, .ref f2, .int (nI co2_8), .int (nI ro2_8), .int (nI 0)])), (f1, .inl (cI, 48, .inl th2_8)), (f2, .inl (cI, 48, .inl ow2_8))]
    exact hR (-4) (th2_8, ow2_8, co2_8, ro2_8) (by first | exact ⟨by rw [f0_8]; rfl, trivial⟩) 11 _ dX8_fault_11
theorem c_X8_fault (l : Launch) (D : va_G) (cI cE : ClassId) (z0 : Nat) (g0 : Nat) (a0 : Nat) (f0 : Nat) (s0 : Nat) (k0 : Nat) (v0 : Nat) (d0 : Nat) (y0 : Nat) (m0 : Nat) (o0 : Nat) (g1 : Nat) (lx : Nat → Nat) (tn : Nat) (f1 : Nat) (f2 : Nat) (dth : Nat → Int32) (dow : Nat → Int32) (dco : Int32) (dro : Int32) (dsl : Int32) (hlx : ∀ j, lx j ≤ 126) (htn : tn ≤ 200) : Ci l D cI cE yX8_fault cX8_fault 1 (some .int) 6 0 0 [.ref z0] [(z0, .inr (8, [.ref g0, .ref a0, .ref f0, .ref s0, .ref k0, .ref v0, .ref d0, .ref y0, .ref m0, .ref o0])), (g0, .inr (7, [.ref g1, .int (nI tn)])), (g1, .inl (cI, 200, .inl (nA lx))), (f0, .inr (0, [.ref f1, .ref f2, .int dco, .int dro, .int dsl])), (f1, .inl (cI, 48, .inl dth)), (f2, .inl (cI, 48, .inl dow))] (fun (r : Int32) (u : (Nat → Int32) × (Nat → Int32) × (Nat) × (Nat)) => ((fltO (rdA lx tn 201 0 (dth, dow, 0, 0)).1 = r) ∧ (True))) (fun (u : (Nat → Int32) × (Nat → Int32) × (Nat) × (Nat)) => ([(z0, .inr (8, [.ref g0, .ref a0, .ref f0, .ref s0, .ref k0, .ref v0, .ref d0, .ref y0, .ref m0, .ref o0])), (g0, .inr (7, [.ref g1, .int (nI tn)])), (g1, .inl (cI, 200, .inl (nA lx))), (f0, .inr (0, [.ref f1, .ref f2, .int (nI u.2.2.1), .int (nI u.2.2.2), .int (nI 0)])), (f1, .inl (cI, 48, .inl u.1)), (f2, .inl (cI, 48, .inl u.2.1))] : va_W)) :=
  Ci.of (by decide) (Nat.le_of_ble_eq_true rfl) (fun _ _ _ => rfl) (fun X h hR => w_X8_fault X h z0 g0 a0 f0 s0 k0 v0 d0 y0 m0 o0 g1 lx tn f1 f2 dth dow dco dro dsl hlx htn hR)
theorem yv_X8_fault : YV yX8_fault cX8_fault 1 (some .int) 0 := ⟨no_X8_fault, nv_X8_fault, ni_X8, nk_X8_fault, by decide +kernel⟩
set_option maxRecDepth 100000 in
set_option maxHeartbeats 4000000 in
theorem w_X8_cell (X : Cx) {cI cE : ClassId} (h : Ok X cX8_cell RX8 3 cI cE 2 0 0) (z0 : Nat) (g0 : Nat) (a0 : Nat) (f0 : Nat) (s0 : Nat) (k0 : Nat) (v0 : Nat) (d0 : Nat) (y0 : Nat) (m0 : Nat) (o0 : Nat) (a1 : Nat) (a2 : Nat) (th : Nat → Int32) (ow : Nat → Int32) (co : Nat) (ro : Nat) (sl : Int32) (p0 : Int32) (p1 : Int32) (hrc : ro * co ≤ 48) (hco : co ≤ 6) (hro : ro ≤ 8) (hR : ∀ (r : Int32) (u : Unit), ((fCell th ow (ro * co) p0 p1 = r) ∧ (True)) → RetI X cX8_cell 3 0 0 r [(z0, .inr (8, [.ref g0, .ref a0, .ref f0, .ref s0, .ref k0, .ref v0, .ref d0, .ref y0, .ref m0, .ref o0])), (a0, .inr (0, [.ref a1, .ref a2, .int (nI co), .int (nI ro), .int sl])), (a1, .inl (cI, 48, .inl th)), (a2, .inl (cI, 48, .inl ow))]) : J X 3 0 0 0 [(0, .ref z0), (1, .int p0), (2, .int p1)] [] [(z0, .inr (8, [.ref g0, .ref a0, .ref f0, .ref s0, .ref k0, .ref v0, .ref d0, .ref y0, .ref m0, .ref o0])), (a0, .inr (0, [.ref a1, .ref a2, .int (nI co), .int (nI ro), .int sl])), (a1, .inl (cI, 48, .inl th)), (a2, .inl (cI, 48, .inl ow))] := by
  refine J_aload_n h (i := 0) dX8_cell_0 rfl 0 rfl ?_
  refine J_get h inX8 rfl 0 1 (by decide) rfl rfl nf_X8_19 dX8_cell_1 ?_
  refine J_iload_n h (i := 1) dX8_cell_4 rfl 1 rfl ?_
  refine K_vi h (c_X0_hasCell (xl X) (xD X) cI cE a0 a1 a2 th ow co ro sl p0 (by first | exact hrc |  assumption | omega | rfl)) yv_X0_hasCell nm_X8_114 (by decide) (by decide) rfl [1, 2, 3] rfl rfl 0 rfl rfl rfl (fun _ => rfl) rfl (Nat.le_of_ble_eq_true rfl) (Nat.le_refl _) (Nat.le_refl _) dX8_cell_5 (fun r_5 u_5 p_5 => ?_)
  rcases p_5 with p_5 | p_5
  · obtain ⟨j_5, rfl, f0_5, rfl, -⟩ := p_5
    show J X 3 0 0 8 [(0, .ref z0), (1, .int (nI j_5)), (2, .int p1)] [.int (nI 1)] [(z0, .inr (8, [.ref g0, .ref a0, .ref f0, .ref s0, .ref k0, .ref v0, .ref d0, .ref y0, .ref m0, .ref o0])), (a0, .inr (0, [.ref a1, .ref a2, .int (nI co), .int (nI ro), .int sl])), (a1, .inl (cI, 48, .inl th)), (a2, .inl (cI, 48, .inl ow))]
    refine J_if_eq h 18 dX8_cell_8 (by decide) (fun z => absurd z (by decide)) (fun _ => ?_)
    refine J_iload_n h (i := 2) dX8_cell_11 rfl 2 rfl ?_
    refine K_si h (c_X8_isFlag (xl X) (xD X) cI cE p1 ) yv_X8_isFlag nm_X8_117 (by decide) (by decide) rfl [] rfl rfl (fun _ => rfl) rfl (Nat.le_of_ble_eq_true rfl) (Nat.le_refl _) (Nat.le_refl _) dX8_cell_12 (fun r_12 u_12 p_12 => ?_)
    rcases p_12 with p_12 | p_12
    · obtain ⟨rfl, f0_12, -⟩ := p_12
      show J X 3 0 0 15 [(0, .ref z0), (1, .int (nI j_5)), (2, .int p1)] [.int (nI 1)] [(z0, .inr (8, [.ref g0, .ref a0, .ref f0, .ref s0, .ref k0, .ref v0, .ref d0, .ref y0, .ref m0, .ref o0])), (a0, .inr (0, [.ref a1, .ref a2, .int (nI co), .int (nI ro), .int sl])), (a1, .inl (cI, 48, .inl th)), (a2, .inl (cI, 48, .inl ow))]
      refine J_if_ne h 20 dX8_cell_15 (by decide) (fun _ => ?_) (fun z => absurd z (by decide))
      refine J_iload_n h (i := 2) dX8_cell_20 rfl 2 rfl ?_
      refine T_if_ne h (A := (p1).toInt) 35 dX8_cell_21 (by decide) (rfl) (fun c_21 => ?_) (fun c_21 => ?_)
      · skip
        refine J_aload_n h (i := 0) dX8_cell_35 rfl 0 rfl ?_
        refine J_get h inX8 rfl 0 1 (by decide) rfl rfl nf_X8_19 dX8_cell_36 ?_
        refine J_iload_n h (i := 1) dX8_cell_39 rfl 1 rfl ?_
        refine K_vi h (c_X0_ownerOf (xl X) (xD X) cI cE a0 a1 a2 th ow co ro sl j_5 (by first | exact hrc |  assumption | omega | rfl) (by first | assumption | omega | rfl)) yv_X0_ownerOf nm_X8_124 (by decide) (by decide) rfl [1, 2, 3] rfl rfl 0 rfl rfl rfl (fun _ => rfl) rfl (Nat.le_of_ble_eq_true rfl) (Nat.le_refl _) (Nat.le_refl _) dX8_cell_40 (fun r_40 u_40 p_40 => ?_)
        obtain ⟨rfl, -⟩ := p_40
        show J X 3 0 0 43 [(0, .ref z0), (1, .int (nI j_5)), (2, .int p1)] [.int (ow j_5)] [(z0, .inr (8, [.ref g0, .ref a0, .ref f0, .ref s0, .ref k0, .ref v0, .ref d0, .ref y0, .ref m0, .ref o0])), (a0, .inr (0, [.ref a1, .ref a2, .int (nI co), .int (nI ro), .int sl])), (a1, .inl (cI, 48, .inl th)), (a2, .inl (cI, 48, .inl ow))]
        refine K_si h (c_X8_sideOrNone (xl X) (xD X) cI cE (ow j_5) ) yv_X8_sideOrNone nm_X8_127 (by decide) (by decide) rfl [] rfl rfl (fun _ => rfl) rfl (Nat.le_of_ble_eq_true rfl) (Nat.le_refl _) (Nat.le_refl _) dX8_cell_43 (fun r_43 u_43 p_43 => ?_)
        obtain ⟨rfl, -⟩ := p_43
        show J X 3 0 0 46 [(0, .ref z0), (1, .int (nI j_5)), (2, .int p1)] [.int (sON (ow j_5))] [(z0, .inr (8, [.ref g0, .ref a0, .ref f0, .ref s0, .ref k0, .ref v0, .ref d0, .ref y0, .ref m0, .ref o0])), (a0, .inr (0, [.ref a1, .ref a2, .int (nI co), .int (nI ro), .int sl])), (a1, .inl (cI, 48, .inl th)), (a2, .inl (cI, 48, .inl ow))]
        exact hR (sON (ow j_5)) () (⟨(by unfold fCell; rw [if_pos ⟨cellI (by omega) (by omega), by omega⟩]; rw [tnI (by omega)]; first | (rw [if_pos (by omega)]; done) | (rw [if_neg (by omega)]; done)), trivial⟩) 46 _ dX8_cell_46
      · skip
        refine J_aload_n h (i := 0) dX8_cell_24 rfl 0 rfl ?_
        refine J_get h inX8 rfl 0 1 (by decide) rfl rfl nf_X8_19 dX8_cell_25 ?_
        refine J_iload_n h (i := 1) dX8_cell_28 rfl 1 rfl ?_
        refine K_vi h (c_X0_thingOn (xl X) (xD X) cI cE a0 a1 a2 th ow co ro sl j_5 (by first | exact hrc |  assumption | omega | rfl) (by first | assumption | omega | rfl)) yv_X0_thingOn nm_X8_120 (by decide) (by decide) rfl [1, 2, 3] rfl rfl 0 rfl rfl rfl (fun _ => rfl) rfl (Nat.le_of_ble_eq_true rfl) (Nat.le_refl _) (Nat.le_refl _) dX8_cell_29 (fun r_29 u_29 p_29 => ?_)
        obtain ⟨rfl, -⟩ := p_29
        show J X 3 0 0 32 [(0, .ref z0), (1, .int (nI j_5)), (2, .int p1)] [.int (th j_5)] [(z0, .inr (8, [.ref g0, .ref a0, .ref f0, .ref s0, .ref k0, .ref v0, .ref d0, .ref y0, .ref m0, .ref o0])), (a0, .inr (0, [.ref a1, .ref a2, .int (nI co), .int (nI ro), .int sl])), (a1, .inl (cI, 48, .inl th)), (a2, .inl (cI, 48, .inl ow))]
        refine J_goto h 46 dX8_cell_32 (by decide) ?_
        exact hR (th j_5) () (⟨(by unfold fCell; rw [if_pos ⟨cellI (by omega) (by omega), by omega⟩]; rw [tnI (by omega)]; first | (rw [if_pos (by omega)]; done) | (rw [if_neg (by omega)]; done)), trivial⟩) 46 _ dX8_cell_46
    · obtain ⟨rfl, f0_12, -⟩ := p_12
      show J X 3 0 0 15 [(0, .ref z0), (1, .int (nI j_5)), (2, .int p1)] [.int (nI 0)] [(z0, .inr (8, [.ref g0, .ref a0, .ref f0, .ref s0, .ref k0, .ref v0, .ref d0, .ref y0, .ref m0, .ref o0])), (a0, .inr (0, [.ref a1, .ref a2, .int (nI co), .int (nI ro), .int sl])), (a1, .inl (cI, 48, .inl th)), (a2, .inl (cI, 48, .inl ow))]
      refine J_if_ne h 20 dX8_cell_15 (by decide) (fun z => absurd z (by decide)) (fun _ => ?_)
      refine J_iconst h (v := (-1)) dX8_cell_18 (by decide) ?_
      exact hR ((-1)) () (⟨(by unfold fCell; rw [if_neg (by omega)]), trivial⟩) 19 _ dX8_cell_19
  · obtain ⟨rfl, f0_5, -⟩ := p_5
    show J X 3 0 0 8 [(0, .ref z0), (1, .int p0), (2, .int p1)] [.int (nI 0)] [(z0, .inr (8, [.ref g0, .ref a0, .ref f0, .ref s0, .ref k0, .ref v0, .ref d0, .ref y0, .ref m0, .ref o0])), (a0, .inr (0, [.ref a1, .ref a2, .int (nI co), .int (nI ro), .int sl])), (a1, .inl (cI, 48, .inl th)), (a2, .inl (cI, 48, .inl ow))]
    refine J_if_eq h 18 dX8_cell_8 (by decide) (fun _ => ?_) (fun z => absurd z (by decide))
    refine J_iconst h (v := (-1)) dX8_cell_18 (by decide) ?_
    exact hR ((-1)) () (⟨(by unfold fCell; rw [if_neg (by omega)]), trivial⟩) 19 _ dX8_cell_19
theorem c_X8_cell (l : Launch) (D : va_G) (cI cE : ClassId) (z0 : Nat) (g0 : Nat) (a0 : Nat) (f0 : Nat) (s0 : Nat) (k0 : Nat) (v0 : Nat) (d0 : Nat) (y0 : Nat) (m0 : Nat) (o0 : Nat) (a1 : Nat) (a2 : Nat) (th : Nat → Int32) (ow : Nat → Int32) (co : Nat) (ro : Nat) (sl : Int32) (p0 : Int32) (p1 : Int32) (hrc : ro * co ≤ 48) (hco : co ≤ 6) (hro : ro ≤ 8) : Ci l D cI cE yX8_cell cX8_cell 3 (some .int) 2 0 0 [.ref z0, .int p0, .int p1] [(z0, .inr (8, [.ref g0, .ref a0, .ref f0, .ref s0, .ref k0, .ref v0, .ref d0, .ref y0, .ref m0, .ref o0])), (a0, .inr (0, [.ref a1, .ref a2, .int (nI co), .int (nI ro), .int sl])), (a1, .inl (cI, 48, .inl th)), (a2, .inl (cI, 48, .inl ow))] (fun (r : Int32) (u : Unit) => ((fCell th ow (ro * co) p0 p1 = r) ∧ (True))) (fun (u : Unit) => ([(z0, .inr (8, [.ref g0, .ref a0, .ref f0, .ref s0, .ref k0, .ref v0, .ref d0, .ref y0, .ref m0, .ref o0])), (a0, .inr (0, [.ref a1, .ref a2, .int (nI co), .int (nI ro), .int sl])), (a1, .inl (cI, 48, .inl th)), (a2, .inl (cI, 48, .inl ow))] : va_W)) :=
  Ci.of (by decide) (Nat.le_of_ble_eq_true rfl) (fun _ _ _ => rfl) (fun X h hR => w_X8_cell X h z0 g0 a0 f0 s0 k0 v0 d0 y0 m0 o0 a1 a2 th ow co ro sl p0 p1 hrc hco hro hR)
theorem yv_X8_cell : YV yX8_cell cX8_cell 3 (some .int) 2 := ⟨no_X8_cell, nv_X8_cell, ni_X8, nk_X8_cell, by decide +kernel⟩
set_option maxRecDepth 100000 in
set_option maxHeartbeats 4000000 in
theorem w_X8_stops (X : Cx) {cI cE : ClassId} (h : Ok X cX8_stops RX8 4 cI cE 3 0 0) (z0 : Nat) (g0 : Nat) (a0 : Nat) (f0 : Nat) (s0 : Nat) (k0 : Nat) (v0 : Nat) (d0 : Nat) (y0 : Nat) (m0 : Nat) (o0 : Nat) (a1 : Nat) (a2 : Nat) (th : Nat → Int32) (ow : Nat → Int32) (co : Nat) (ro : Nat) (sl : Int32) (d1 : Nat) (d2 : Nat) (ce : Nat → Int32) (se : Nat → Int32) (len : Int32) (en : Int32) (p0 : Int32) (p1 : Int32) (p2 : Int32) (hrc : ro * co ≤ 48) (hco : co ≤ 6) (hro : ro ≤ 8) (hR : ∀ (r : Int32) (u : (Nat → Int32) × (Nat → Int32) × (Int32) × (Int32)), ((fStops th co ro p0 p1 p2 = r) ∧ (True)) → RetI X cX8_stops 4 0 0 r [(z0, .inr (8, [.ref g0, .ref a0, .ref f0, .ref s0, .ref k0, .ref v0, .ref d0, .ref y0, .ref m0, .ref o0])), (a0, .inr (0, [.ref a1, .ref a2, .int (nI co), .int (nI ro), .int sl])), (a1, .inl (cI, 48, .inl th)), (a2, .inl (cI, 48, .inl ow)), (d0, .inr (3, [.ref d1, .ref d2, .int u.2.2.1, .int u.2.2.2])), (d1, .inl (cI, 8, .inl u.1)), (d2, .inl (cI, 8, .inl u.2.1))]) : J X 4 0 0 0 [(0, .ref z0), (1, .int p0), (2, .int p1), (3, .int p2)] [] [(z0, .inr (8, [.ref g0, .ref a0, .ref f0, .ref s0, .ref k0, .ref v0, .ref d0, .ref y0, .ref m0, .ref o0])), (a0, .inr (0, [.ref a1, .ref a2, .int (nI co), .int (nI ro), .int sl])), (a1, .inl (cI, 48, .inl th)), (a2, .inl (cI, 48, .inl ow)), (d0, .inr (3, [.ref d1, .ref d2, .int len, .int en])), (d1, .inl (cI, 8, .inl ce)), (d2, .inl (cI, 8, .inl se))] := by
  refine J_aload_n h (i := 0) dX8_stops_0 rfl 0 rfl ?_
  refine J_iload_n h (i := 1) dX8_stops_1 rfl 1 rfl ?_
  refine J_iload_n h (i := 2) dX8_stops_2 rfl 2 rfl ?_
  refine J_iload_n h (i := 3) dX8_stops_3 rfl 3 rfl ?_
  refine K_vi h (c_X8_isRide (xl X) (xD X) cI cE z0 g0 a0 f0 s0 k0 v0 d0 y0 m0 o0 a1 a2 th ow co ro sl p0 p1 p2 (by first | exact hco |  assumption | omega | rfl)) yv_X8_isRide nm_X8_130 (by decide) (by decide) rfl [0, 1, 2, 3] rfl rfl 0 rfl rfl rfl (fun _ => rfl) rfl (Nat.le_of_ble_eq_true rfl) (Nat.le_refl _) (Nat.le_refl _) dX8_stops_4 (fun r_4 u_4 p_4 => ?_)
  rcases p_4 with p_4 | p_4
  · obtain ⟨jx_4, jw_4, jh_4, rfl, f0_4, f1_4, f2_4, f3_4, f4_4, rfl, rfl, rfl, -⟩ := p_4
    show J X 4 0 0 7 [(0, .ref z0), (1, .int (nI jx_4)), (2, .int (nI jw_4)), (3, .int (nI jh_4))] [.int (nI 1)] [(z0, .inr (8, [.ref g0, .ref a0, .ref f0, .ref s0, .ref k0, .ref v0, .ref d0, .ref y0, .ref m0, .ref o0])), (a0, .inr (0, [.ref a1, .ref a2, .int (nI co), .int (nI ro), .int sl])), (a1, .inl (cI, 48, .inl th)), (a2, .inl (cI, 48, .inl ow)), (d0, .inr (3, [.ref d1, .ref d2, .int len, .int en])), (d1, .inl (cI, 8, .inl ce)), (d2, .inl (cI, 8, .inl se))]
    refine J_if_ne h 12 dX8_stops_7 (by decide) (fun _ => ?_) (fun z => absurd z (by decide))
    refine J_aload_n h (i := 0) dX8_stops_12 rfl 0 rfl ?_
    refine J_get h inX8 rfl 0 6 (by decide) rfl rfl nf_X8_48 dX8_stops_13 ?_
    refine J_aload_n h (i := 0) dX8_stops_16 rfl 0 rfl ?_
    refine J_get h inX8 rfl 0 1 (by decide) rfl rfl nf_X8_19 dX8_stops_17 ?_
    refine J_iload_n h (i := 1) dX8_stops_20 rfl 1 rfl ?_
    refine J_iload_n h (i := 2) dX8_stops_21 rfl 2 rfl ?_
    refine J_iload_n h (i := 3) dX8_stops_22 rfl 3 rfl ?_
    refine K_vv h (c_X3_run (xl X) (xD X) cI cE d0 d1 d2 ce se len en a0 a1 a2 th ow co ro sl jx_4 jw_4 jh_4 (by first | exact hrc |  assumption | omega | rfl) (by first | exact hco |  assumption | omega | rfl) (by first | exact hro |  assumption | omega | rfl) (by first | assumption | omega | rfl) (by first | assumption | omega | rfl) (by first | assumption | omega | rfl)) yv_X3_run nm_X8_134 (by decide) (by decide) rfl [4, 5, 6, 1, 2, 3] rfl rfl 0 rfl rfl rfl (fun _ => rfl) rfl (Nat.le_of_ble_eq_true rfl) (Nat.le_refl _) (Nat.le_refl _) dX8_stops_23 (fun u_23 p_23 => ?_)
    obtain ⟨ce2_23, se2_23⟩ := u_23
    try dsimp only at p_23
    obtain ⟨f0_23, f1_23, -⟩ := p_23
    show J X 4 0 0 26 [(0, .ref z0), (1, .int (nI jx_4)), (2, .int (nI jw_4)), (3, .int (nI jh_4))] [] [(z0, .inr (8, [.ref g0, .ref a0, .ref f0, .ref s0, .ref k0, .ref v0, .ref d0, .ref y0, .ref m0, .ref o0])), (a0, .inr (0, [.ref a1, .ref a2, .int (nI co), .int (nI ro), .int sl])), (a1, .inl (cI, 48, .inl th)), (a2, .inl (cI, 48, .inl ow)), (d0, .inr (3, [.ref d1, .ref d2, .int (nI (rln th co ro jh_4 jx_4 jw_4)), .int (nI (ren th co ro jh_4 jx_4 jw_4))])), (d1, .inl (cI, 8, .inl ce2_23)), (d2, .inl (cI, 8, .inl se2_23))]
    refine J_aload_n h (i := 0) dX8_stops_26 rfl 0 rfl ?_
    refine J_get h inX8 rfl 0 6 (by decide) rfl rfl nf_X8_48 dX8_stops_27 ?_
    refine J_get h inX3 rfl 4 3 (by decide) rfl rfl nf_X8_138 dX8_stops_30 ?_
    exact hR (nI (ren th co ro jh_4 jx_4 jw_4)) (ce2_23, se2_23, nI (rln th co ro jh_4 jx_4 jw_4), nI (ren th co ro jh_4 jx_4 jw_4)) (⟨(by (try dsimp only); unfold fStops; rw [if_pos (by assumption), tnI (by omega), tnI (by omega), tnI (by omega)]), trivial⟩) 33 _ dX8_stops_33
  · obtain ⟨rfl, f0_4, -⟩ := p_4
    show J X 4 0 0 7 [(0, .ref z0), (1, .int p0), (2, .int p1), (3, .int p2)] [.int (nI 0)] [(z0, .inr (8, [.ref g0, .ref a0, .ref f0, .ref s0, .ref k0, .ref v0, .ref d0, .ref y0, .ref m0, .ref o0])), (a0, .inr (0, [.ref a1, .ref a2, .int (nI co), .int (nI ro), .int sl])), (a1, .inl (cI, 48, .inl th)), (a2, .inl (cI, 48, .inl ow)), (d0, .inr (3, [.ref d1, .ref d2, .int len, .int en])), (d1, .inl (cI, 8, .inl ce)), (d2, .inl (cI, 8, .inl se))]
    refine J_if_ne h 12 dX8_stops_7 (by decide) (fun z => absurd z (by decide)) (fun _ => ?_)
    refine J_iconst h (v := (-1)) dX8_stops_10 (by decide) ?_
    exact hR ((-1)) (ce, se, len, en) (⟨(by (try dsimp only); unfold fStops; rw [if_neg (by assumption)]), trivial⟩) 11 _ dX8_stops_11
theorem c_X8_stops (l : Launch) (D : va_G) (cI cE : ClassId) (z0 : Nat) (g0 : Nat) (a0 : Nat) (f0 : Nat) (s0 : Nat) (k0 : Nat) (v0 : Nat) (d0 : Nat) (y0 : Nat) (m0 : Nat) (o0 : Nat) (a1 : Nat) (a2 : Nat) (th : Nat → Int32) (ow : Nat → Int32) (co : Nat) (ro : Nat) (sl : Int32) (d1 : Nat) (d2 : Nat) (ce : Nat → Int32) (se : Nat → Int32) (len : Int32) (en : Int32) (p0 : Int32) (p1 : Int32) (p2 : Int32) (hrc : ro * co ≤ 48) (hco : co ≤ 6) (hro : ro ≤ 8) : Ci l D cI cE yX8_stops cX8_stops 4 (some .int) 3 0 0 [.ref z0, .int p0, .int p1, .int p2] [(z0, .inr (8, [.ref g0, .ref a0, .ref f0, .ref s0, .ref k0, .ref v0, .ref d0, .ref y0, .ref m0, .ref o0])), (a0, .inr (0, [.ref a1, .ref a2, .int (nI co), .int (nI ro), .int sl])), (a1, .inl (cI, 48, .inl th)), (a2, .inl (cI, 48, .inl ow)), (d0, .inr (3, [.ref d1, .ref d2, .int len, .int en])), (d1, .inl (cI, 8, .inl ce)), (d2, .inl (cI, 8, .inl se))] (fun (r : Int32) (u : (Nat → Int32) × (Nat → Int32) × (Int32) × (Int32)) => ((fStops th co ro p0 p1 p2 = r) ∧ (True))) (fun (u : (Nat → Int32) × (Nat → Int32) × (Int32) × (Int32)) => ([(z0, .inr (8, [.ref g0, .ref a0, .ref f0, .ref s0, .ref k0, .ref v0, .ref d0, .ref y0, .ref m0, .ref o0])), (a0, .inr (0, [.ref a1, .ref a2, .int (nI co), .int (nI ro), .int sl])), (a1, .inl (cI, 48, .inl th)), (a2, .inl (cI, 48, .inl ow)), (d0, .inr (3, [.ref d1, .ref d2, .int u.2.2.1, .int u.2.2.2])), (d1, .inl (cI, 8, .inl u.1)), (d2, .inl (cI, 8, .inl u.2.1))] : va_W)) :=
  Ci.of (by decide) (Nat.le_of_ble_eq_true rfl) (fun _ _ _ => rfl) (fun X h hR => w_X8_stops X h z0 g0 a0 f0 s0 k0 v0 d0 y0 m0 o0 a1 a2 th ow co ro sl d1 d2 ce se len en p0 p1 p2 hrc hco hro hR)
theorem yv_X8_stops : YV yX8_stops cX8_stops 4 (some .int) 3 := ⟨no_X8_stops, nv_X8_stops, ni_X8, nk_X8_stops, by decide +kernel⟩
set_option maxRecDepth 100000 in
set_option maxHeartbeats 4000000 in
theorem w_X8_track (X : Cx) {cI cE : ClassId} (h : Ok X cX8_track RX8 6 cI cE 3 0 0) (z0 : Nat) (g0 : Nat) (a0 : Nat) (f0 : Nat) (s0 : Nat) (k0 : Nat) (v0 : Nat) (d0 : Nat) (y0 : Nat) (m0 : Nat) (o0 : Nat) (a1 : Nat) (a2 : Nat) (th : Nat → Int32) (ow : Nat → Int32) (co : Nat) (ro : Nat) (sl : Int32) (d1 : Nat) (d2 : Nat) (ce : Nat → Int32) (se : Nat → Int32) (len : Int32) (en : Int32) (p0 : Int32) (p1 : Int32) (p2 : Int32) (p3 : Int32) (p4 : Int32) (hrc : ro * co ≤ 48) (hco : co ≤ 6) (hro : ro ≤ 8) (hR : ∀ (r : Int32) (u : (Nat → Int32) × (Nat → Int32) × (Int32) × (Int32)), ((fTrack th co ro p0 p1 p2 p3 p4 = r) ∧ (True)) → RetI X cX8_track 6 0 0 r [(z0, .inr (8, [.ref g0, .ref a0, .ref f0, .ref s0, .ref k0, .ref v0, .ref d0, .ref y0, .ref m0, .ref o0])), (a0, .inr (0, [.ref a1, .ref a2, .int (nI co), .int (nI ro), .int sl])), (a1, .inl (cI, 48, .inl th)), (a2, .inl (cI, 48, .inl ow)), (d0, .inr (3, [.ref d1, .ref d2, .int u.2.2.1, .int u.2.2.2])), (d1, .inl (cI, 8, .inl u.1)), (d2, .inl (cI, 8, .inl u.2.1))]) : J X 6 0 0 0 [(0, .ref z0), (1, .int p0), (2, .int p1), (3, .int p2), (4, .int p3), (5, .int p4)] [] [(z0, .inr (8, [.ref g0, .ref a0, .ref f0, .ref s0, .ref k0, .ref v0, .ref d0, .ref y0, .ref m0, .ref o0])), (a0, .inr (0, [.ref a1, .ref a2, .int (nI co), .int (nI ro), .int sl])), (a1, .inl (cI, 48, .inl th)), (a2, .inl (cI, 48, .inl ow)), (d0, .inr (3, [.ref d1, .ref d2, .int len, .int en])), (d1, .inl (cI, 8, .inl ce)), (d2, .inl (cI, 8, .inl se))] := by
  refine J_aload_n h (i := 0) dX8_track_0 rfl 0 rfl ?_
  refine J_iload_n h (i := 1) dX8_track_1 rfl 1 rfl ?_
  refine J_iload_n h (i := 2) dX8_track_2 rfl 2 rfl ?_
  refine J_iload_n h (i := 3) dX8_track_3 rfl 3 rfl ?_
  refine K_vi h (c_X8_isRide (xl X) (xD X) cI cE z0 g0 a0 f0 s0 k0 v0 d0 y0 m0 o0 a1 a2 th ow co ro sl p0 p1 p2 (by first | exact hco |  assumption | omega | rfl)) yv_X8_isRide nm_X8_130 (by decide) (by decide) rfl [0, 1, 2, 3] rfl rfl 0 rfl rfl rfl (fun _ => rfl) rfl (Nat.le_of_ble_eq_true rfl) (Nat.le_refl _) (Nat.le_refl _) dX8_track_4 (fun r_4 u_4 p_4 => ?_)
  rcases p_4 with p_4 | p_4
  · obtain ⟨jx_4, jw_4, jh_4, rfl, f0_4, f1_4, f2_4, f3_4, f4_4, rfl, rfl, rfl, -⟩ := p_4
    show J X 6 0 0 7 [(0, .ref z0), (1, .int (nI jx_4)), (2, .int (nI jw_4)), (3, .int (nI jh_4)), (4, .int p3), (5, .int p4)] [.int (nI 1)] [(z0, .inr (8, [.ref g0, .ref a0, .ref f0, .ref s0, .ref k0, .ref v0, .ref d0, .ref y0, .ref m0, .ref o0])), (a0, .inr (0, [.ref a1, .ref a2, .int (nI co), .int (nI ro), .int sl])), (a1, .inl (cI, 48, .inl th)), (a2, .inl (cI, 48, .inl ow)), (d0, .inr (3, [.ref d1, .ref d2, .int len, .int en])), (d1, .inl (cI, 8, .inl ce)), (d2, .inl (cI, 8, .inl se))]
    refine J_if_eq h 30 dX8_track_7 (by decide) (fun z => absurd z (by decide)) (fun _ => ?_)
    refine J_aload_n h (i := 0) dX8_track_10 rfl 0 rfl ?_
    refine J_get h inX8 rfl 0 1 (by decide) rfl rfl nf_X8_19 dX8_track_11 ?_
    refine J_iload h dX8_track_14 4 rfl ?_
    refine K_vi h (c_X0_hasRow (xl X) (xD X) cI cE a0 a1 a2 th ow co ro sl p3 (by first | assumption | omega | rfl)) yv_X0_hasRow nm_X8_141 (by decide) (by decide) rfl [1, 2, 3] rfl rfl 0 rfl rfl rfl (fun _ => rfl) rfl (Nat.le_of_ble_eq_true rfl) (Nat.le_refl _) (Nat.le_refl _) dX8_track_16 (fun r_16 u_16 p_16 => ?_)
    rcases p_16 with p_16 | p_16
    · obtain ⟨j_16, rfl, f0_16, rfl, -⟩ := p_16
      show J X 6 0 0 19 [(0, .ref z0), (1, .int (nI jx_4)), (2, .int (nI jw_4)), (3, .int (nI jh_4)), (4, .int (nI j_16)), (5, .int p4)] [.int (nI 1)] [(z0, .inr (8, [.ref g0, .ref a0, .ref f0, .ref s0, .ref k0, .ref v0, .ref d0, .ref y0, .ref m0, .ref o0])), (a0, .inr (0, [.ref a1, .ref a2, .int (nI co), .int (nI ro), .int sl])), (a1, .inl (cI, 48, .inl th)), (a2, .inl (cI, 48, .inl ow)), (d0, .inr (3, [.ref d1, .ref d2, .int len, .int en])), (d1, .inl (cI, 8, .inl ce)), (d2, .inl (cI, 8, .inl se))]
      refine J_if_eq h 30 dX8_track_19 (by decide) (fun z => absurd z (by decide)) (fun _ => ?_)
      refine J_iload h dX8_track_22 5 rfl ?_
      refine K_si h (c_X8_isFlag (xl X) (xD X) cI cE p4 ) yv_X8_isFlag nm_X8_117 (by decide) (by decide) rfl [] rfl rfl (fun _ => rfl) rfl (Nat.le_of_ble_eq_true rfl) (Nat.le_refl _) (Nat.le_refl _) dX8_track_24 (fun r_24 u_24 p_24 => ?_)
      rcases p_24 with p_24 | p_24
      · obtain ⟨rfl, f0_24, -⟩ := p_24
        show J X 6 0 0 27 [(0, .ref z0), (1, .int (nI jx_4)), (2, .int (nI jw_4)), (3, .int (nI jh_4)), (4, .int (nI j_16)), (5, .int p4)] [.int (nI 1)] [(z0, .inr (8, [.ref g0, .ref a0, .ref f0, .ref s0, .ref k0, .ref v0, .ref d0, .ref y0, .ref m0, .ref o0])), (a0, .inr (0, [.ref a1, .ref a2, .int (nI co), .int (nI ro), .int sl])), (a1, .inl (cI, 48, .inl th)), (a2, .inl (cI, 48, .inl ow)), (d0, .inr (3, [.ref d1, .ref d2, .int len, .int en])), (d1, .inl (cI, 8, .inl ce)), (d2, .inl (cI, 8, .inl se))]
        refine J_if_ne h 32 dX8_track_27 (by decide) (fun _ => ?_) (fun z => absurd z (by decide))
        refine J_aload_n h (i := 0) dX8_track_32 rfl 0 rfl ?_
        refine J_get h inX8 rfl 0 6 (by decide) rfl rfl nf_X8_48 dX8_track_33 ?_
        refine J_aload_n h (i := 0) dX8_track_36 rfl 0 rfl ?_
        refine J_get h inX8 rfl 0 1 (by decide) rfl rfl nf_X8_19 dX8_track_37 ?_
        refine J_iload_n h (i := 1) dX8_track_40 rfl 1 rfl ?_
        refine J_iload_n h (i := 2) dX8_track_41 rfl 2 rfl ?_
        refine J_iload_n h (i := 3) dX8_track_42 rfl 3 rfl ?_
        refine K_vv h (c_X3_run (xl X) (xD X) cI cE d0 d1 d2 ce se len en a0 a1 a2 th ow co ro sl jx_4 jw_4 jh_4 (by first | exact hrc |  assumption | omega | rfl) (by first | exact hco |  assumption | omega | rfl) (by first | exact hro |  assumption | omega | rfl) (by first | assumption | omega | rfl) (by first | assumption | omega | rfl) (by first | assumption | omega | rfl)) yv_X3_run nm_X8_134 (by decide) (by decide) rfl [4, 5, 6, 1, 2, 3] rfl rfl 0 rfl rfl rfl (fun _ => rfl) rfl (Nat.le_of_ble_eq_true rfl) (Nat.le_refl _) (Nat.le_refl _) dX8_track_43 (fun u_43 p_43 => ?_)
        obtain ⟨ce2_43, se2_43⟩ := u_43
        try dsimp only at p_43
        obtain ⟨f0_43, f1_43, -⟩ := p_43
        show J X 6 0 0 46 [(0, .ref z0), (1, .int (nI jx_4)), (2, .int (nI jw_4)), (3, .int (nI jh_4)), (4, .int (nI j_16)), (5, .int p4)] [] [(z0, .inr (8, [.ref g0, .ref a0, .ref f0, .ref s0, .ref k0, .ref v0, .ref d0, .ref y0, .ref m0, .ref o0])), (a0, .inr (0, [.ref a1, .ref a2, .int (nI co), .int (nI ro), .int sl])), (a1, .inl (cI, 48, .inl th)), (a2, .inl (cI, 48, .inl ow)), (d0, .inr (3, [.ref d1, .ref d2, .int (nI (rln th co ro jh_4 jx_4 jw_4)), .int (nI (ren th co ro jh_4 jx_4 jw_4))])), (d1, .inl (cI, 8, .inl ce2_43)), (d2, .inl (cI, 8, .inl se2_43))]
        refine J_aload_n h (i := 0) dX8_track_46 rfl 0 rfl ?_
        refine J_get h inX8 rfl 0 6 (by decide) rfl rfl nf_X8_48 dX8_track_47 ?_
        refine J_iload h dX8_track_50 4 rfl ?_
        have hrl := rln_le th co ro jh_4 jx_4 jw_4
        refine K_vi h (c_X3_cameTo (xl X) (xD X) cI cE d0 d1 d2 ce2_43 se2_43 (rln th co ro jh_4 jx_4 jw_4) (nI (ren th co ro jh_4 jx_4 jw_4)) j_16 (by first | assumption | omega | rfl) (by first | assumption | omega | rfl)) yv_X3_cameTo nm_X8_144 (by decide) (by decide) rfl [4, 5, 6] rfl rfl 0 rfl rfl rfl (fun _ => rfl) rfl (Nat.le_of_ble_eq_true rfl) (Nat.le_refl _) (Nat.le_refl _) dX8_track_52 (fun r_52 u_52 p_52 => ?_)
        rcases p_52 with p_52 | p_52
        · obtain ⟨rfl, f0_52, -⟩ := p_52
          show J X 6 0 0 55 [(0, .ref z0), (1, .int (nI jx_4)), (2, .int (nI jw_4)), (3, .int (nI jh_4)), (4, .int (nI j_16)), (5, .int p4)] [.int (nI 1)] [(z0, .inr (8, [.ref g0, .ref a0, .ref f0, .ref s0, .ref k0, .ref v0, .ref d0, .ref y0, .ref m0, .ref o0])), (a0, .inr (0, [.ref a1, .ref a2, .int (nI co), .int (nI ro), .int sl])), (a1, .inl (cI, 48, .inl th)), (a2, .inl (cI, 48, .inl ow)), (d0, .inr (3, [.ref d1, .ref d2, .int (nI (rln th co ro jh_4 jx_4 jw_4)), .int (nI (ren th co ro jh_4 jx_4 jw_4))])), (d1, .inl (cI, 8, .inl ce2_43)), (d2, .inl (cI, 8, .inl se2_43))]
          refine J_if_ne h 61 dX8_track_55 (by decide) (fun _ => ?_) (fun z => absurd z (by decide))
          refine J_iload h dX8_track_61 5 rfl ?_
          refine T_if_ne h (A := (p4).toInt) 78 dX8_track_63 (by decide) (rfl) (fun c_63 => ?_) (fun c_63 => ?_)
          · skip
            refine J_aload_n h (i := 0) dX8_track_78 rfl 0 rfl ?_
            refine J_get h inX8 rfl 0 6 (by decide) rfl rfl nf_X8_48 dX8_track_79 ?_
            refine J_iload h dX8_track_82 4 rfl ?_
            refine K_vi h (c_X3_speedBehind (xl X) (xD X) cI cE d0 d1 d2 ce2_43 se2_43 (rln th co ro jh_4 jx_4 jw_4) (nI (ren th co ro jh_4 jx_4 jw_4)) j_16 (by first | assumption | omega | rfl) (by first | assumption | omega | rfl)) yv_X3_speedBehind nm_X8_150 (by decide) (by decide) rfl [4, 5, 6] rfl rfl 0 rfl rfl rfl (fun _ => rfl) rfl (Nat.le_of_ble_eq_true rfl) (Nat.le_refl _) (Nat.le_refl _) dX8_track_84 (fun r_84 u_84 p_84 => ?_)
            obtain ⟨rfl, -⟩ := p_84
            show J X 6 0 0 87 [(0, .ref z0), (1, .int (nI jx_4)), (2, .int (nI jw_4)), (3, .int (nI jh_4)), (4, .int (nI j_16)), (5, .int p4)] [.int (se2_43 j_16)] [(z0, .inr (8, [.ref g0, .ref a0, .ref f0, .ref s0, .ref k0, .ref v0, .ref d0, .ref y0, .ref m0, .ref o0])), (a0, .inr (0, [.ref a1, .ref a2, .int (nI co), .int (nI ro), .int sl])), (a1, .inl (cI, 48, .inl th)), (a2, .inl (cI, 48, .inl ow)), (d0, .inr (3, [.ref d1, .ref d2, .int (nI (rln th co ro jh_4 jx_4 jw_4)), .int (nI (ren th co ro jh_4 jx_4 jw_4))])), (d1, .inl (cI, 8, .inl ce2_43)), (d2, .inl (cI, 8, .inl se2_43))]
            exact hR (se2_43 j_16) (ce2_43, se2_43, nI (rln th co ro jh_4 jx_4 jw_4), nI (ren th co ro jh_4 jx_4 jw_4)) (⟨(by (try dsimp only); unfold fTrack; rw [if_pos ⟨by assumption, cellI (by omega) (by omega), by assumption⟩, tnI (by omega), tnI (by omega), tnI (by omega), tnI (by omega), if_pos (by omega)]; first | (rw [if_pos (by omega)]; exact (f0_43 _ (by omega)).symm) | (rw [if_neg (by omega)]; exact (f1_43 _ (by omega)).symm)), trivial⟩) 87 _ dX8_track_87
          · skip
            refine J_aload_n h (i := 0) dX8_track_66 rfl 0 rfl ?_
            refine J_get h inX8 rfl 0 6 (by decide) rfl rfl nf_X8_48 dX8_track_67 ?_
            refine J_iload h dX8_track_70 4 rfl ?_
            refine K_vi h (c_X3_cellIn (xl X) (xD X) cI cE d0 d1 d2 ce2_43 se2_43 (rln th co ro jh_4 jx_4 jw_4) (nI (ren th co ro jh_4 jx_4 jw_4)) j_16 (by first | assumption | omega | rfl) (by first | assumption | omega | rfl)) yv_X3_cellIn nm_X8_147 (by decide) (by decide) rfl [4, 5, 6] rfl rfl 0 rfl rfl rfl (fun _ => rfl) rfl (Nat.le_of_ble_eq_true rfl) (Nat.le_refl _) (Nat.le_refl _) dX8_track_72 (fun r_72 u_72 p_72 => ?_)
            obtain ⟨rfl, -⟩ := p_72
            show J X 6 0 0 75 [(0, .ref z0), (1, .int (nI jx_4)), (2, .int (nI jw_4)), (3, .int (nI jh_4)), (4, .int (nI j_16)), (5, .int p4)] [.int (ce2_43 j_16)] [(z0, .inr (8, [.ref g0, .ref a0, .ref f0, .ref s0, .ref k0, .ref v0, .ref d0, .ref y0, .ref m0, .ref o0])), (a0, .inr (0, [.ref a1, .ref a2, .int (nI co), .int (nI ro), .int sl])), (a1, .inl (cI, 48, .inl th)), (a2, .inl (cI, 48, .inl ow)), (d0, .inr (3, [.ref d1, .ref d2, .int (nI (rln th co ro jh_4 jx_4 jw_4)), .int (nI (ren th co ro jh_4 jx_4 jw_4))])), (d1, .inl (cI, 8, .inl ce2_43)), (d2, .inl (cI, 8, .inl se2_43))]
            refine J_goto h 87 dX8_track_75 (by decide) ?_
            exact hR (ce2_43 j_16) (ce2_43, se2_43, nI (rln th co ro jh_4 jx_4 jw_4), nI (ren th co ro jh_4 jx_4 jw_4)) (⟨(by (try dsimp only); unfold fTrack; rw [if_pos ⟨by assumption, cellI (by omega) (by omega), by assumption⟩, tnI (by omega), tnI (by omega), tnI (by omega), tnI (by omega), if_pos (by omega)]; first | (rw [if_pos (by omega)]; exact (f0_43 _ (by omega)).symm) | (rw [if_neg (by omega)]; exact (f1_43 _ (by omega)).symm)), trivial⟩) 87 _ dX8_track_87
        · obtain ⟨rfl, f0_52, -⟩ := p_52
          show J X 6 0 0 55 [(0, .ref z0), (1, .int (nI jx_4)), (2, .int (nI jw_4)), (3, .int (nI jh_4)), (4, .int (nI j_16)), (5, .int p4)] [.int (nI 0)] [(z0, .inr (8, [.ref g0, .ref a0, .ref f0, .ref s0, .ref k0, .ref v0, .ref d0, .ref y0, .ref m0, .ref o0])), (a0, .inr (0, [.ref a1, .ref a2, .int (nI co), .int (nI ro), .int sl])), (a1, .inl (cI, 48, .inl th)), (a2, .inl (cI, 48, .inl ow)), (d0, .inr (3, [.ref d1, .ref d2, .int (nI (rln th co ro jh_4 jx_4 jw_4)), .int (nI (ren th co ro jh_4 jx_4 jw_4))])), (d1, .inl (cI, 8, .inl ce2_43)), (d2, .inl (cI, 8, .inl se2_43))]
          refine J_if_ne h 61 dX8_track_55 (by decide) (fun z => absurd z (by decide)) (fun _ => ?_)
          refine J_bipush h (v := (-4)) dX8_track_58 (by decide) ?_
          exact hR ((-4)) (ce2_43, se2_43, nI (rln th co ro jh_4 jx_4 jw_4), nI (ren th co ro jh_4 jx_4 jw_4)) (⟨(by (try dsimp only); unfold fTrack; rw [if_pos ⟨by assumption, cellI (by omega) (by omega), by assumption⟩, tnI (by omega), tnI (by omega), tnI (by omega), tnI (by omega), if_neg (by omega)]), trivial⟩) 60 _ dX8_track_60
      · obtain ⟨rfl, f0_24, -⟩ := p_24
        show J X 6 0 0 27 [(0, .ref z0), (1, .int (nI jx_4)), (2, .int (nI jw_4)), (3, .int (nI jh_4)), (4, .int (nI j_16)), (5, .int p4)] [.int (nI 0)] [(z0, .inr (8, [.ref g0, .ref a0, .ref f0, .ref s0, .ref k0, .ref v0, .ref d0, .ref y0, .ref m0, .ref o0])), (a0, .inr (0, [.ref a1, .ref a2, .int (nI co), .int (nI ro), .int sl])), (a1, .inl (cI, 48, .inl th)), (a2, .inl (cI, 48, .inl ow)), (d0, .inr (3, [.ref d1, .ref d2, .int len, .int en])), (d1, .inl (cI, 8, .inl ce)), (d2, .inl (cI, 8, .inl se))]
        refine J_if_ne h 32 dX8_track_27 (by decide) (fun z => absurd z (by decide)) (fun _ => ?_)
        refine J_iconst h (v := (-1)) dX8_track_30 (by decide) ?_
        exact hR ((-1)) (ce, se, len, en) (⟨(by (try dsimp only); unfold fTrack; rw [if_neg (fun q => by have q1 := q.1; have q2 := q.2; first | exact absurd q1 (by assumption) | omega)]), trivial⟩) 31 _ dX8_track_31
    · obtain ⟨rfl, f0_16, -⟩ := p_16
      show J X 6 0 0 19 [(0, .ref z0), (1, .int (nI jx_4)), (2, .int (nI jw_4)), (3, .int (nI jh_4)), (4, .int p3), (5, .int p4)] [.int (nI 0)] [(z0, .inr (8, [.ref g0, .ref a0, .ref f0, .ref s0, .ref k0, .ref v0, .ref d0, .ref y0, .ref m0, .ref o0])), (a0, .inr (0, [.ref a1, .ref a2, .int (nI co), .int (nI ro), .int sl])), (a1, .inl (cI, 48, .inl th)), (a2, .inl (cI, 48, .inl ow)), (d0, .inr (3, [.ref d1, .ref d2, .int len, .int en])), (d1, .inl (cI, 8, .inl ce)), (d2, .inl (cI, 8, .inl se))]
      refine J_if_eq h 30 dX8_track_19 (by decide) (fun _ => ?_) (fun z => absurd z (by decide))
      refine J_iconst h (v := (-1)) dX8_track_30 (by decide) ?_
      exact hR ((-1)) (ce, se, len, en) (⟨(by (try dsimp only); unfold fTrack; rw [if_neg (fun q => by have q1 := q.1; have q2 := q.2; first | exact absurd q1 (by assumption) | omega)]), trivial⟩) 31 _ dX8_track_31
  · obtain ⟨rfl, f0_4, -⟩ := p_4
    show J X 6 0 0 7 [(0, .ref z0), (1, .int p0), (2, .int p1), (3, .int p2), (4, .int p3), (5, .int p4)] [.int (nI 0)] [(z0, .inr (8, [.ref g0, .ref a0, .ref f0, .ref s0, .ref k0, .ref v0, .ref d0, .ref y0, .ref m0, .ref o0])), (a0, .inr (0, [.ref a1, .ref a2, .int (nI co), .int (nI ro), .int sl])), (a1, .inl (cI, 48, .inl th)), (a2, .inl (cI, 48, .inl ow)), (d0, .inr (3, [.ref d1, .ref d2, .int len, .int en])), (d1, .inl (cI, 8, .inl ce)), (d2, .inl (cI, 8, .inl se))]
    refine J_if_eq h 30 dX8_track_7 (by decide) (fun _ => ?_) (fun z => absurd z (by decide))
    refine J_iconst h (v := (-1)) dX8_track_30 (by decide) ?_
    exact hR ((-1)) (ce, se, len, en) (⟨(by (try dsimp only); unfold fTrack; rw [if_neg (fun q => by have q1 := q.1; have q2 := q.2; first | exact absurd q1 (by assumption) | omega)]), trivial⟩) 31 _ dX8_track_31
theorem c_X8_track (l : Launch) (D : va_G) (cI cE : ClassId) (z0 : Nat) (g0 : Nat) (a0 : Nat) (f0 : Nat) (s0 : Nat) (k0 : Nat) (v0 : Nat) (d0 : Nat) (y0 : Nat) (m0 : Nat) (o0 : Nat) (a1 : Nat) (a2 : Nat) (th : Nat → Int32) (ow : Nat → Int32) (co : Nat) (ro : Nat) (sl : Int32) (d1 : Nat) (d2 : Nat) (ce : Nat → Int32) (se : Nat → Int32) (len : Int32) (en : Int32) (p0 : Int32) (p1 : Int32) (p2 : Int32) (p3 : Int32) (p4 : Int32) (hrc : ro * co ≤ 48) (hco : co ≤ 6) (hro : ro ≤ 8) : Ci l D cI cE yX8_track cX8_track 6 (some .int) 3 0 0 [.ref z0, .int p0, .int p1, .int p2, .int p3, .int p4] [(z0, .inr (8, [.ref g0, .ref a0, .ref f0, .ref s0, .ref k0, .ref v0, .ref d0, .ref y0, .ref m0, .ref o0])), (a0, .inr (0, [.ref a1, .ref a2, .int (nI co), .int (nI ro), .int sl])), (a1, .inl (cI, 48, .inl th)), (a2, .inl (cI, 48, .inl ow)), (d0, .inr (3, [.ref d1, .ref d2, .int len, .int en])), (d1, .inl (cI, 8, .inl ce)), (d2, .inl (cI, 8, .inl se))] (fun (r : Int32) (u : (Nat → Int32) × (Nat → Int32) × (Int32) × (Int32)) => ((fTrack th co ro p0 p1 p2 p3 p4 = r) ∧ (True))) (fun (u : (Nat → Int32) × (Nat → Int32) × (Int32) × (Int32)) => ([(z0, .inr (8, [.ref g0, .ref a0, .ref f0, .ref s0, .ref k0, .ref v0, .ref d0, .ref y0, .ref m0, .ref o0])), (a0, .inr (0, [.ref a1, .ref a2, .int (nI co), .int (nI ro), .int sl])), (a1, .inl (cI, 48, .inl th)), (a2, .inl (cI, 48, .inl ow)), (d0, .inr (3, [.ref d1, .ref d2, .int u.2.2.1, .int u.2.2.2])), (d1, .inl (cI, 8, .inl u.1)), (d2, .inl (cI, 8, .inl u.2.1))] : va_W)) :=
  Ci.of (by decide) (Nat.le_of_ble_eq_true rfl) (fun _ _ _ => rfl) (fun X h hR => w_X8_track X h z0 g0 a0 f0 s0 k0 v0 d0 y0 m0 o0 a1 a2 th ow co ro sl d1 d2 ce se len en p0 p1 p2 p3 p4 hrc hco hro hR)
theorem yv_X8_track : YV yX8_track cX8_track 6 (some .int) 5 := ⟨no_X8_track, nv_X8_track, ni_X8, nk_X8_track, by decide +kernel⟩
set_option maxRecDepth 100000 in
set_option maxHeartbeats 4000000 in
theorem w_X8_holds (X : Cx) {cI cE : ClassId} (h : Ok X cX8_holds RX8 2 cI cE 3 0 0) (z0 : Nat) (g0 : Nat) (a0 : Nat) (f0 : Nat) (s0 : Nat) (k0 : Nat) (v0 : Nat) (d0 : Nat) (y0 : Nat) (m0 : Nat) (o0 : Nat) (a1 : Nat) (a2 : Nat) (th : Nat → Int32) (ow : Nat → Int32) (co : Nat) (ro : Nat) (sl : Int32) (p0 : Int32) (hrc : ro * co ≤ 48) (hco : co ≤ 6) (hro : ro ≤ 8) (hR : ∀ (r : Int32) (u : Unit), ((fHolds ow (ro * co) p0 = r) ∧ (True)) → RetI X cX8_holds 2 0 0 r [(z0, .inr (8, [.ref g0, .ref a0, .ref f0, .ref s0, .ref k0, .ref v0, .ref d0, .ref y0, .ref m0, .ref o0])), (a0, .inr (0, [.ref a1, .ref a2, .int (nI co), .int (nI ro), .int sl])), (a1, .inl (cI, 48, .inl th)), (a2, .inl (cI, 48, .inl ow))]) : J X 2 0 0 0 [(0, .ref z0), (1, .int p0)] [] [(z0, .inr (8, [.ref g0, .ref a0, .ref f0, .ref s0, .ref k0, .ref v0, .ref d0, .ref y0, .ref m0, .ref o0])), (a0, .inr (0, [.ref a1, .ref a2, .int (nI co), .int (nI ro), .int sl])), (a1, .inl (cI, 48, .inl th)), (a2, .inl (cI, 48, .inl ow))] := by
  refine J_iload_n h (i := 1) dX8_holds_0 rfl 1 rfl ?_
  refine K_si h (c_X8_isSide (xl X) (xD X) cI cE p0 ((p0).toInt) (by exact rfl)) yv_X8_isSide nm_X8_153 (by decide) (by decide) rfl [] rfl rfl (fun _ => rfl) rfl (Nat.le_of_ble_eq_true rfl) (Nat.le_refl _) (Nat.le_refl _) dX8_holds_1 (fun r_1 u_1 p_1 => ?_)
  rcases p_1 with p_1 | p_1
  · obtain ⟨rfl, f0_1, -⟩ := p_1
    show J X 2 0 0 4 [(0, .ref z0), (1, .int p0)] [.int (nI 1)] [(z0, .inr (8, [.ref g0, .ref a0, .ref f0, .ref s0, .ref k0, .ref v0, .ref d0, .ref y0, .ref m0, .ref o0])), (a0, .inr (0, [.ref a1, .ref a2, .int (nI co), .int (nI ro), .int sl])), (a1, .inl (cI, 48, .inl th)), (a2, .inl (cI, 48, .inl ow))]
    refine J_if_eq h 18 dX8_holds_4 (by decide) (fun z => absurd z (by decide)) (fun _ => ?_)
    refine J_aload_n h (i := 0) dX8_holds_7 rfl 0 rfl ?_
    refine J_get h inX8 rfl 0 1 (by decide) rfl rfl nf_X8_19 dX8_holds_8 ?_
    refine J_iload_n h (i := 1) dX8_holds_11 rfl 1 rfl ?_
    refine K_vi h (c_X0_cellsOf (xl X) (xD X) cI cE a0 a1 a2 th ow co ro sl p0 (by first | exact hrc |  assumption | omega | rfl)) yv_X0_cellsOf nm_X8_156 (by decide) (by decide) rfl [1, 2, 3] rfl rfl 0 rfl rfl rfl (fun _ => rfl) rfl (Nat.le_of_ble_eq_true rfl) (Nat.le_refl _) (Nat.le_refl _) dX8_holds_12 (fun r_12 u_12 p_12 => ?_)
    obtain ⟨rfl, -⟩ := p_12
    show J X 2 0 0 15 [(0, .ref z0), (1, .int p0)] [.int (nI (cntP (fun k => decide (ow k = p0)) (ro * co)))] [(z0, .inr (8, [.ref g0, .ref a0, .ref f0, .ref s0, .ref k0, .ref v0, .ref d0, .ref y0, .ref m0, .ref o0])), (a0, .inr (0, [.ref a1, .ref a2, .int (nI co), .int (nI ro), .int sl])), (a1, .inl (cI, 48, .inl th)), (a2, .inl (cI, 48, .inl ow))]
    refine J_goto h 19 dX8_holds_15 (by decide) ?_
    exact hR (nI (cntP (fun k => decide (ow k = p0)) (ro * co))) () (⟨(by unfold fHolds; first | (rw [if_pos (by omega)]; done) | (rw [if_neg (by omega)]; done)), trivial⟩) 19 _ dX8_holds_19
  · obtain ⟨rfl, f0_1, -⟩ := p_1
    show J X 2 0 0 4 [(0, .ref z0), (1, .int p0)] [.int (nI 0)] [(z0, .inr (8, [.ref g0, .ref a0, .ref f0, .ref s0, .ref k0, .ref v0, .ref d0, .ref y0, .ref m0, .ref o0])), (a0, .inr (0, [.ref a1, .ref a2, .int (nI co), .int (nI ro), .int sl])), (a1, .inl (cI, 48, .inl th)), (a2, .inl (cI, 48, .inl ow))]
    refine J_if_eq h 18 dX8_holds_4 (by decide) (fun _ => ?_) (fun z => absurd z (by decide))
    refine J_iconst h (v := (-1)) dX8_holds_18 (by decide) ?_
    exact hR ((-1)) () (⟨(by unfold fHolds; first | (rw [if_pos (by omega)]; done) | (rw [if_neg (by omega)]; done)), trivial⟩) 19 _ dX8_holds_19
theorem c_X8_holds (l : Launch) (D : va_G) (cI cE : ClassId) (z0 : Nat) (g0 : Nat) (a0 : Nat) (f0 : Nat) (s0 : Nat) (k0 : Nat) (v0 : Nat) (d0 : Nat) (y0 : Nat) (m0 : Nat) (o0 : Nat) (a1 : Nat) (a2 : Nat) (th : Nat → Int32) (ow : Nat → Int32) (co : Nat) (ro : Nat) (sl : Int32) (p0 : Int32) (hrc : ro * co ≤ 48) (hco : co ≤ 6) (hro : ro ≤ 8) : Ci l D cI cE yX8_holds cX8_holds 2 (some .int) 3 0 0 [.ref z0, .int p0] [(z0, .inr (8, [.ref g0, .ref a0, .ref f0, .ref s0, .ref k0, .ref v0, .ref d0, .ref y0, .ref m0, .ref o0])), (a0, .inr (0, [.ref a1, .ref a2, .int (nI co), .int (nI ro), .int sl])), (a1, .inl (cI, 48, .inl th)), (a2, .inl (cI, 48, .inl ow))] (fun (r : Int32) (u : Unit) => ((fHolds ow (ro * co) p0 = r) ∧ (True))) (fun (u : Unit) => ([(z0, .inr (8, [.ref g0, .ref a0, .ref f0, .ref s0, .ref k0, .ref v0, .ref d0, .ref y0, .ref m0, .ref o0])), (a0, .inr (0, [.ref a1, .ref a2, .int (nI co), .int (nI ro), .int sl])), (a1, .inl (cI, 48, .inl th)), (a2, .inl (cI, 48, .inl ow))] : va_W)) :=
  Ci.of (by decide) (Nat.le_of_ble_eq_true rfl) (fun _ _ _ => rfl) (fun X h hR => w_X8_holds X h z0 g0 a0 f0 s0 k0 v0 d0 y0 m0 o0 a1 a2 th ow co ro sl p0 hrc hco hro hR)
theorem yv_X8_holds : YV yX8_holds cX8_holds 2 (some .int) 1 := ⟨no_X8_holds, nv_X8_holds, ni_X8, nk_X8_holds, by decide +kernel⟩
