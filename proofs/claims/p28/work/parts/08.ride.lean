theorem max0 {a b : Nat} (ha : a < 1073741824) (hb : b < 1073741824) : (if nI a - nI b < nI 0 then nI 0 else nI a - nI b) = nI (a - b) := by
  rcases Nat.lt_or_ge a b with h | h
  · rw [if_pos (show nI a - nI b < nI 0 from pk_sneg hb h), show a - b = 0 by omega]
  · rw [pk_sub h, if_neg (show ¬ nI (a - b) < nI 0 from nI_pos (by omega))]
theorem min20 {a : Nat} (ha : a < 1073741824) : (if nI 20 < nI a then nI 20 else nI a) = nI (min a 20) := by
  rcases Nat.lt_or_ge 20 a with h | h
  · rw [if_pos (nI_lt h (by omega)), show min a 20 = 20 by omega]
  · rw [if_neg (nI_nlt h (by decide)), show min a 20 = a by omega]
set_option maxRecDepth 100000 in
set_option maxHeartbeats 4000000 in
theorem w_X3_speedOver (X : Cx) {cI cE : ClassId} (h : Ok X cX3_speedOver RX3 2 cI cE 1 0 0) (p0 : Int32) (p1 : Nat) (hp1 : p1 ≤ 20) (hR : ∀ (r : Int32) (u : Unit), ((nI (spd p0 p1) = r) ∧ (True)) → RetI X cX3_speedOver 2 0 0 r []) : J X 2 0 0 0 [(0, .int p0), (1, .int (nI p1))] [] [] := by
  refine J_iload_n h (i := 0) dX3_speedOver_0 rfl 0 rfl ?_
  have c_1 : (p0).toInt = 0 ∨ (p0).toInt = 1 ∨ (p0).toInt = 2 ∨ (p0).toInt = 3 ∨ ((p0).toInt < 0 ∨ 3 < (p0).toInt) := by omega
  rcases c_1 with c_1 | c_1 | c_1 | c_1 | c_1
  · refine J_tabIn h (off := 31) 32 dX3_speedOver_1 (by omega) (by omega) (by rw [c_1]; decide +kernel) (by decide) ?_
    refine J_iload_n h (i := 1) dX3_speedOver_32 rfl 1 rfl ?_
    refine J_iconst h (v := nI 2) dX3_speedOver_33 (by decide) ?_
    refine J_isub h dX3_speedOver_34 ?_
    refine J_iconst h (v := nI 0) dX3_speedOver_35 (by decide) ?_
    refine J_max h (by decide) nm_X3_45 (Nat.zero_le _) (Nat.zero_le _) (Nat.le_of_ble_eq_true rfl) dX3_speedOver_36 ?_
    rw [show (if ((nI p1) - (nI 2)) < (nI 0) then (nI 0) else ((nI p1) - (nI 2))) = nI (p1 - 2) from by exact max0 (by omega) (by omega)]
    exact hR (nI (p1 - 2)) () (⟨(by unfold spd; simp [c_1]), trivial⟩) 39 _ dX3_speedOver_39
  · refine J_tabIn h (off := 39) 40 dX3_speedOver_1 (by omega) (by omega) (by rw [c_1]; decide +kernel) (by decide) ?_
    refine J_iload_n h (i := 1) dX3_speedOver_40 rfl 1 rfl ?_
    refine J_iconst h (v := nI 1) dX3_speedOver_41 (by decide) ?_
    refine N_iadd h dX3_speedOver_42 ?_
    refine J_bipush h (v := nI 20) dX3_speedOver_43 (by decide) ?_
    refine J_min h (by decide) nm_X3_50 (Nat.zero_le _) (Nat.zero_le _) (Nat.le_of_ble_eq_true rfl) dX3_speedOver_45 ?_
    rw [show (if (nI 20) < (nI (p1 + 1)) then (nI 20) else (nI (p1 + 1))) = nI (min (p1 + 1) 20) from by exact min20 (by omega)]
    exact hR (nI (min (p1 + 1) 20)) () (⟨(by unfold spd; simp [c_1]), trivial⟩) 48 _ dX3_speedOver_48
  · refine J_tabIn h (off := 48) 49 dX3_speedOver_1 (by omega) (by omega) (by rw [c_1]; decide +kernel) (by decide) ?_
    refine J_iload_n h (i := 1) dX3_speedOver_49 rfl 1 rfl ?_
    refine J_iconst h (v := nI 5) dX3_speedOver_50 (by decide) ?_
    refine J_isub h dX3_speedOver_51 ?_
    refine J_iconst h (v := nI 0) dX3_speedOver_52 (by decide) ?_
    refine J_max h (by decide) nm_X3_45 (Nat.zero_le _) (Nat.zero_le _) (Nat.le_of_ble_eq_true rfl) dX3_speedOver_53 ?_
    rw [show (if ((nI p1) - (nI 5)) < (nI 0) then (nI 0) else ((nI p1) - (nI 5))) = nI (p1 - 5) from by exact max0 (by omega) (by omega)]
    exact hR (nI (p1 - 5)) () (⟨(by unfold spd; simp [c_1]), trivial⟩) 56 _ dX3_speedOver_56
  · refine J_tabIn h (off := 56) 57 dX3_speedOver_1 (by omega) (by omega) (by rw [c_1]; decide +kernel) (by decide) ?_
    refine J_iload_n h (i := 1) dX3_speedOver_57 rfl 1 rfl ?_
    refine J_iconst h (v := nI 2) dX3_speedOver_58 (by decide) ?_
    refine J_isub h dX3_speedOver_59 ?_
    refine J_iconst h (v := nI 0) dX3_speedOver_60 (by decide) ?_
    refine J_max h (by decide) nm_X3_45 (Nat.zero_le _) (Nat.zero_le _) (Nat.le_of_ble_eq_true rfl) dX3_speedOver_61 ?_
    rw [show (if ((nI p1) - (nI 2)) < (nI 0) then (nI 0) else ((nI p1) - (nI 2))) = nI (p1 - 2) from by exact max0 (by omega) (by omega)]
    refine J_iconst h (v := nI 2) dX3_speedOver_64 (by decide) ?_
    refine N_idiv h (by omega) (by omega) (by omega) dX3_speedOver_65 ?_
    exact hR (nI ((p1 - 2) / 2)) () (⟨(by unfold spd; simp [c_1]), trivial⟩) 66 _ dX3_speedOver_66
  · refine J_tabOut h 67 dX3_speedOver_1 c_1 (by decide) ?_
    refine J_iconst h (v := nI 0) dX3_speedOver_67 (by decide) ?_
    exact hR (nI 0) () (⟨(by unfold spd; rw [if_neg (by omega), if_neg (by omega), if_neg (by omega), if_neg (by omega)]), trivial⟩) 68 _ dX3_speedOver_68
theorem c_X3_speedOver (l : Launch) (D : va_G) (cI cE : ClassId) (p0 : Int32) (p1 : Nat) (hp1 : p1 ≤ 20) : Ci l D cI cE yX3_speedOver cX3_speedOver 2 (some .int) 1 0 0 [.int p0, .int (nI p1)] [] (fun (r : Int32) (u : Unit) => ((nI (spd p0 p1) = r) ∧ (True))) (fun (u : Unit) => ([] : va_W)) :=
  Ci.of (by decide) (Nat.le_of_ble_eq_true rfl) (fun _ _ _ => rfl) (fun X h hR => w_X3_speedOver X h p0 p1 hp1 hR)
theorem yv_X3_speedOver : YS yX3_speedOver cX3_speedOver 2 (some .int) 2 := ⟨ns_X3_speedOver, ni_X3, nk_X3_speedOver, by decide +kernel⟩
set_option maxRecDepth 100000 in
set_option maxHeartbeats 4000000 in
theorem w_X3_cameTo (X : Cx) {cI cE : ClassId} (h : Ok X cX3_cameTo RX3 2 cI cE 0 0 0) (d0 : Nat) (d1 : Nat) (d2 : Nat) (ce : Nat → Int32) (se : Nat → Int32) (len : Nat) (en : Int32) (p0 : Nat) (hl : len ≤ 8) (hp0 : p0 < 2147483648) (hR : ∀ (r : Int32) (u : Unit), ((nI 1 = r) ∧ (p0 < len) ∧ (True)) ∨ ((nI 0 = r) ∧ (len ≤ p0) ∧ (True)) → RetI X cX3_cameTo 2 0 0 r [(d0, .inr (3, [.ref d1, .ref d2, .int (nI len), .int en])), (d1, .inl (cI, 8, .inl ce)), (d2, .inl (cI, 8, .inl se))]) : J X 2 0 0 0 [(0, .ref d0), (1, .int (nI p0))] [] [(d0, .inr (3, [.ref d1, .ref d2, .int (nI len), .int en])), (d1, .inl (cI, 8, .inl ce)), (d2, .inl (cI, 8, .inl se))] := by
  refine J_iload_n h (i := 1) dX3_cameTo_0 rfl 1 rfl ?_
  refine N_if_lt h 22 dX3_cameTo_1 (by decide) (by omega) ?_
  refine J_iload_n h (i := 1) dX3_cameTo_4 rfl 1 rfl ?_
  refine J_aload_n h (i := 0) dX3_cameTo_5 rfl 0 rfl ?_
  refine J_get h inX3 rfl 0 2 (by decide) rfl rfl nf_X3_18 dX3_cameTo_6 ?_
  refine N_icmp_ge h 22 dX3_cameTo_9 (by decide) (by omega) (by omega) (fun c_9 => ?_) (fun c_9 => ?_)
  · skip
    refine J_iconst h (v := nI 0) dX3_cameTo_22 (by decide) ?_
    exact hR (nI 0) () (Or.inr (⟨rfl, (by first | assumption | omega | rfl), trivial⟩)) 23 _ dX3_cameTo_23
  · skip
    refine J_iload_n h (i := 1) dX3_cameTo_12 rfl 1 rfl ?_
    refine J_bipush h (v := nI 8) dX3_cameTo_13 (by decide) ?_
    refine N_icmp_ge h 22 dX3_cameTo_15 (by decide) (by omega) (by omega) (fun c_15 => absurd c_15 (by omega)) (fun c_15 => ?_)
    refine J_iconst h (v := nI 1) dX3_cameTo_18 (by decide) ?_
    refine J_goto h 23 dX3_cameTo_19 (by decide) ?_
    exact hR (nI 1) () (Or.inl ⟨rfl, (by first | assumption | omega | rfl), trivial⟩) 23 _ dX3_cameTo_23
theorem c_X3_cameTo (l : Launch) (D : va_G) (cI cE : ClassId) (d0 : Nat) (d1 : Nat) (d2 : Nat) (ce : Nat → Int32) (se : Nat → Int32) (len : Nat) (en : Int32) (p0 : Nat) (hl : len ≤ 8) (hp0 : p0 < 2147483648) : Ci l D cI cE yX3_cameTo cX3_cameTo 2 (some .boolean) 0 0 0 [.ref d0, .int (nI p0)] [(d0, .inr (3, [.ref d1, .ref d2, .int (nI len), .int en])), (d1, .inl (cI, 8, .inl ce)), (d2, .inl (cI, 8, .inl se))] (fun (r : Int32) (u : Unit) => ((nI 1 = r) ∧ (p0 < len) ∧ (True)) ∨ ((nI 0 = r) ∧ (len ≤ p0) ∧ (True))) (fun (u : Unit) => ([(d0, .inr (3, [.ref d1, .ref d2, .int (nI len), .int en])), (d1, .inl (cI, 8, .inl ce)), (d2, .inl (cI, 8, .inl se))] : va_W)) :=
  Ci.of (by decide) (Nat.le_of_ble_eq_true rfl) (fun r u hp => by rcases hp with ⟨hp, _⟩ | ⟨hp, _⟩ <;> (rw [← hp]; rfl)) (fun X h hR => w_X3_cameTo X h d0 d1 d2 ce se len en p0 hl hp0 hR)
theorem yv_X3_cameTo : YV yX3_cameTo cX3_cameTo 2 (some .boolean) 1 := ⟨no_X3_cameTo, nv_X3_cameTo, ni_X3, nk_X3_cameTo, by decide +kernel⟩
set_option maxRecDepth 100000 in
set_option maxHeartbeats 4000000 in
theorem w_X3_cellIn (X : Cx) {cI cE : ClassId} (h : Ok X cX3_cellIn RX3 2 cI cE 1 0 0) (d0 : Nat) (d1 : Nat) (d2 : Nat) (ce : Nat → Int32) (se : Nat → Int32) (len : Nat) (en : Int32) (p0 : Nat) (hl : len ≤ 8) (hp0 : p0 < len) (hR : ∀ (r : Int32) (u : Unit), ((ce p0 = r) ∧ (True)) → RetI X cX3_cellIn 2 0 0 r [(d0, .inr (3, [.ref d1, .ref d2, .int (nI len), .int en])), (d1, .inl (cI, 8, .inl ce)), (d2, .inl (cI, 8, .inl se))]) : J X 2 0 0 0 [(0, .ref d0), (1, .int (nI p0))] [] [(d0, .inr (3, [.ref d1, .ref d2, .int (nI len), .int en])), (d1, .inl (cI, 8, .inl ce)), (d2, .inl (cI, 8, .inl se))] := by
  refine J_aload_n h (i := 0) dX3_cellIn_0 rfl 0 rfl ?_
  refine J_iload_n h (i := 1) dX3_cellIn_1 rfl 1 rfl ?_
  refine K_vi h (wr := []) (c_X3_cameTo (xl X) (xD X) cI cE d0 d1 d2 ce se len en p0 (by first | exact hl |  assumption | omega | rfl) (by first | exact hp0 |  assumption | omega | rfl)) yv_X3_cameTo nm_X3_53 (by decide) (by decide) rfl rfl 0 rfl rfl rfl rfl (Nat.le_of_ble_eq_true rfl) (Nat.le_refl _) (Nat.le_refl _) dX3_cellIn_2 (fun r_2 u_2 p_2 => ?_)
  rcases p_2 with p_2 | p_2
  · obtain ⟨rfl, f0_2, -⟩ := p_2
    show J X 2 0 0 5 [(0, .ref d0), (1, .int (nI p0))] [.int (nI 1)] [(d0, .inr (3, [.ref d1, .ref d2, .int (nI len), .int en])), (d1, .inl (cI, 8, .inl ce)), (d2, .inl (cI, 8, .inl se))]
    refine J_if_eq h 17 dX3_cellIn_5 (by decide) (fun z => absurd z (by decide)) (fun _ => ?_)
    refine J_aload_n h (i := 0) dX3_cellIn_8 rfl 0 rfl ?_
    refine J_get h inX3 rfl 0 0 (by decide) rfl rfl nf_X3_9 dX3_cellIn_9 ?_
    refine J_iload_n h (i := 1) dX3_cellIn_12 rfl 1 rfl ?_
    refine N_iald h 1 rfl (by decide) (by omega) dX3_cellIn_13 ?_
    refine J_goto h 19 dX3_cellIn_14 (by decide) ?_
    exact hR (ce p0) () (⟨rfl, trivial⟩) 19 _ dX3_cellIn_19
  · obtain ⟨rfl, f0_2, -⟩ := p_2
    exact absurd f0_2 (by omega)
theorem c_X3_cellIn (l : Launch) (D : va_G) (cI cE : ClassId) (d0 : Nat) (d1 : Nat) (d2 : Nat) (ce : Nat → Int32) (se : Nat → Int32) (len : Nat) (en : Int32) (p0 : Nat) (hl : len ≤ 8) (hp0 : p0 < len) : Ci l D cI cE yX3_cellIn cX3_cellIn 2 (some .int) 1 0 0 [.ref d0, .int (nI p0)] [(d0, .inr (3, [.ref d1, .ref d2, .int (nI len), .int en])), (d1, .inl (cI, 8, .inl ce)), (d2, .inl (cI, 8, .inl se))] (fun (r : Int32) (u : Unit) => ((ce p0 = r) ∧ (True))) (fun (u : Unit) => ([(d0, .inr (3, [.ref d1, .ref d2, .int (nI len), .int en])), (d1, .inl (cI, 8, .inl ce)), (d2, .inl (cI, 8, .inl se))] : va_W)) :=
  Ci.of (by decide) (Nat.le_of_ble_eq_true rfl) (fun _ _ _ => rfl) (fun X h hR => w_X3_cellIn X h d0 d1 d2 ce se len en p0 hl hp0 hR)
theorem yv_X3_cellIn : YV yX3_cellIn cX3_cellIn 2 (some .int) 1 := ⟨no_X3_cellIn, nv_X3_cellIn, ni_X3, nk_X3_cellIn, by decide +kernel⟩
set_option maxRecDepth 100000 in
set_option maxHeartbeats 4000000 in
theorem w_X3_speedBehind (X : Cx) {cI cE : ClassId} (h : Ok X cX3_speedBehind RX3 2 cI cE 1 0 0) (d0 : Nat) (d1 : Nat) (d2 : Nat) (ce : Nat → Int32) (se : Nat → Int32) (len : Nat) (en : Int32) (p0 : Nat) (hl : len ≤ 8) (hp0 : p0 < len) (hR : ∀ (r : Int32) (u : Unit), ((se p0 = r) ∧ (True)) → RetI X cX3_speedBehind 2 0 0 r [(d0, .inr (3, [.ref d1, .ref d2, .int (nI len), .int en])), (d1, .inl (cI, 8, .inl ce)), (d2, .inl (cI, 8, .inl se))]) : J X 2 0 0 0 [(0, .ref d0), (1, .int (nI p0))] [] [(d0, .inr (3, [.ref d1, .ref d2, .int (nI len), .int en])), (d1, .inl (cI, 8, .inl ce)), (d2, .inl (cI, 8, .inl se))] := by
  refine J_aload_n h (i := 0) dX3_speedBehind_0 rfl 0 rfl ?_
  refine J_iload_n h (i := 1) dX3_speedBehind_1 rfl 1 rfl ?_
  refine K_vi h (wr := []) (c_X3_cameTo (xl X) (xD X) cI cE d0 d1 d2 ce se len en p0 (by first | exact hl |  assumption | omega | rfl) (by first | exact hp0 |  assumption | omega | rfl)) yv_X3_cameTo nm_X3_53 (by decide) (by decide) rfl rfl 0 rfl rfl rfl rfl (Nat.le_of_ble_eq_true rfl) (Nat.le_refl _) (Nat.le_refl _) dX3_speedBehind_2 (fun r_2 u_2 p_2 => ?_)
  rcases p_2 with p_2 | p_2
  · obtain ⟨rfl, f0_2, -⟩ := p_2
    show J X 2 0 0 5 [(0, .ref d0), (1, .int (nI p0))] [.int (nI 1)] [(d0, .inr (3, [.ref d1, .ref d2, .int (nI len), .int en])), (d1, .inl (cI, 8, .inl ce)), (d2, .inl (cI, 8, .inl se))]
    refine J_if_eq h 17 dX3_speedBehind_5 (by decide) (fun z => absurd z (by decide)) (fun _ => ?_)
    refine J_aload_n h (i := 0) dX3_speedBehind_8 rfl 0 rfl ?_
    refine J_get h inX3 rfl 0 1 (by decide) rfl rfl nf_X3_15 dX3_speedBehind_9 ?_
    refine J_iload_n h (i := 1) dX3_speedBehind_12 rfl 1 rfl ?_
    refine N_iald h 2 rfl (by decide) (by omega) dX3_speedBehind_13 ?_
    refine J_goto h 19 dX3_speedBehind_14 (by decide) ?_
    exact hR (se p0) () (⟨rfl, trivial⟩) 19 _ dX3_speedBehind_19
  · obtain ⟨rfl, f0_2, -⟩ := p_2
    exact absurd f0_2 (by omega)
theorem c_X3_speedBehind (l : Launch) (D : va_G) (cI cE : ClassId) (d0 : Nat) (d1 : Nat) (d2 : Nat) (ce : Nat → Int32) (se : Nat → Int32) (len : Nat) (en : Int32) (p0 : Nat) (hl : len ≤ 8) (hp0 : p0 < len) : Ci l D cI cE yX3_speedBehind cX3_speedBehind 2 (some .int) 1 0 0 [.ref d0, .int (nI p0)] [(d0, .inr (3, [.ref d1, .ref d2, .int (nI len), .int en])), (d1, .inl (cI, 8, .inl ce)), (d2, .inl (cI, 8, .inl se))] (fun (r : Int32) (u : Unit) => ((se p0 = r) ∧ (True))) (fun (u : Unit) => ([(d0, .inr (3, [.ref d1, .ref d2, .int (nI len), .int en])), (d1, .inl (cI, 8, .inl ce)), (d2, .inl (cI, 8, .inl se))] : va_W)) :=
  Ci.of (by decide) (Nat.le_of_ble_eq_true rfl) (fun _ _ _ => rfl) (fun X h hR => w_X3_speedBehind X h d0 d1 d2 ce se len en p0 hl hp0 hR)
theorem yv_X3_speedBehind : YV yX3_speedBehind cX3_speedBehind 2 (some .int) 1 := ⟨no_X3_speedBehind, nv_X3_speedBehind, ni_X3, nk_X3_speedBehind, by decide +kernel⟩
set_option maxRecDepth 100000 in
set_option maxHeartbeats 4000000 in
theorem w_X3_run_159 (X : Cx) {cI cE : ClassId} (h : Ok X cX3_run RX3 12 cI cE 2 0 0) (d0 : Nat) (d1 : Nat) (d2 : Nat) (ce : Nat → Int32) (se : Nat → Int32) (len : Int32) (en : Int32) (a0 : Nat) (a1 : Nat) (a2 : Nat) (th : Nat → Int32) (ow : Nat → Int32) (co : Nat) (ro : Nat) (sl : Int32) (x : Nat) (w : Nat) (hh : Nat) (hrc : ro * co ≤ 48) (hco : co ≤ 6) (hro : ro ≤ 8) (hx : x < co) (hw : w ≤ 20) (hhh : hh ≤ 18) (hR : ∀ (u : (Nat → Int32) × (Nat → Int32)), ((∀ k, k < rln th co ro hh x w → u.1 k = nI (rcl th co hh x w k)) ∧ (∀ k, k < rln th co ro hh x w → u.2 k = nI (rst th co hh x w (k + 1)).2) ∧ (True)) → RetV X cX3_run 12 0 0 [(d0, .inr (3, [.ref d1, .ref d2, .int (nI (rln th co ro hh x w)), .int (nI (ren th co ro hh x w))])), (d1, .inl (cI, 8, .inl u.1)), (d2, .inl (cI, 8, .inl u.2)), (a0, .inr (0, [.ref a1, .ref a2, .int (nI co), .int (nI ro), .int sl])), (a1, .inl (cI, 48, .inl th)), (a2, .inl (cI, 48, .inl ow))]) (n_53 : Nat) (ih_53 : ∀ (r : Nat) (x1 : Nat) (v1 : Nat) (ce1 : Nat → Int32) (se1 : Nat → Int32) (rt : Nat) (q : Int32), (r ≤ ro) → (x1 = (rst th co hh x w r).1) → (v1 = (rst th co hh x w r).2) → (∀ k, k < r → (rst th co hh x w (k + 1)).2 ≠ 0) → (∀ k, k < r → ce1 k = nI (rcl th co hh x w k)) → (∀ k, k < r → se1 k = nI (rst th co hh x w (k + 1)).2) → ((rt = 1 ∧ 10 < hh) ∨ (rt = 0 ∧ hh ≤ 10)) → (q.toInt = (hrow hh : Int) - 1) → ro - r < n_53 → J X 12 0 0 53 [(0, .ref d0), (1, .ref a0), (5, .int (nI rt)), (6, .int q), (7, .int (nI x1)), (8, .int (nI v1)), (9, .int (nI r))] [] [(d0, .inr (3, [.ref d1, .ref d2, .int (nI r), .int (nI 99)])), (d1, .inl (cI, 8, .inl ce1)), (d2, .inl (cI, 8, .inl se1)), (a0, .inr (0, [.ref a1, .ref a2, .int (nI co), .int (nI ro), .int sl])), (a1, .inl (cI, 48, .inl th)), (a2, .inl (cI, 48, .inl ow))]) : ∀ (r : Nat) (x1 : Nat) (v1 : Nat) (x2 : Nat) (v2 : Nat) (ce1 : Nat → Int32) (se1 : Nat → Int32) (rt : Nat) (q : Int32), (r < ro) → (x1 = (rst th co hh x w r).1) → (v1 = (rst th co hh x w r).2) → (∀ k, k < r → (rst th co hh x w (k + 1)).2 ≠ 0) → (∀ k, k < r → ce1 k = nI (rcl th co hh x w k)) → (∀ k, k < r → se1 k = nI (rst th co hh x w (k + 1)).2) → ((rt = 1 ∧ 10 < hh) ∨ (rt = 0 ∧ hh ≤ 10)) → (q.toInt = (hrow hh : Int) - 1) → (x2 = (rst th co hh x w (r + 1)).1) → (v2 = (rst th co hh x w (r + 1)).2) → (ro - r < n_53 + 1) → J X 12 0 0 159 [(0, .ref d0), (1, .ref a0), (5, .int (nI rt)), (6, .int q), (7, .int (nI x2)), (8, .int (nI v2)), (9, .int (nI r)), (10, .int (nI (r * co + x1)))] [] [(d0, .inr (3, [.ref d1, .ref d2, .int (nI r), .int (nI 99)])), (d1, .inl (cI, 8, .inl ce1)), (d2, .inl (cI, 8, .inl se1)), (a0, .inr (0, [.ref a1, .ref a2, .int (nI co), .int (nI ro), .int sl])), (a1, .inl (cI, 48, .inl th)), (a2, .inl (cI, 48, .inl ow))] := by
  intro r x1 v1 x2 v2 ce1 se1 rt q hr ex ev hnot hce hse hrt hq ex2 ev2 hm
  have hin2 := rst_in th (hh := hh) hx hw (r + 1)
  rw [← ex2, ← ev2] at hin2
  refine J_aload_n h (i := 0) dX3_run_159 rfl 0 rfl ?_
  refine J_get h inX3 rfl 0 0 (by decide) rfl rfl nf_X3_9 dX3_run_160 ?_
  refine J_iload h dX3_run_163 6 rfl ?_
  refine J_iload h dX3_run_165 7 rfl ?_
  refine N_iast h (ws' := [(d0, .inr (3, [.ref d1, .ref d2, .int (nI r), .int (nI 99)])), (d1, .inl (cI, 8, .inl (upd ce1 r (nI (r * co + x1))))), (d2, .inl (cI, 8, .inl se1)), (a0, .inr (0, [.ref a1, .ref a2, .int (nI co), .int (nI ro), .int sl])), (a1, .inl (cI, 48, .inl th)), (a2, .inl (cI, 48, .inl ow))]) 1 rfl (by decide) (by omega) dX3_run_167 rfl ?_
  refine J_aload_n h (i := 0) dX3_run_168 rfl 0 rfl ?_
  refine J_get h inX3 rfl 0 1 (by decide) rfl rfl nf_X3_15 dX3_run_169 ?_
  refine J_iload h dX3_run_172 6 rfl ?_
  refine J_iload h dX3_run_174 5 rfl ?_
  refine N_iast h (ws' := [(d0, .inr (3, [.ref d1, .ref d2, .int (nI r), .int (nI 99)])), (d1, .inl (cI, 8, .inl (upd ce1 r (nI (r * co + x1))))), (d2, .inl (cI, 8, .inl (upd se1 r (nI v2)))), (a0, .inr (0, [.ref a1, .ref a2, .int (nI co), .int (nI ro), .int sl])), (a1, .inl (cI, 48, .inl th)), (a2, .inl (cI, 48, .inl ow))]) 2 rfl (by decide) (by omega) dX3_run_176 rfl ?_
  refine J_aload_n h (i := 0) dX3_run_177 rfl 0 rfl ?_
  refine J_iload h dX3_run_178 6 rfl ?_
  refine J_iconst h (v := nI 1) dX3_run_180 (by decide) ?_
  refine N_iadd h dX3_run_181 ?_
  refine J_put h (ws' := [(d0, .inr (3, [.ref d1, .ref d2, .int (nI (r + 1)), .int (nI 99)])), (d1, .inl (cI, 8, .inl (upd ce1 r (nI (r * co + x1))))), (d2, .inl (cI, 8, .inl (upd se1 r (nI v2)))), (a0, .inr (0, [.ref a1, .ref a2, .int (nI co), .int (nI ro), .int sl])), (a1, .inl (cI, 48, .inl th)), (a2, .inl (cI, 48, .inl ow))]) inX3 tyX3 tyX3_ok nmX3 rfl 0 2 (by decide) rfl nf_X3_18 rfl rfl rfl rfl (Nat.le_of_ble_eq_true rfl) dX3_run_182 rfl ?_
  refine J_iload h dX3_run_185 5 rfl ?_
  refine N_if_ne h 197 dX3_run_187 (by decide) (by omega) (fun c_187 => ?_) (fun c_187 => ?_)
  · skip
    refine J_iinc h (v := nI (r + 1)) (lv' := [(9, .int (nI (r + 1))), (0, .ref d0), (1, .ref a0), (5, .int (nI rt)), (6, .int q), (7, .int (nI x2)), (8, .int (nI v2)), (10, .int (nI (r * co + x1)))]) dX3_run_197 6 rfl (inc_ok _ 1) (by decide) rfl ?_
    refine J_goto h 53 dX3_run_200 (by decide) ?_
    refine J.loc [1, 2, 3, 4, 5, 6, 0] (lv' := [(0, .ref d0), (1, .ref a0), (5, .int (nI rt)), (6, .int q), (7, .int (nI x2)), (8, .int (nI v2)), (9, .int (nI (r + 1)))]) rfl ?_
    exact ih_53 (r + 1) x2 v2 (upd ce1 r (nI (r * co + x1))) (upd se1 r (nI v2)) rt q (by first | exact hr |  assumption | omega | rfl) (by first | exact ex |  assumption | omega | rfl) (by first | exact ev |  assumption | omega | rfl) (by exact lt_s hnot (by rw [← ev2]; omega)) (by exact upd_extN hce (by rw [ex]; rfl)) (by exact upd_extN hse (by rw [ev2])) (by first | exact hrt |  assumption | omega | rfl) (by first | exact hq |  assumption | omega | rfl) (by omega)
  · skip
    refine J_aload_n h (i := 0) dX3_run_190 rfl 0 rfl ?_
    refine J_iload h dX3_run_191 7 rfl ?_
    refine J_put h (ws' := [(d0, .inr (3, [.ref d1, .ref d2, .int (nI (r + 1)), .int (nI (r * co + x1))])), (d1, .inl (cI, 8, .inl (upd ce1 r (nI (r * co + x1))))), (d2, .inl (cI, 8, .inl (upd se1 r (nI v2)))), (a0, .inr (0, [.ref a1, .ref a2, .int (nI co), .int (nI ro), .int sl])), (a1, .inl (cI, 48, .inl th)), (a2, .inl (cI, 48, .inl ow))]) inX3 tyX3 tyX3_ok nmX3 rfl 0 3 (by decide) rfl nf_X3_22 rfl rfl rfl rfl (Nat.le_of_ble_eq_true rfl) dX3_run_193 rfl ?_
    obtain ⟨hst1, hst2⟩ := r_stop hnot (show (rst th co hh x w (r + 1)).2 = 0 by omega) hr
    refine J_eqw (ws' := [(d0, .inr (3, [.ref d1, .ref d2, .int (nI (rln th co ro hh x w)), .int (nI (ren th co ro hh x w))])), (d1, .inl (cI, 8, .inl (upd ce1 r (nI (r * co + x1))))), (d2, .inl (cI, 8, .inl (upd se1 r (nI v2)))), (a0, .inr (0, [.ref a1, .ref a2, .int (nI co), .int (nI ro), .int sl])), (a1, .inl (cI, 48, .inl th)), (a2, .inl (cI, 48, .inl ow))]) (by rw [hst1, hst2, ex]; rfl) ?_
    exact hR (upd ce1 r (nI (r * co + x1)), upd se1 r (nI v2)) (⟨(by rw [hst1]; exact upd_extN hce (by rw [ex]; rfl)), (by rw [hst1]; exact upd_extN hse (by rw [ev2])), trivial⟩) 196 _ dX3_run_196
set_option maxRecDepth 100000 in
set_option maxHeartbeats 4000000 in
theorem w_X3_run_53 (X : Cx) {cI cE : ClassId} (h : Ok X cX3_run RX3 12 cI cE 2 0 0) (d0 : Nat) (d1 : Nat) (d2 : Nat) (ce : Nat → Int32) (se : Nat → Int32) (len : Int32) (en : Int32) (a0 : Nat) (a1 : Nat) (a2 : Nat) (th : Nat → Int32) (ow : Nat → Int32) (co : Nat) (ro : Nat) (sl : Int32) (x : Nat) (w : Nat) (hh : Nat) (hrc : ro * co ≤ 48) (hco : co ≤ 6) (hro : ro ≤ 8) (hx : x < co) (hw : w ≤ 20) (hhh : hh ≤ 18) (hR : ∀ (u : (Nat → Int32) × (Nat → Int32)), ((∀ k, k < rln th co ro hh x w → u.1 k = nI (rcl th co hh x w k)) ∧ (∀ k, k < rln th co ro hh x w → u.2 k = nI (rst th co hh x w (k + 1)).2) ∧ (True)) → RetV X cX3_run 12 0 0 [(d0, .inr (3, [.ref d1, .ref d2, .int (nI (rln th co ro hh x w)), .int (nI (ren th co ro hh x w))])), (d1, .inl (cI, 8, .inl u.1)), (d2, .inl (cI, 8, .inl u.2)), (a0, .inr (0, [.ref a1, .ref a2, .int (nI co), .int (nI ro), .int sl])), (a1, .inl (cI, 48, .inl th)), (a2, .inl (cI, 48, .inl ow))]) : ∀ (n_53 : Nat) (r : Nat) (x1 : Nat) (v1 : Nat) (ce1 : Nat → Int32) (se1 : Nat → Int32) (rt : Nat) (q : Int32), (r ≤ ro) → (x1 = (rst th co hh x w r).1) → (v1 = (rst th co hh x w r).2) → (∀ k, k < r → (rst th co hh x w (k + 1)).2 ≠ 0) → (∀ k, k < r → ce1 k = nI (rcl th co hh x w k)) → (∀ k, k < r → se1 k = nI (rst th co hh x w (k + 1)).2) → ((rt = 1 ∧ 10 < hh) ∨ (rt = 0 ∧ hh ≤ 10)) → (q.toInt = (hrow hh : Int) - 1) → ro - r < n_53 → J X 12 0 0 53 [(0, .ref d0), (1, .ref a0), (5, .int (nI rt)), (6, .int q), (7, .int (nI x1)), (8, .int (nI v1)), (9, .int (nI r))] [] [(d0, .inr (3, [.ref d1, .ref d2, .int (nI r), .int (nI 99)])), (d1, .inl (cI, 8, .inl ce1)), (d2, .inl (cI, 8, .inl se1)), (a0, .inr (0, [.ref a1, .ref a2, .int (nI co), .int (nI ro), .int sl])), (a1, .inl (cI, 48, .inl th)), (a2, .inl (cI, 48, .inl ow))] := by
  intro n_53
  induction n_53 with
  | zero => intro r x1 v1 ce1 se1 rt q hr ex ev hnot hce hse hrt hq hn_; exact absurd hn_ (Nat.not_lt_zero _)
  | succ n_53 ih_53 =>
    intro r x1 v1 ce1 se1 rt q hr ex ev hnot hce hse hrt hq hn_53
    have hin := rst_in th (hh := hh) hx hw r
    refine J_iload h dX3_run_53 6 rfl ?_
    refine J_aload_n h (i := 1) dX3_run_55 rfl 1 rfl ?_
    refine J_get h inX0 rfl 3 3 (by decide) rfl rfl nf_X3_25 dX3_run_56 ?_
    refine N_icmp_ge h 203 dX3_run_59 (by decide) (by omega) (by omega) (fun c_59 => ?_) (fun c_59 => ?_)
    · skip
      obtain ⟨hst1, hst2⟩ := r_sea (fun k hk => hnot k (by omega) : ∀ k, k < ro → (rst th co hh x w (k + 1)).2 ≠ 0)
      refine J_eqw (ws' := [(d0, .inr (3, [.ref d1, .ref d2, .int (nI (rln th co ro hh x w)), .int (nI (ren th co ro hh x w))])), (d1, .inl (cI, 8, .inl ce1)), (d2, .inl (cI, 8, .inl se1)), (a0, .inr (0, [.ref a1, .ref a2, .int (nI co), .int (nI ro), .int sl])), (a1, .inl (cI, 48, .inl th)), (a2, .inl (cI, 48, .inl ow))]) (by rw [hst1, hst2, show r = ro by omega]) ?_
      exact hR (ce1, se1) (⟨(by rw [hst1, show ro = r by omega]; exact hce), (by rw [hst1, show ro = r by omega]; exact hse), trivial⟩) 203 _ dX3_run_203
    · skip
      refine J_iload h dX3_run_62 6 rfl ?_
      refine J_bipush h (v := nI 8) dX3_run_64 (by decide) ?_
      refine N_icmp_ge h 203 dX3_run_66 (by decide) (by omega) (by omega) (fun c_66 => absurd c_66 (by omega)) (fun c_66 => ?_)
      refine J_iload h dX3_run_69 6 rfl ?_
      refine J_aload_n h (i := 1) dX3_run_71 rfl 1 rfl ?_
      refine J_get h inX0 rfl 3 2 (by decide) rfl rfl nf_X3_30 dX3_run_72 ?_
      refine N_imul h dX3_run_75 ?_
      refine J_iload h dX3_run_76 4 rfl ?_
      refine N_iadd h dX3_run_78 ?_
      refine J_istore h (lv' := [(10, .int (nI ((r * co) + x1))), (0, .ref d0), (1, .ref a0), (5, .int (nI rt)), (6, .int q), (7, .int (nI x1)), (8, .int (nI v1)), (9, .int (nI r))]) dX3_run_79 (by decide) rfl ?_
      refine J_aload_n h (i := 1) dX3_run_81 rfl 2 rfl ?_
      refine J_iload h dX3_run_82 0 rfl ?_
      have hcl : r * co + x1 < ro * co := by rw [ex]; exact rcl_lt th hx hw (by omega)
      refine J.wld [3, 4, 5, 0, 1, 2] (ws' := [(a0, .inr (0, [.ref a1, .ref a2, .int (nI co), .int (nI ro), .int sl])), (a1, .inl (cI, 48, .inl th)), (a2, .inl (cI, 48, .inl ow)), (d0, .inr (3, [.ref d1, .ref d2, .int (nI r), .int (nI 99)])), (d1, .inl (cI, 8, .inl ce1)), (d2, .inl (cI, 8, .inl se1))]) rfl rfl ?_
      refine K_vi h (wr := [(d0, .inr (3, [.ref d1, .ref d2, .int (nI r), .int (nI 99)])), (d1, .inl (cI, 8, .inl ce1)), (d2, .inl (cI, 8, .inl se1))]) (c_X0_thingOn (xl X) (xD X) cI cE a0 a1 a2 th ow co ro sl ((r * co) + x1) (by first | exact hrc |  assumption | omega | rfl) (by first | assumption | omega | rfl)) yv_X0_thingOn nm_X3_33 (by decide) (by decide) rfl rfl 0 rfl rfl rfl rfl (Nat.le_of_ble_eq_true rfl) (Nat.le_refl _) (Nat.le_refl _) dX3_run_84 (fun r_84 u_84 p_84 => ?_)
      obtain ⟨rfl, -⟩ := p_84
      show J X 12 0 0 87 [(10, .int (nI ((r * co) + x1))), (0, .ref d0), (1, .ref a0), (5, .int (nI rt)), (6, .int q), (7, .int (nI x1)), (8, .int (nI v1)), (9, .int (nI r))] [.int (th ((r * co) + x1))] [(a0, .inr (0, [.ref a1, .ref a2, .int (nI co), .int (nI ro), .int sl])), (a1, .inl (cI, 48, .inl th)), (a2, .inl (cI, 48, .inl ow)), (d0, .inr (3, [.ref d1, .ref d2, .int (nI r), .int (nI 99)])), (d1, .inl (cI, 8, .inl ce1)), (d2, .inl (cI, 8, .inl se1))]
      refine J_iload h dX3_run_87 6 rfl ?_
      refine K_si h (wr := [(a0, .inr (0, [.ref a1, .ref a2, .int (nI co), .int (nI ro), .int sl])), (a1, .inl (cI, 48, .inl th)), (a2, .inl (cI, 48, .inl ow)), (d0, .inr (3, [.ref d1, .ref d2, .int (nI r), .int (nI 99)])), (d1, .inl (cI, 8, .inl ce1)), (d2, .inl (cI, 8, .inl se1))]) (c_X3_speedOver (xl X) (xD X) cI cE (th ((r * co) + x1)) v1 (by first | assumption | omega | rfl)) yv_X3_speedOver nm_X3_37 (by decide) (by decide) rfl rfl rfl (Nat.le_of_ble_eq_true rfl) (Nat.le_refl _) (Nat.le_refl _) dX3_run_89 (fun r_89 u_89 p_89 => ?_)
      obtain ⟨rfl, -⟩ := p_89
      show J X 12 0 0 92 [(10, .int (nI ((r * co) + x1))), (0, .ref d0), (1, .ref a0), (5, .int (nI rt)), (6, .int q), (7, .int (nI x1)), (8, .int (nI v1)), (9, .int (nI r))] [.int (nI (spd (th ((r * co) + x1)) v1))] [(a0, .inr (0, [.ref a1, .ref a2, .int (nI co), .int (nI ro), .int sl])), (a1, .inl (cI, 48, .inl th)), (a2, .inl (cI, 48, .inl ow)), (d0, .inr (3, [.ref d1, .ref d2, .int (nI r), .int (nI 99)])), (d1, .inl (cI, 8, .inl ce1)), (d2, .inl (cI, 8, .inl se1))]
      refine J_istore h (lv' := [(8, .int (nI (spd (th ((r * co) + x1)) v1))), (10, .int (nI ((r * co) + x1))), (0, .ref d0), (1, .ref a0), (5, .int (nI rt)), (6, .int q), (7, .int (nI x1)), (9, .int (nI r))]) dX3_run_92 (by decide) rfl ?_
      have hsp := spd_le (k := th (r * co + x1)) (v := v1) (by omega)
      refine J_iload h dX3_run_94 0 rfl ?_
      refine N_if_le h 159 dX3_run_96 (by decide) (by omega) (fun c_96 => ?_) (fun c_96 => ?_)
      · skip
        refine J.wld [3, 4, 5, 0, 1, 2] (ws' := [(d0, .inr (3, [.ref d1, .ref d2, .int (nI r), .int (nI 99)])), (d1, .inl (cI, 8, .inl ce1)), (d2, .inl (cI, 8, .inl se1)), (a0, .inr (0, [.ref a1, .ref a2, .int (nI co), .int (nI ro), .int sl])), (a1, .inl (cI, 48, .inl th)), (a2, .inl (cI, 48, .inl ow))]) rfl rfl ?_
        refine J.loc [2, 3, 4, 5, 6, 0, 7, 1] (lv' := [(0, .ref d0), (1, .ref a0), (5, .int (nI rt)), (6, .int q), (7, .int (nI x1)), (8, .int (nI (spd (th ((r * co) + x1)) v1))), (9, .int (nI r)), (10, .int (nI ((r * co) + x1)))]) rfl ?_
        exact w_X3_run_159 X h d0 d1 d2 ce se len en a0 a1 a2 th ow co ro sl x w hh hrc hco hro hx hw hhh hR n_53 ih_53 r x1 v1 x1 (spd (th ((r * co) + x1)) v1) ce1 se1 rt q (by first | exact hr |  assumption | omega | rfl) (by first | exact ex |  assumption | omega | rfl) (by first | exact ev |  assumption | omega | rfl) (by first | exact hnot |  assumption | omega | rfl) (by first | exact hce |  assumption | omega | rfl) (by first | exact hse |  assumption | omega | rfl) (by first | exact hrt |  assumption | omega | rfl) (by first | exact hq |  assumption | omega | rfl) (by rw [rst_s, ← ex, ← ev]; first | (rw [if_pos ⟨by omega, by omega⟩]; show _ = mvx co hh x1; unfold mvx; (repeat' split) <;> omega) | (rw [if_neg (by omega)])) (by rw [rst_s, ← ex, ← ev]; first | (rw [if_pos ⟨by omega, by omega⟩]; done) | (rw [if_neg (by omega)]; done)) (by first | assumption | omega | rfl)
      · skip
        refine J_iload h dX3_run_99 7 rfl ?_
        refine J_iload h dX3_run_101 5 rfl ?_
        refine T_icmp_ne h (A := ((r : Nat) : Int)) (B := (q).toInt) 159 dX3_run_103 (by decide) (nI_toInt (by omega)) (rfl) (fun c_103 => ?_) (fun c_103 => ?_)
        · skip
          refine J.wld [3, 4, 5, 0, 1, 2] (ws' := [(d0, .inr (3, [.ref d1, .ref d2, .int (nI r), .int (nI 99)])), (d1, .inl (cI, 8, .inl ce1)), (d2, .inl (cI, 8, .inl se1)), (a0, .inr (0, [.ref a1, .ref a2, .int (nI co), .int (nI ro), .int sl])), (a1, .inl (cI, 48, .inl th)), (a2, .inl (cI, 48, .inl ow))]) rfl rfl ?_
          refine J.loc [2, 3, 4, 5, 6, 0, 7, 1] (lv' := [(0, .ref d0), (1, .ref a0), (5, .int (nI rt)), (6, .int q), (7, .int (nI x1)), (8, .int (nI (spd (th ((r * co) + x1)) v1))), (9, .int (nI r)), (10, .int (nI ((r * co) + x1)))]) rfl ?_
          exact w_X3_run_159 X h d0 d1 d2 ce se len en a0 a1 a2 th ow co ro sl x w hh hrc hco hro hx hw hhh hR n_53 ih_53 r x1 v1 x1 (spd (th ((r * co) + x1)) v1) ce1 se1 rt q (by first | exact hr |  assumption | omega | rfl) (by first | exact ex |  assumption | omega | rfl) (by first | exact ev |  assumption | omega | rfl) (by first | exact hnot |  assumption | omega | rfl) (by first | exact hce |  assumption | omega | rfl) (by first | exact hse |  assumption | omega | rfl) (by first | exact hrt |  assumption | omega | rfl) (by first | exact hq |  assumption | omega | rfl) (by rw [rst_s, ← ex, ← ev]; first | (rw [if_pos ⟨by omega, by omega⟩]; show _ = mvx co hh x1; unfold mvx; (repeat' split) <;> omega) | (rw [if_neg (by omega)])) (by rw [rst_s, ← ex, ← ev]; first | (rw [if_pos ⟨by omega, by omega⟩]; done) | (rw [if_neg (by omega)]; done)) (by first | assumption | omega | rfl)
        · skip
          refine J_iinc h (v := nI ((spd (th ((r * co) + x1)) v1) - 1)) (lv' := [(8, .int (nI ((spd (th ((r * co) + x1)) v1) - 1))), (10, .int (nI ((r * co) + x1))), (0, .ref d0), (1, .ref a0), (5, .int (nI rt)), (6, .int q), (7, .int (nI x1)), (9, .int (nI r))]) dX3_run_106 0 rfl (dec_ok (by omega)) (by decide) rfl ?_
          refine J_aload_n h (i := 1) dX3_run_109 rfl 3 rfl ?_
          refine J_iload h dX3_run_110 4 rfl ?_
          refine N_if_eq h 122 dX3_run_112 (by decide) (by omega) (fun c_112 => ?_) (fun c_112 => ?_)
          · skip
            refine J_iload h dX3_run_122 6 rfl ?_
            refine J_iconst h (v := nI 1) dX3_run_124 (by decide) ?_
            refine J_isub h dX3_run_125 ?_
            refine K_vi h (wr := [(d0, .inr (3, [.ref d1, .ref d2, .int (nI r), .int (nI 99)])), (d1, .inl (cI, 8, .inl ce1)), (d2, .inl (cI, 8, .inl se1))]) (c_X0_hasColumnT (xl X) (xD X) cI cE a0 a1 a2 th ow co ro sl ((nI x1) - (nI 1)) (((x1 : Nat) : Int) - ((1 : Nat) : Int)) (by first | assumption | omega | rfl) (by exact pk_sub_toInt (by omega) (by omega))) yv_X0_hasColumn nm_X3_41 (by decide) (by decide) rfl rfl 0 rfl rfl rfl rfl (Nat.le_of_ble_eq_true rfl) (Nat.le_refl _) (Nat.le_refl _) dX3_run_126 (fun r_126 u_126 p_126 => ?_)
            rcases p_126 with p_126 | p_126
            · obtain ⟨rfl, f0_126, f1_126, -⟩ := p_126
              show J X 12 0 0 129 [(8, .int (nI ((spd (th ((r * co) + x1)) v1) - 1))), (10, .int (nI ((r * co) + x1))), (0, .ref d0), (1, .ref a0), (5, .int (nI rt)), (6, .int q), (7, .int (nI x1)), (9, .int (nI r))] [.int (nI 1)] [(a0, .inr (0, [.ref a1, .ref a2, .int (nI co), .int (nI ro), .int sl])), (a1, .inl (cI, 48, .inl th)), (a2, .inl (cI, 48, .inl ow)), (d0, .inr (3, [.ref d1, .ref d2, .int (nI r), .int (nI 99)])), (d1, .inl (cI, 8, .inl ce1)), (d2, .inl (cI, 8, .inl se1))]
              refine J_if_eq h 136 dX3_run_129 (by decide) (fun z => absurd z (by decide)) (fun _ => ?_)
              refine J_iconst h (v := nI 1) dX3_run_132 (by decide) ?_
              refine J_goto h 137 dX3_run_133 (by decide) ?_
              refine J_istore h (lv' := [(11, .int (nI 1)), (8, .int (nI ((spd (th ((r * co) + x1)) v1) - 1))), (10, .int (nI ((r * co) + x1))), (0, .ref d0), (1, .ref a0), (5, .int (nI rt)), (6, .int q), (7, .int (nI x1)), (9, .int (nI r))]) dX3_run_137 (by decide) rfl ?_
              refine J_iload h dX3_run_139 5 rfl ?_
              refine N_if_eq h 152 dX3_run_141 (by decide) (by omega) (fun c_141 => ?_) (fun c_141 => ?_)
              · skip
                refine J_iload h dX3_run_152 7 rfl ?_
                refine J_iload h dX3_run_154 0 rfl ?_
                refine N_isub h (by omega) dX3_run_156 ?_
                refine J_istore h (lv' := [(7, .int (nI (x1 - 1))), (11, .int (nI 1)), (8, .int (nI ((spd (th ((r * co) + x1)) v1) - 1))), (10, .int (nI ((r * co) + x1))), (0, .ref d0), (1, .ref a0), (5, .int (nI rt)), (6, .int q), (9, .int (nI r))]) dX3_run_157 (by decide) rfl ?_
                refine J.wld [3, 4, 5, 0, 1, 2] (ws' := [(d0, .inr (3, [.ref d1, .ref d2, .int (nI r), .int (nI 99)])), (d1, .inl (cI, 8, .inl ce1)), (d2, .inl (cI, 8, .inl se1)), (a0, .inr (0, [.ref a1, .ref a2, .int (nI co), .int (nI ro), .int sl])), (a1, .inl (cI, 48, .inl th)), (a2, .inl (cI, 48, .inl ow))]) rfl rfl ?_
                refine J.loc [4, 5, 6, 7, 0, 2, 8, 3] (lv' := [(0, .ref d0), (1, .ref a0), (5, .int (nI rt)), (6, .int q), (7, .int (nI (x1 - 1))), (8, .int (nI ((spd (th ((r * co) + x1)) v1) - 1))), (9, .int (nI r)), (10, .int (nI ((r * co) + x1)))]) rfl ?_
                exact w_X3_run_159 X h d0 d1 d2 ce se len en a0 a1 a2 th ow co ro sl x w hh hrc hco hro hx hw hhh hR n_53 ih_53 r x1 v1 (x1 - 1) ((spd (th ((r * co) + x1)) v1) - 1) ce1 se1 rt q (by first | exact hr |  assumption | omega | rfl) (by first | exact ex |  assumption | omega | rfl) (by first | exact ev |  assumption | omega | rfl) (by first | exact hnot |  assumption | omega | rfl) (by first | exact hce |  assumption | omega | rfl) (by first | exact hse |  assumption | omega | rfl) (by first | exact hrt |  assumption | omega | rfl) (by first | exact hq |  assumption | omega | rfl) (by rw [rst_s, ← ex, ← ev]; first | (rw [if_pos ⟨by omega, by omega⟩]; show _ = mvx co hh x1; unfold mvx; (repeat' split) <;> omega) | (rw [if_neg (by omega)])) (by rw [rst_s, ← ex, ← ev]; first | (rw [if_pos ⟨by omega, by omega⟩]; done) | (rw [if_neg (by omega)]; done)) (by first | assumption | omega | rfl)
              · skip
                refine J_iload h dX3_run_144 7 rfl ?_
                refine J_iload h dX3_run_146 0 rfl ?_
                refine N_iadd h dX3_run_148 ?_
                refine J_goto h 157 dX3_run_149 (by decide) ?_
                refine J_istore h (lv' := [(7, .int (nI (x1 + 1))), (11, .int (nI 1)), (8, .int (nI ((spd (th ((r * co) + x1)) v1) - 1))), (10, .int (nI ((r * co) + x1))), (0, .ref d0), (1, .ref a0), (5, .int (nI rt)), (6, .int q), (9, .int (nI r))]) dX3_run_157 (by decide) rfl ?_
                refine J.wld [3, 4, 5, 0, 1, 2] (ws' := [(d0, .inr (3, [.ref d1, .ref d2, .int (nI r), .int (nI 99)])), (d1, .inl (cI, 8, .inl ce1)), (d2, .inl (cI, 8, .inl se1)), (a0, .inr (0, [.ref a1, .ref a2, .int (nI co), .int (nI ro), .int sl])), (a1, .inl (cI, 48, .inl th)), (a2, .inl (cI, 48, .inl ow))]) rfl rfl ?_
                refine J.loc [4, 5, 6, 7, 0, 2, 8, 3] (lv' := [(0, .ref d0), (1, .ref a0), (5, .int (nI rt)), (6, .int q), (7, .int (nI (x1 + 1))), (8, .int (nI ((spd (th ((r * co) + x1)) v1) - 1))), (9, .int (nI r)), (10, .int (nI ((r * co) + x1)))]) rfl ?_
                exact w_X3_run_159 X h d0 d1 d2 ce se len en a0 a1 a2 th ow co ro sl x w hh hrc hco hro hx hw hhh hR n_53 ih_53 r x1 v1 (x1 + 1) ((spd (th ((r * co) + x1)) v1) - 1) ce1 se1 rt q (by first | exact hr |  assumption | omega | rfl) (by first | exact ex |  assumption | omega | rfl) (by first | exact ev |  assumption | omega | rfl) (by first | exact hnot |  assumption | omega | rfl) (by first | exact hce |  assumption | omega | rfl) (by first | exact hse |  assumption | omega | rfl) (by first | exact hrt |  assumption | omega | rfl) (by first | exact hq |  assumption | omega | rfl) (by rw [rst_s, ← ex, ← ev]; first | (rw [if_pos ⟨by omega, by omega⟩]; show _ = mvx co hh x1; unfold mvx; (repeat' split) <;> omega) | (rw [if_neg (by omega)])) (by rw [rst_s, ← ex, ← ev]; first | (rw [if_pos ⟨by omega, by omega⟩]; done) | (rw [if_neg (by omega)]; done)) (by first | assumption | omega | rfl)
            · obtain ⟨rfl, f0_126, -⟩ := p_126
              show J X 12 0 0 129 [(8, .int (nI ((spd (th ((r * co) + x1)) v1) - 1))), (10, .int (nI ((r * co) + x1))), (0, .ref d0), (1, .ref a0), (5, .int (nI rt)), (6, .int q), (7, .int (nI x1)), (9, .int (nI r))] [.int (nI 0)] [(a0, .inr (0, [.ref a1, .ref a2, .int (nI co), .int (nI ro), .int sl])), (a1, .inl (cI, 48, .inl th)), (a2, .inl (cI, 48, .inl ow)), (d0, .inr (3, [.ref d1, .ref d2, .int (nI r), .int (nI 99)])), (d1, .inl (cI, 8, .inl ce1)), (d2, .inl (cI, 8, .inl se1))]
              refine J_if_eq h 136 dX3_run_129 (by decide) (fun _ => ?_) (fun z => absurd z (by decide))
              refine J_iconst h (v := nI 0) dX3_run_136 (by decide) ?_
              refine J_istore h (lv' := [(11, .int (nI 0)), (8, .int (nI ((spd (th ((r * co) + x1)) v1) - 1))), (10, .int (nI ((r * co) + x1))), (0, .ref d0), (1, .ref a0), (5, .int (nI rt)), (6, .int q), (7, .int (nI x1)), (9, .int (nI r))]) dX3_run_137 (by decide) rfl ?_
              refine J_iload h dX3_run_139 5 rfl ?_
              refine N_if_eq h 152 dX3_run_141 (by decide) (by omega) (fun c_141 => ?_) (fun c_141 => ?_)
              · skip
                refine J_iload h dX3_run_152 7 rfl ?_
                refine J_iload h dX3_run_154 0 rfl ?_
                refine N_isub h (by omega) dX3_run_156 ?_
                refine J_istore h (lv' := [(7, .int (nI (x1 - 0))), (11, .int (nI 0)), (8, .int (nI ((spd (th ((r * co) + x1)) v1) - 1))), (10, .int (nI ((r * co) + x1))), (0, .ref d0), (1, .ref a0), (5, .int (nI rt)), (6, .int q), (9, .int (nI r))]) dX3_run_157 (by decide) rfl ?_
                refine J.wld [3, 4, 5, 0, 1, 2] (ws' := [(d0, .inr (3, [.ref d1, .ref d2, .int (nI r), .int (nI 99)])), (d1, .inl (cI, 8, .inl ce1)), (d2, .inl (cI, 8, .inl se1)), (a0, .inr (0, [.ref a1, .ref a2, .int (nI co), .int (nI ro), .int sl])), (a1, .inl (cI, 48, .inl th)), (a2, .inl (cI, 48, .inl ow))]) rfl rfl ?_
                refine J.loc [4, 5, 6, 7, 0, 2, 8, 3] (lv' := [(0, .ref d0), (1, .ref a0), (5, .int (nI rt)), (6, .int q), (7, .int (nI (x1 - 0))), (8, .int (nI ((spd (th ((r * co) + x1)) v1) - 1))), (9, .int (nI r)), (10, .int (nI ((r * co) + x1)))]) rfl ?_
                exact w_X3_run_159 X h d0 d1 d2 ce se len en a0 a1 a2 th ow co ro sl x w hh hrc hco hro hx hw hhh hR n_53 ih_53 r x1 v1 (x1 - 0) ((spd (th ((r * co) + x1)) v1) - 1) ce1 se1 rt q (by first | exact hr |  assumption | omega | rfl) (by first | exact ex |  assumption | omega | rfl) (by first | exact ev |  assumption | omega | rfl) (by first | exact hnot |  assumption | omega | rfl) (by first | exact hce |  assumption | omega | rfl) (by first | exact hse |  assumption | omega | rfl) (by first | exact hrt |  assumption | omega | rfl) (by first | exact hq |  assumption | omega | rfl) (by rw [rst_s, ← ex, ← ev]; first | (rw [if_pos ⟨by omega, by omega⟩]; show _ = mvx co hh x1; unfold mvx; (repeat' split) <;> omega) | (rw [if_neg (by omega)])) (by rw [rst_s, ← ex, ← ev]; first | (rw [if_pos ⟨by omega, by omega⟩]; done) | (rw [if_neg (by omega)]; done)) (by first | assumption | omega | rfl)
              · skip
                refine J_iload h dX3_run_144 7 rfl ?_
                refine J_iload h dX3_run_146 0 rfl ?_
                refine N_iadd h dX3_run_148 ?_
                refine J_goto h 157 dX3_run_149 (by decide) ?_
                refine J_istore h (lv' := [(7, .int (nI (x1 + 0))), (11, .int (nI 0)), (8, .int (nI ((spd (th ((r * co) + x1)) v1) - 1))), (10, .int (nI ((r * co) + x1))), (0, .ref d0), (1, .ref a0), (5, .int (nI rt)), (6, .int q), (9, .int (nI r))]) dX3_run_157 (by decide) rfl ?_
                refine J.wld [3, 4, 5, 0, 1, 2] (ws' := [(d0, .inr (3, [.ref d1, .ref d2, .int (nI r), .int (nI 99)])), (d1, .inl (cI, 8, .inl ce1)), (d2, .inl (cI, 8, .inl se1)), (a0, .inr (0, [.ref a1, .ref a2, .int (nI co), .int (nI ro), .int sl])), (a1, .inl (cI, 48, .inl th)), (a2, .inl (cI, 48, .inl ow))]) rfl rfl ?_
                refine J.loc [4, 5, 6, 7, 0, 2, 8, 3] (lv' := [(0, .ref d0), (1, .ref a0), (5, .int (nI rt)), (6, .int q), (7, .int (nI (x1 + 0))), (8, .int (nI ((spd (th ((r * co) + x1)) v1) - 1))), (9, .int (nI r)), (10, .int (nI ((r * co) + x1)))]) rfl ?_
                exact w_X3_run_159 X h d0 d1 d2 ce se len en a0 a1 a2 th ow co ro sl x w hh hrc hco hro hx hw hhh hR n_53 ih_53 r x1 v1 (x1 + 0) ((spd (th ((r * co) + x1)) v1) - 1) ce1 se1 rt q (by first | exact hr |  assumption | omega | rfl) (by first | exact ex |  assumption | omega | rfl) (by first | exact ev |  assumption | omega | rfl) (by first | exact hnot |  assumption | omega | rfl) (by first | exact hce |  assumption | omega | rfl) (by first | exact hse |  assumption | omega | rfl) (by first | exact hrt |  assumption | omega | rfl) (by first | exact hq |  assumption | omega | rfl) (by rw [rst_s, ← ex, ← ev]; first | (rw [if_pos ⟨by omega, by omega⟩]; show _ = mvx co hh x1; unfold mvx; (repeat' split) <;> omega) | (rw [if_neg (by omega)])) (by rw [rst_s, ← ex, ← ev]; first | (rw [if_pos ⟨by omega, by omega⟩]; done) | (rw [if_neg (by omega)]; done)) (by first | assumption | omega | rfl)
          · skip
            refine J_iload h dX3_run_115 6 rfl ?_
            refine J_iconst h (v := nI 1) dX3_run_117 (by decide) ?_
            refine N_iadd h dX3_run_118 ?_
            refine J_goto h 126 dX3_run_119 (by decide) ?_
            refine K_vi h (wr := [(d0, .inr (3, [.ref d1, .ref d2, .int (nI r), .int (nI 99)])), (d1, .inl (cI, 8, .inl ce1)), (d2, .inl (cI, 8, .inl se1))]) (c_X0_hasColumnN (xl X) (xD X) cI cE a0 a1 a2 th ow co ro sl (x1 + 1) (by first | assumption | omega | rfl) (by first | assumption | omega | rfl)) yv_X0_hasColumn nm_X3_41 (by decide) (by decide) rfl rfl 0 rfl rfl rfl rfl (Nat.le_of_ble_eq_true rfl) (Nat.le_refl _) (Nat.le_refl _) dX3_run_126 (fun r_126 u_126 p_126 => ?_)
            rcases p_126 with p_126 | p_126
            · obtain ⟨rfl, f0_126, -⟩ := p_126
              show J X 12 0 0 129 [(8, .int (nI ((spd (th ((r * co) + x1)) v1) - 1))), (10, .int (nI ((r * co) + x1))), (0, .ref d0), (1, .ref a0), (5, .int (nI rt)), (6, .int q), (7, .int (nI x1)), (9, .int (nI r))] [.int (nI 1)] [(a0, .inr (0, [.ref a1, .ref a2, .int (nI co), .int (nI ro), .int sl])), (a1, .inl (cI, 48, .inl th)), (a2, .inl (cI, 48, .inl ow)), (d0, .inr (3, [.ref d1, .ref d2, .int (nI r), .int (nI 99)])), (d1, .inl (cI, 8, .inl ce1)), (d2, .inl (cI, 8, .inl se1))]
              refine J_if_eq h 136 dX3_run_129 (by decide) (fun z => absurd z (by decide)) (fun _ => ?_)
              refine J_iconst h (v := nI 1) dX3_run_132 (by decide) ?_
              refine J_goto h 137 dX3_run_133 (by decide) ?_
              refine J_istore h (lv' := [(11, .int (nI 1)), (8, .int (nI ((spd (th ((r * co) + x1)) v1) - 1))), (10, .int (nI ((r * co) + x1))), (0, .ref d0), (1, .ref a0), (5, .int (nI rt)), (6, .int q), (7, .int (nI x1)), (9, .int (nI r))]) dX3_run_137 (by decide) rfl ?_
              refine J_iload h dX3_run_139 5 rfl ?_
              refine N_if_eq h 152 dX3_run_141 (by decide) (by omega) (fun c_141 => ?_) (fun c_141 => ?_)
              · skip
                refine J_iload h dX3_run_152 7 rfl ?_
                refine J_iload h dX3_run_154 0 rfl ?_
                refine N_isub h (by omega) dX3_run_156 ?_
                refine J_istore h (lv' := [(7, .int (nI (x1 - 1))), (11, .int (nI 1)), (8, .int (nI ((spd (th ((r * co) + x1)) v1) - 1))), (10, .int (nI ((r * co) + x1))), (0, .ref d0), (1, .ref a0), (5, .int (nI rt)), (6, .int q), (9, .int (nI r))]) dX3_run_157 (by decide) rfl ?_
                refine J.wld [3, 4, 5, 0, 1, 2] (ws' := [(d0, .inr (3, [.ref d1, .ref d2, .int (nI r), .int (nI 99)])), (d1, .inl (cI, 8, .inl ce1)), (d2, .inl (cI, 8, .inl se1)), (a0, .inr (0, [.ref a1, .ref a2, .int (nI co), .int (nI ro), .int sl])), (a1, .inl (cI, 48, .inl th)), (a2, .inl (cI, 48, .inl ow))]) rfl rfl ?_
                refine J.loc [4, 5, 6, 7, 0, 2, 8, 3] (lv' := [(0, .ref d0), (1, .ref a0), (5, .int (nI rt)), (6, .int q), (7, .int (nI (x1 - 1))), (8, .int (nI ((spd (th ((r * co) + x1)) v1) - 1))), (9, .int (nI r)), (10, .int (nI ((r * co) + x1)))]) rfl ?_
                exact w_X3_run_159 X h d0 d1 d2 ce se len en a0 a1 a2 th ow co ro sl x w hh hrc hco hro hx hw hhh hR n_53 ih_53 r x1 v1 (x1 - 1) ((spd (th ((r * co) + x1)) v1) - 1) ce1 se1 rt q (by first | exact hr |  assumption | omega | rfl) (by first | exact ex |  assumption | omega | rfl) (by first | exact ev |  assumption | omega | rfl) (by first | exact hnot |  assumption | omega | rfl) (by first | exact hce |  assumption | omega | rfl) (by first | exact hse |  assumption | omega | rfl) (by first | exact hrt |  assumption | omega | rfl) (by first | exact hq |  assumption | omega | rfl) (by rw [rst_s, ← ex, ← ev]; first | (rw [if_pos ⟨by omega, by omega⟩]; show _ = mvx co hh x1; unfold mvx; (repeat' split) <;> omega) | (rw [if_neg (by omega)])) (by rw [rst_s, ← ex, ← ev]; first | (rw [if_pos ⟨by omega, by omega⟩]; done) | (rw [if_neg (by omega)]; done)) (by first | assumption | omega | rfl)
              · skip
                refine J_iload h dX3_run_144 7 rfl ?_
                refine J_iload h dX3_run_146 0 rfl ?_
                refine N_iadd h dX3_run_148 ?_
                refine J_goto h 157 dX3_run_149 (by decide) ?_
                refine J_istore h (lv' := [(7, .int (nI (x1 + 1))), (11, .int (nI 1)), (8, .int (nI ((spd (th ((r * co) + x1)) v1) - 1))), (10, .int (nI ((r * co) + x1))), (0, .ref d0), (1, .ref a0), (5, .int (nI rt)), (6, .int q), (9, .int (nI r))]) dX3_run_157 (by decide) rfl ?_
                refine J.wld [3, 4, 5, 0, 1, 2] (ws' := [(d0, .inr (3, [.ref d1, .ref d2, .int (nI r), .int (nI 99)])), (d1, .inl (cI, 8, .inl ce1)), (d2, .inl (cI, 8, .inl se1)), (a0, .inr (0, [.ref a1, .ref a2, .int (nI co), .int (nI ro), .int sl])), (a1, .inl (cI, 48, .inl th)), (a2, .inl (cI, 48, .inl ow))]) rfl rfl ?_
                refine J.loc [4, 5, 6, 7, 0, 2, 8, 3] (lv' := [(0, .ref d0), (1, .ref a0), (5, .int (nI rt)), (6, .int q), (7, .int (nI (x1 + 1))), (8, .int (nI ((spd (th ((r * co) + x1)) v1) - 1))), (9, .int (nI r)), (10, .int (nI ((r * co) + x1)))]) rfl ?_
                exact w_X3_run_159 X h d0 d1 d2 ce se len en a0 a1 a2 th ow co ro sl x w hh hrc hco hro hx hw hhh hR n_53 ih_53 r x1 v1 (x1 + 1) ((spd (th ((r * co) + x1)) v1) - 1) ce1 se1 rt q (by first | exact hr |  assumption | omega | rfl) (by first | exact ex |  assumption | omega | rfl) (by first | exact ev |  assumption | omega | rfl) (by first | exact hnot |  assumption | omega | rfl) (by first | exact hce |  assumption | omega | rfl) (by first | exact hse |  assumption | omega | rfl) (by first | exact hrt |  assumption | omega | rfl) (by first | exact hq |  assumption | omega | rfl) (by rw [rst_s, ← ex, ← ev]; first | (rw [if_pos ⟨by omega, by omega⟩]; show _ = mvx co hh x1; unfold mvx; (repeat' split) <;> omega) | (rw [if_neg (by omega)])) (by rw [rst_s, ← ex, ← ev]; first | (rw [if_pos ⟨by omega, by omega⟩]; done) | (rw [if_neg (by omega)]; done)) (by first | assumption | omega | rfl)
            · obtain ⟨rfl, f0_126, -⟩ := p_126
              show J X 12 0 0 129 [(8, .int (nI ((spd (th ((r * co) + x1)) v1) - 1))), (10, .int (nI ((r * co) + x1))), (0, .ref d0), (1, .ref a0), (5, .int (nI rt)), (6, .int q), (7, .int (nI x1)), (9, .int (nI r))] [.int (nI 0)] [(a0, .inr (0, [.ref a1, .ref a2, .int (nI co), .int (nI ro), .int sl])), (a1, .inl (cI, 48, .inl th)), (a2, .inl (cI, 48, .inl ow)), (d0, .inr (3, [.ref d1, .ref d2, .int (nI r), .int (nI 99)])), (d1, .inl (cI, 8, .inl ce1)), (d2, .inl (cI, 8, .inl se1))]
              refine J_if_eq h 136 dX3_run_129 (by decide) (fun _ => ?_) (fun z => absurd z (by decide))
              refine J_iconst h (v := nI 0) dX3_run_136 (by decide) ?_
              refine J_istore h (lv' := [(11, .int (nI 0)), (8, .int (nI ((spd (th ((r * co) + x1)) v1) - 1))), (10, .int (nI ((r * co) + x1))), (0, .ref d0), (1, .ref a0), (5, .int (nI rt)), (6, .int q), (7, .int (nI x1)), (9, .int (nI r))]) dX3_run_137 (by decide) rfl ?_
              refine J_iload h dX3_run_139 5 rfl ?_
              refine N_if_eq h 152 dX3_run_141 (by decide) (by omega) (fun c_141 => ?_) (fun c_141 => ?_)
              · skip
                refine J_iload h dX3_run_152 7 rfl ?_
                refine J_iload h dX3_run_154 0 rfl ?_
                refine N_isub h (by omega) dX3_run_156 ?_
                refine J_istore h (lv' := [(7, .int (nI (x1 - 0))), (11, .int (nI 0)), (8, .int (nI ((spd (th ((r * co) + x1)) v1) - 1))), (10, .int (nI ((r * co) + x1))), (0, .ref d0), (1, .ref a0), (5, .int (nI rt)), (6, .int q), (9, .int (nI r))]) dX3_run_157 (by decide) rfl ?_
                refine J.wld [3, 4, 5, 0, 1, 2] (ws' := [(d0, .inr (3, [.ref d1, .ref d2, .int (nI r), .int (nI 99)])), (d1, .inl (cI, 8, .inl ce1)), (d2, .inl (cI, 8, .inl se1)), (a0, .inr (0, [.ref a1, .ref a2, .int (nI co), .int (nI ro), .int sl])), (a1, .inl (cI, 48, .inl th)), (a2, .inl (cI, 48, .inl ow))]) rfl rfl ?_
                refine J.loc [4, 5, 6, 7, 0, 2, 8, 3] (lv' := [(0, .ref d0), (1, .ref a0), (5, .int (nI rt)), (6, .int q), (7, .int (nI (x1 - 0))), (8, .int (nI ((spd (th ((r * co) + x1)) v1) - 1))), (9, .int (nI r)), (10, .int (nI ((r * co) + x1)))]) rfl ?_
                exact w_X3_run_159 X h d0 d1 d2 ce se len en a0 a1 a2 th ow co ro sl x w hh hrc hco hro hx hw hhh hR n_53 ih_53 r x1 v1 (x1 - 0) ((spd (th ((r * co) + x1)) v1) - 1) ce1 se1 rt q (by first | exact hr |  assumption | omega | rfl) (by first | exact ex |  assumption | omega | rfl) (by first | exact ev |  assumption | omega | rfl) (by first | exact hnot |  assumption | omega | rfl) (by first | exact hce |  assumption | omega | rfl) (by first | exact hse |  assumption | omega | rfl) (by first | exact hrt |  assumption | omega | rfl) (by first | exact hq |  assumption | omega | rfl) (by rw [rst_s, ← ex, ← ev]; first | (rw [if_pos ⟨by omega, by omega⟩]; show _ = mvx co hh x1; unfold mvx; (repeat' split) <;> omega) | (rw [if_neg (by omega)])) (by rw [rst_s, ← ex, ← ev]; first | (rw [if_pos ⟨by omega, by omega⟩]; done) | (rw [if_neg (by omega)]; done)) (by first | assumption | omega | rfl)
              · skip
                refine J_iload h dX3_run_144 7 rfl ?_
                refine J_iload h dX3_run_146 0 rfl ?_
                refine N_iadd h dX3_run_148 ?_
                refine J_goto h 157 dX3_run_149 (by decide) ?_
                refine J_istore h (lv' := [(7, .int (nI (x1 + 0))), (11, .int (nI 0)), (8, .int (nI ((spd (th ((r * co) + x1)) v1) - 1))), (10, .int (nI ((r * co) + x1))), (0, .ref d0), (1, .ref a0), (5, .int (nI rt)), (6, .int q), (9, .int (nI r))]) dX3_run_157 (by decide) rfl ?_
                refine J.wld [3, 4, 5, 0, 1, 2] (ws' := [(d0, .inr (3, [.ref d1, .ref d2, .int (nI r), .int (nI 99)])), (d1, .inl (cI, 8, .inl ce1)), (d2, .inl (cI, 8, .inl se1)), (a0, .inr (0, [.ref a1, .ref a2, .int (nI co), .int (nI ro), .int sl])), (a1, .inl (cI, 48, .inl th)), (a2, .inl (cI, 48, .inl ow))]) rfl rfl ?_
                refine J.loc [4, 5, 6, 7, 0, 2, 8, 3] (lv' := [(0, .ref d0), (1, .ref a0), (5, .int (nI rt)), (6, .int q), (7, .int (nI (x1 + 0))), (8, .int (nI ((spd (th ((r * co) + x1)) v1) - 1))), (9, .int (nI r)), (10, .int (nI ((r * co) + x1)))]) rfl ?_
                exact w_X3_run_159 X h d0 d1 d2 ce se len en a0 a1 a2 th ow co ro sl x w hh hrc hco hro hx hw hhh hR n_53 ih_53 r x1 v1 (x1 + 0) ((spd (th ((r * co) + x1)) v1) - 1) ce1 se1 rt q (by first | exact hr |  assumption | omega | rfl) (by first | exact ex |  assumption | omega | rfl) (by first | exact ev |  assumption | omega | rfl) (by first | exact hnot |  assumption | omega | rfl) (by first | exact hce |  assumption | omega | rfl) (by first | exact hse |  assumption | omega | rfl) (by first | exact hrt |  assumption | omega | rfl) (by first | exact hq |  assumption | omega | rfl) (by rw [rst_s, ← ex, ← ev]; first | (rw [if_pos ⟨by omega, by omega⟩]; show _ = mvx co hh x1; unfold mvx; (repeat' split) <;> omega) | (rw [if_neg (by omega)])) (by rw [rst_s, ← ex, ← ev]; first | (rw [if_pos ⟨by omega, by omega⟩]; done) | (rw [if_neg (by omega)]; done)) (by first | assumption | omega | rfl)
set_option maxRecDepth 100000 in
set_option maxHeartbeats 4000000 in
theorem w_X3_run (X : Cx) {cI cE : ClassId} (h : Ok X cX3_run RX3 12 cI cE 2 0 0) (d0 : Nat) (d1 : Nat) (d2 : Nat) (ce : Nat → Int32) (se : Nat → Int32) (len : Int32) (en : Int32) (a0 : Nat) (a1 : Nat) (a2 : Nat) (th : Nat → Int32) (ow : Nat → Int32) (co : Nat) (ro : Nat) (sl : Int32) (x : Nat) (w : Nat) (hh : Nat) (hrc : ro * co ≤ 48) (hco : co ≤ 6) (hro : ro ≤ 8) (hx : x < co) (hw : w ≤ 20) (hhh : hh ≤ 18) (hR : ∀ (u : (Nat → Int32) × (Nat → Int32)), ((∀ k, k < rln th co ro hh x w → u.1 k = nI (rcl th co hh x w k)) ∧ (∀ k, k < rln th co ro hh x w → u.2 k = nI (rst th co hh x w (k + 1)).2) ∧ (True)) → RetV X cX3_run 12 0 0 [(d0, .inr (3, [.ref d1, .ref d2, .int (nI (rln th co ro hh x w)), .int (nI (ren th co ro hh x w))])), (d1, .inl (cI, 8, .inl u.1)), (d2, .inl (cI, 8, .inl u.2)), (a0, .inr (0, [.ref a1, .ref a2, .int (nI co), .int (nI ro), .int sl])), (a1, .inl (cI, 48, .inl th)), (a2, .inl (cI, 48, .inl ow))]) : J X 12 0 0 0 [(0, .ref d0), (1, .ref a0), (2, .int (nI x)), (3, .int (nI w)), (4, .int (nI hh))] [] [(d0, .inr (3, [.ref d1, .ref d2, .int len, .int en])), (d1, .inl (cI, 8, .inl ce)), (d2, .inl (cI, 8, .inl se)), (a0, .inr (0, [.ref a1, .ref a2, .int (nI co), .int (nI ro), .int sl])), (a1, .inl (cI, 48, .inl th)), (a2, .inl (cI, 48, .inl ow))] := by
  refine J_iload h dX3_run_0 4 rfl ?_
  refine J_bipush h (v := nI 10) dX3_run_2 (by decide) ?_
  refine N_icmp_le h 11 dX3_run_4 (by decide) (by omega) (by omega) (fun c_4 => ?_) (fun c_4 => ?_)
  · skip
    refine J_iconst h (v := nI 0) dX3_run_11 (by decide) ?_
    refine J_istore h (lv' := [(5, .int (nI 0)), (0, .ref d0), (1, .ref a0), (2, .int (nI x)), (3, .int (nI w)), (4, .int (nI hh))]) dX3_run_12 (by decide) rfl ?_
    refine J_iload h dX3_run_14 0 rfl ?_
    refine J_if_eq h 27 dX3_run_16 (by decide) (fun _ => ?_) (fun z => absurd z (by decide))
    refine J_iload h dX3_run_27 5 rfl ?_
    refine J_iconst h (v := nI 1) dX3_run_29 (by decide) ?_
    refine J_isub h dX3_run_30 ?_
    refine J_istore h (lv' := [(6, .int ((nI hh) - (nI 1))), (5, .int (nI 0)), (0, .ref d0), (1, .ref a0), (2, .int (nI x)), (3, .int (nI w)), (4, .int (nI hh))]) dX3_run_31 (by decide) rfl ?_
    refine J_iload_n h (i := 2) dX3_run_33 rfl 4 rfl ?_
    refine J_istore h (lv' := [(7, .int (nI x)), (6, .int ((nI hh) - (nI 1))), (5, .int (nI 0)), (0, .ref d0), (1, .ref a0), (2, .int (nI x)), (3, .int (nI w)), (4, .int (nI hh))]) dX3_run_34 (by decide) rfl ?_
    refine J_iload_n h (i := 3) dX3_run_36 rfl 6 rfl ?_
    refine J_istore h (lv' := [(8, .int (nI w)), (7, .int (nI x)), (6, .int ((nI hh) - (nI 1))), (5, .int (nI 0)), (0, .ref d0), (1, .ref a0), (2, .int (nI x)), (3, .int (nI w)), (4, .int (nI hh))]) dX3_run_37 (by decide) rfl ?_
    refine J_aload_n h (i := 0) dX3_run_39 rfl 4 rfl ?_
    refine J_iconst h (v := nI 0) dX3_run_40 (by decide) ?_
    refine J_put h (ws' := [(d0, .inr (3, [.ref d1, .ref d2, .int (nI 0), .int en])), (d1, .inl (cI, 8, .inl ce)), (d2, .inl (cI, 8, .inl se)), (a0, .inr (0, [.ref a1, .ref a2, .int (nI co), .int (nI ro), .int sl])), (a1, .inl (cI, 48, .inl th)), (a2, .inl (cI, 48, .inl ow))]) inX3 tyX3 tyX3_ok nmX3 rfl 0 2 (by decide) rfl nf_X3_18 rfl rfl rfl rfl (Nat.le_of_ble_eq_true rfl) dX3_run_41 rfl ?_
    refine J_aload_n h (i := 0) dX3_run_44 rfl 4 rfl ?_
    refine J_bipush h (v := nI 99) dX3_run_45 (by decide) ?_
    refine J_put h (ws' := [(d0, .inr (3, [.ref d1, .ref d2, .int (nI 0), .int (nI 99)])), (d1, .inl (cI, 8, .inl ce)), (d2, .inl (cI, 8, .inl se)), (a0, .inr (0, [.ref a1, .ref a2, .int (nI co), .int (nI ro), .int sl])), (a1, .inl (cI, 48, .inl th)), (a2, .inl (cI, 48, .inl ow))]) inX3 tyX3 tyX3_ok nmX3 rfl 0 3 (by decide) rfl nf_X3_22 rfl rfl rfl rfl (Nat.le_of_ble_eq_true rfl) dX3_run_47 rfl ?_
    refine J_iconst h (v := nI 0) dX3_run_50 (by decide) ?_
    refine J_istore h (lv' := [(9, .int (nI 0)), (8, .int (nI w)), (7, .int (nI x)), (6, .int ((nI hh) - (nI 1))), (5, .int (nI 0)), (0, .ref d0), (1, .ref a0), (2, .int (nI x)), (3, .int (nI w)), (4, .int (nI hh))]) dX3_run_51 (by decide) rfl ?_
    refine J.loc [5, 6, 4, 3, 2, 1, 0] (lv' := [(0, .ref d0), (1, .ref a0), (5, .int (nI 0)), (6, .int ((nI hh) - (nI 1))), (7, .int (nI x)), (8, .int (nI w)), (9, .int (nI 0))]) rfl ?_
    exact w_X3_run_53 X h d0 d1 d2 ce se len en a0 a1 a2 th ow co ro sl x w hh hrc hco hro hx hw hhh hR  (ro - 0 + 1) 0 x w ce se 0 ((nI hh) - (nI 1)) (by first | assumption | omega | rfl) (by rfl) (by rfl) (by intro k hk; omega) (by intro k hk; omega) (by intro k hk; omega) (by first | assumption | omega | rfl) (by unfold hrow; first | (rw [if_pos (by omega), show nI hh - nI 10 = nI (hh - 10) from pk_sub (by omega), pk_sub_toInt (by omega) (by omega)]; omega) | (rw [if_neg (by omega), pk_sub_toInt (by omega) (by omega)]; omega)) (by omega)
  · skip
    refine J_iconst h (v := nI 1) dX3_run_7 (by decide) ?_
    refine J_goto h 12 dX3_run_8 (by decide) ?_
    refine J_istore h (lv' := [(5, .int (nI 1)), (0, .ref d0), (1, .ref a0), (2, .int (nI x)), (3, .int (nI w)), (4, .int (nI hh))]) dX3_run_12 (by decide) rfl ?_
    refine J_iload h dX3_run_14 0 rfl ?_
    refine J_if_eq h 27 dX3_run_16 (by decide) (fun z => absurd z (by decide)) (fun _ => ?_)
    refine J_iload h dX3_run_19 5 rfl ?_
    refine J_bipush h (v := nI 10) dX3_run_21 (by decide) ?_
    refine J_isub h dX3_run_23 ?_
    refine J_goto h 29 dX3_run_24 (by decide) ?_
    refine J_iconst h (v := nI 1) dX3_run_29 (by decide) ?_
    refine J_isub h dX3_run_30 ?_
    refine J_istore h (lv' := [(6, .int (((nI hh) - (nI 10)) - (nI 1))), (5, .int (nI 1)), (0, .ref d0), (1, .ref a0), (2, .int (nI x)), (3, .int (nI w)), (4, .int (nI hh))]) dX3_run_31 (by decide) rfl ?_
    refine J_iload_n h (i := 2) dX3_run_33 rfl 4 rfl ?_
    refine J_istore h (lv' := [(7, .int (nI x)), (6, .int (((nI hh) - (nI 10)) - (nI 1))), (5, .int (nI 1)), (0, .ref d0), (1, .ref a0), (2, .int (nI x)), (3, .int (nI w)), (4, .int (nI hh))]) dX3_run_34 (by decide) rfl ?_
    refine J_iload_n h (i := 3) dX3_run_36 rfl 6 rfl ?_
    refine J_istore h (lv' := [(8, .int (nI w)), (7, .int (nI x)), (6, .int (((nI hh) - (nI 10)) - (nI 1))), (5, .int (nI 1)), (0, .ref d0), (1, .ref a0), (2, .int (nI x)), (3, .int (nI w)), (4, .int (nI hh))]) dX3_run_37 (by decide) rfl ?_
    refine J_aload_n h (i := 0) dX3_run_39 rfl 4 rfl ?_
    refine J_iconst h (v := nI 0) dX3_run_40 (by decide) ?_
    refine J_put h (ws' := [(d0, .inr (3, [.ref d1, .ref d2, .int (nI 0), .int en])), (d1, .inl (cI, 8, .inl ce)), (d2, .inl (cI, 8, .inl se)), (a0, .inr (0, [.ref a1, .ref a2, .int (nI co), .int (nI ro), .int sl])), (a1, .inl (cI, 48, .inl th)), (a2, .inl (cI, 48, .inl ow))]) inX3 tyX3 tyX3_ok nmX3 rfl 0 2 (by decide) rfl nf_X3_18 rfl rfl rfl rfl (Nat.le_of_ble_eq_true rfl) dX3_run_41 rfl ?_
    refine J_aload_n h (i := 0) dX3_run_44 rfl 4 rfl ?_
    refine J_bipush h (v := nI 99) dX3_run_45 (by decide) ?_
    refine J_put h (ws' := [(d0, .inr (3, [.ref d1, .ref d2, .int (nI 0), .int (nI 99)])), (d1, .inl (cI, 8, .inl ce)), (d2, .inl (cI, 8, .inl se)), (a0, .inr (0, [.ref a1, .ref a2, .int (nI co), .int (nI ro), .int sl])), (a1, .inl (cI, 48, .inl th)), (a2, .inl (cI, 48, .inl ow))]) inX3 tyX3 tyX3_ok nmX3 rfl 0 3 (by decide) rfl nf_X3_22 rfl rfl rfl rfl (Nat.le_of_ble_eq_true rfl) dX3_run_47 rfl ?_
    refine J_iconst h (v := nI 0) dX3_run_50 (by decide) ?_
    refine J_istore h (lv' := [(9, .int (nI 0)), (8, .int (nI w)), (7, .int (nI x)), (6, .int (((nI hh) - (nI 10)) - (nI 1))), (5, .int (nI 1)), (0, .ref d0), (1, .ref a0), (2, .int (nI x)), (3, .int (nI w)), (4, .int (nI hh))]) dX3_run_51 (by decide) rfl ?_
    refine J.loc [5, 6, 4, 3, 2, 1, 0] (lv' := [(0, .ref d0), (1, .ref a0), (5, .int (nI 1)), (6, .int (((nI hh) - (nI 10)) - (nI 1))), (7, .int (nI x)), (8, .int (nI w)), (9, .int (nI 0))]) rfl ?_
    exact w_X3_run_53 X h d0 d1 d2 ce se len en a0 a1 a2 th ow co ro sl x w hh hrc hco hro hx hw hhh hR  (ro - 0 + 1) 0 x w ce se 1 (((nI hh) - (nI 10)) - (nI 1)) (by first | assumption | omega | rfl) (by rfl) (by rfl) (by intro k hk; omega) (by intro k hk; omega) (by intro k hk; omega) (by first | assumption | omega | rfl) (by unfold hrow; first | (rw [if_pos (by omega), show nI hh - nI 10 = nI (hh - 10) from pk_sub (by omega), pk_sub_toInt (by omega) (by omega)]; omega) | (rw [if_neg (by omega), pk_sub_toInt (by omega) (by omega)]; omega)) (by omega)
theorem c_X3_run (l : Launch) (D : va_G) (cI cE : ClassId) (d0 : Nat) (d1 : Nat) (d2 : Nat) (ce : Nat → Int32) (se : Nat → Int32) (len : Int32) (en : Int32) (a0 : Nat) (a1 : Nat) (a2 : Nat) (th : Nat → Int32) (ow : Nat → Int32) (co : Nat) (ro : Nat) (sl : Int32) (x : Nat) (w : Nat) (hh : Nat) (hrc : ro * co ≤ 48) (hco : co ≤ 6) (hro : ro ≤ 8) (hx : x < co) (hw : w ≤ 20) (hhh : hh ≤ 18) : Cv l D cI cE yX3_run cX3_run 12 none 2 0 0 [.ref d0, .ref a0, .int (nI x), .int (nI w), .int (nI hh)] [(d0, .inr (3, [.ref d1, .ref d2, .int len, .int en])), (d1, .inl (cI, 8, .inl ce)), (d2, .inl (cI, 8, .inl se)), (a0, .inr (0, [.ref a1, .ref a2, .int (nI co), .int (nI ro), .int sl])), (a1, .inl (cI, 48, .inl th)), (a2, .inl (cI, 48, .inl ow))] (fun (u : (Nat → Int32) × (Nat → Int32)) => ((∀ k, k < rln th co ro hh x w → u.1 k = nI (rcl th co hh x w k)) ∧ (∀ k, k < rln th co ro hh x w → u.2 k = nI (rst th co hh x w (k + 1)).2) ∧ (True))) (fun (u : (Nat → Int32) × (Nat → Int32)) => ([(d0, .inr (3, [.ref d1, .ref d2, .int (nI (rln th co ro hh x w)), .int (nI (ren th co ro hh x w))])), (d1, .inl (cI, 8, .inl u.1)), (d2, .inl (cI, 8, .inl u.2)), (a0, .inr (0, [.ref a1, .ref a2, .int (nI co), .int (nI ro), .int sl])), (a1, .inl (cI, 48, .inl th)), (a2, .inl (cI, 48, .inl ow))] : va_W)) :=
  Cv.of (by decide) (Nat.le_of_ble_eq_true rfl) (fun X h hR _ => w_X3_run X h d0 d1 d2 ce se len en a0 a1 a2 th ow co ro sl x w hh hrc hco hro hx hw hhh hR)
theorem yv_X3_run : YV yX3_run cX3_run 12 none 4 := ⟨no_X3_run, nv_X3_run, ni_X3, nk_X3_run, by decide +kernel⟩
set_option maxRecDepth 100000 in
set_option maxHeartbeats 4000000 in
theorem w_X3_takeFor_2 (X : Cx) {cI cE : ClassId} (h : Ok X cX3_takeFor RX3 4 cI cE 2 0 0) (d0 : Nat) (d1 : Nat) (d2 : Nat) (ce : Nat → Int32) (se : Nat → Int32) (len : Nat) (en : Int32) (a0 : Nat) (a1 : Nat) (a2 : Nat) (th : Nat → Int32) (ow : Nat → Int32) (co : Nat) (ro : Nat) (sl : Int32) (p0 : Int32) (cl : Nat → Nat) (hrc : ro * co ≤ 48) (hl : len ≤ 8) (hc : ∀ k, k < len → ce k = nI (cl k) ∧ cl k < ro * co) (hR : ∀ (u : Unit), ((True)) → RetV X cX3_takeFor 4 0 0 [(d0, .inr (3, [.ref d1, .ref d2, .int (nI len), .int en])), (d1, .inl (cI, 8, .inl ce)), (d2, .inl (cI, 8, .inl se)), (a0, .inr (0, [.ref a1, .ref a2, .int (nI co), .int (nI ro), .int sl])), (a1, .inl (cI, 48, .inl th)), (a2, .inl (cI, 48, .inl (owB ow p0 cl len)))]) : ∀ (n_2 : Nat) (i : Nat) (o1 : Nat → Int32), (i ≤ len) → (o1 = owB ow p0 cl i) → len - i < n_2 → J X 4 0 0 2 [(0, .ref d0), (1, .ref a0), (2, .int p0), (3, .int (nI i))] [] [(d0, .inr (3, [.ref d1, .ref d2, .int (nI len), .int en])), (d1, .inl (cI, 8, .inl ce)), (d2, .inl (cI, 8, .inl se)), (a0, .inr (0, [.ref a1, .ref a2, .int (nI co), .int (nI ro), .int sl])), (a1, .inl (cI, 48, .inl th)), (a2, .inl (cI, 48, .inl o1))] := by
  intro n_2
  induction n_2 with
  | zero => intro i o1 hi ho hn_; exact absurd hn_ (Nat.not_lt_zero _)
  | succ n_2 ih_2 =>
    intro i o1 hi ho hn_2
    refine J_iload_n h (i := 3) dX3_takeFor_2 rfl 3 rfl ?_
    refine J_aload_n h (i := 0) dX3_takeFor_3 rfl 0 rfl ?_
    refine J_get h inX3 rfl 0 2 (by decide) rfl rfl nf_X3_18 dX3_takeFor_4 ?_
    refine N_icmp_ge h 26 dX3_takeFor_7 (by decide) (by omega) (by omega) (fun c_7 => ?_) (fun c_7 => ?_)
    · skip
      refine J_arr (g := (owB ow p0 cl len)) (ws' := [(d0, .inr (3, [.ref d1, .ref d2, .int (nI len), .int en])), (d1, .inl (cI, 8, .inl ce)), (d2, .inl (cI, 8, .inl se)), (a0, .inr (0, [.ref a1, .ref a2, .int (nI co), .int (nI ro), .int sl])), (a1, .inl (cI, 48, .inl th)), (a2, .inl (cI, 48, .inl (owB ow p0 cl len)))]) 5 rfl (by intro j hj; rw [ho, show i = len by omega]) rfl ?_
      exact hR () (trivial) 26 _ dX3_takeFor_26
    · skip
      refine J_aload_n h (i := 1) dX3_takeFor_10 rfl 1 rfl ?_
      refine J_aload_n h (i := 0) dX3_takeFor_11 rfl 0 rfl ?_
      refine J_iload_n h (i := 3) dX3_takeFor_12 rfl 3 rfl ?_
      refine K_vi h (wr := [(a0, .inr (0, [.ref a1, .ref a2, .int (nI co), .int (nI ro), .int sl])), (a1, .inl (cI, 48, .inl th)), (a2, .inl (cI, 48, .inl o1))]) (c_X3_cellIn (xl X) (xD X) cI cE d0 d1 d2 ce se len en i (by first | exact hl |  assumption | omega | rfl) (by first | assumption | omega | rfl)) yv_X3_cellIn nm_X3_56 (by decide) (by decide) rfl rfl 0 rfl rfl rfl rfl (Nat.le_of_ble_eq_true rfl) (Nat.le_refl _) (Nat.le_refl _) dX3_takeFor_13 (fun r_13 u_13 p_13 => ?_)
      obtain ⟨rfl, -⟩ := p_13
      show J X 4 0 0 16 [(0, .ref d0), (1, .ref a0), (2, .int p0), (3, .int (nI i))] [.int (ce i), .ref a0] [(d0, .inr (3, [.ref d1, .ref d2, .int (nI len), .int en])), (d1, .inl (cI, 8, .inl ce)), (d2, .inl (cI, 8, .inl se)), (a0, .inr (0, [.ref a1, .ref a2, .int (nI co), .int (nI ro), .int sl])), (a1, .inl (cI, 48, .inl th)), (a2, .inl (cI, 48, .inl o1))]
      obtain ⟨hc1, hc2⟩ := hc i (by omega)
      refine J_eqs (st' := [.int (nI (cl i)), .ref a0]) (by rw [hc1]) ?_
      refine J_iload_n h (i := 2) dX3_takeFor_16 rfl 2 rfl ?_
      refine J.wld [3, 4, 5, 0, 1, 2] (ws' := [(a0, .inr (0, [.ref a1, .ref a2, .int (nI co), .int (nI ro), .int sl])), (a1, .inl (cI, 48, .inl th)), (a2, .inl (cI, 48, .inl o1)), (d0, .inr (3, [.ref d1, .ref d2, .int (nI len), .int en])), (d1, .inl (cI, 8, .inl ce)), (d2, .inl (cI, 8, .inl se))]) rfl rfl ?_
      refine K_vv h (wr := [(d0, .inr (3, [.ref d1, .ref d2, .int (nI len), .int en])), (d1, .inl (cI, 8, .inl ce)), (d2, .inl (cI, 8, .inl se))]) (c_X0_putOwner (xl X) (xD X) cI cE a0 a1 a2 th o1 co ro sl (cl i) p0 (by first | exact hrc |  assumption | omega | rfl) (by first | assumption | omega | rfl)) yv_X0_putOwner nm_X3_59 (by decide) (by decide) rfl rfl 0 rfl rfl rfl rfl (Nat.le_of_ble_eq_true rfl) (Nat.le_refl _) (Nat.le_refl _) dX3_takeFor_17 (fun u_17 p_17 => ?_)
      show J X 4 0 0 20 [(0, .ref d0), (1, .ref a0), (2, .int p0), (3, .int (nI i))] [] [(a0, .inr (0, [.ref a1, .ref a2, .int (nI co), .int (nI ro), .int sl])), (a1, .inl (cI, 48, .inl th)), (a2, .inl (cI, 48, .inl (upd o1 (cl i) p0))), (d0, .inr (3, [.ref d1, .ref d2, .int (nI len), .int en])), (d1, .inl (cI, 8, .inl ce)), (d2, .inl (cI, 8, .inl se))]
      refine J_iinc h (v := nI (i + 1)) (lv' := [(3, .int (nI (i + 1))), (0, .ref d0), (1, .ref a0), (2, .int p0)]) dX3_takeFor_20 3 rfl (inc_ok _ 1) (by decide) rfl ?_
      refine J_goto h 2 dX3_takeFor_23 (by decide) ?_
      refine J.wld [3, 4, 5, 0, 1, 2] (ws' := [(d0, .inr (3, [.ref d1, .ref d2, .int (nI len), .int en])), (d1, .inl (cI, 8, .inl ce)), (d2, .inl (cI, 8, .inl se)), (a0, .inr (0, [.ref a1, .ref a2, .int (nI co), .int (nI ro), .int sl])), (a1, .inl (cI, 48, .inl th)), (a2, .inl (cI, 48, .inl (upd o1 (cl i) p0)))]) rfl rfl ?_
      refine J.loc [1, 2, 3, 0] (lv' := [(0, .ref d0), (1, .ref a0), (2, .int p0), (3, .int (nI (i + 1)))]) rfl ?_
      exact ih_2 (i + 1) (upd o1 (cl i) p0) (by first | exact hi |  assumption | omega | rfl) (by rw [ho]; rfl) (by omega)
set_option maxRecDepth 100000 in
set_option maxHeartbeats 4000000 in
theorem w_X3_takeFor (X : Cx) {cI cE : ClassId} (h : Ok X cX3_takeFor RX3 4 cI cE 2 0 0) (d0 : Nat) (d1 : Nat) (d2 : Nat) (ce : Nat → Int32) (se : Nat → Int32) (len : Nat) (en : Int32) (a0 : Nat) (a1 : Nat) (a2 : Nat) (th : Nat → Int32) (ow : Nat → Int32) (co : Nat) (ro : Nat) (sl : Int32) (p0 : Int32) (cl : Nat → Nat) (hrc : ro * co ≤ 48) (hl : len ≤ 8) (hc : ∀ k, k < len → ce k = nI (cl k) ∧ cl k < ro * co) (hR : ∀ (u : Unit), ((True)) → RetV X cX3_takeFor 4 0 0 [(d0, .inr (3, [.ref d1, .ref d2, .int (nI len), .int en])), (d1, .inl (cI, 8, .inl ce)), (d2, .inl (cI, 8, .inl se)), (a0, .inr (0, [.ref a1, .ref a2, .int (nI co), .int (nI ro), .int sl])), (a1, .inl (cI, 48, .inl th)), (a2, .inl (cI, 48, .inl (owB ow p0 cl len)))]) : J X 4 0 0 0 [(0, .ref d0), (1, .ref a0), (2, .int p0)] [] [(d0, .inr (3, [.ref d1, .ref d2, .int (nI len), .int en])), (d1, .inl (cI, 8, .inl ce)), (d2, .inl (cI, 8, .inl se)), (a0, .inr (0, [.ref a1, .ref a2, .int (nI co), .int (nI ro), .int sl])), (a1, .inl (cI, 48, .inl th)), (a2, .inl (cI, 48, .inl ow))] := by
  refine J_iconst h (v := nI 0) dX3_takeFor_0 (by decide) ?_
  refine J_istore_n h (i := 3) (lv' := [(3, .int (nI 0)), (0, .ref d0), (1, .ref a0), (2, .int p0)]) dX3_takeFor_1 rfl (by decide) rfl ?_
  refine J.loc [1, 2, 3, 0] (lv' := [(0, .ref d0), (1, .ref a0), (2, .int p0), (3, .int (nI 0))]) rfl ?_
  exact w_X3_takeFor_2 X h d0 d1 d2 ce se len en a0 a1 a2 th ow co ro sl p0 cl hrc hl hc hR  (len - 0 + 1) 0 ow (by first | assumption | omega | rfl) (by rfl) (by omega)
theorem c_X3_takeFor (l : Launch) (D : va_G) (cI cE : ClassId) (d0 : Nat) (d1 : Nat) (d2 : Nat) (ce : Nat → Int32) (se : Nat → Int32) (len : Nat) (en : Int32) (a0 : Nat) (a1 : Nat) (a2 : Nat) (th : Nat → Int32) (ow : Nat → Int32) (co : Nat) (ro : Nat) (sl : Int32) (p0 : Int32) (cl : Nat → Nat) (hrc : ro * co ≤ 48) (hl : len ≤ 8) (hc : ∀ k, k < len → ce k = nI (cl k) ∧ cl k < ro * co) : Cv l D cI cE yX3_takeFor cX3_takeFor 4 none 2 0 0 [.ref d0, .ref a0, .int p0] [(d0, .inr (3, [.ref d1, .ref d2, .int (nI len), .int en])), (d1, .inl (cI, 8, .inl ce)), (d2, .inl (cI, 8, .inl se)), (a0, .inr (0, [.ref a1, .ref a2, .int (nI co), .int (nI ro), .int sl])), (a1, .inl (cI, 48, .inl th)), (a2, .inl (cI, 48, .inl ow))] (fun (u : Unit) => ((True))) (fun (u : Unit) => ([(d0, .inr (3, [.ref d1, .ref d2, .int (nI len), .int en])), (d1, .inl (cI, 8, .inl ce)), (d2, .inl (cI, 8, .inl se)), (a0, .inr (0, [.ref a1, .ref a2, .int (nI co), .int (nI ro), .int sl])), (a1, .inl (cI, 48, .inl th)), (a2, .inl (cI, 48, .inl (owB ow p0 cl len)))] : va_W)) :=
  Cv.of (by decide) (Nat.le_of_ble_eq_true rfl) (fun X h hR _ => w_X3_takeFor X h d0 d1 d2 ce se len en a0 a1 a2 th ow co ro sl p0 cl hrc hl hc hR)
theorem yv_X3_takeFor : YV yX3_takeFor cX3_takeFor 4 none 2 := ⟨no_X3_takeFor, nv_X3_takeFor, ni_X3, nk_X3_takeFor, by decide +kernel⟩
set_option maxRecDepth 100000 in
set_option maxHeartbeats 4000000 in
theorem w_X3_cellsThatAre_6 (X : Cx) {cI cE : ClassId} (h : Ok X cX3_cellsThatAre RX3 6 cI cE 2 0 0) (d0 : Nat) (d1 : Nat) (d2 : Nat) (ce : Nat → Int32) (se : Nat → Int32) (len : Nat) (en : Int32) (a0 : Nat) (a1 : Nat) (a2 : Nat) (th : Nat → Int32) (ow : Nat → Int32) (co : Nat) (ro : Nat) (sl : Int32) (p0 : Int32) (its : Nat) (cl : Nat → Nat) (hrc : ro * co ≤ 48) (hl : len ≤ 8) (hc : ∀ k, k < len → ce k = nI (cl k) ∧ cl k < ro * co) (hits : its < 2) (hR : ∀ (r : Int32) (u : Unit), ((nI (cntP (fun k => decide (ow (cl k) = p0 ↔ its = 1)) len) = r) ∧ (True)) → RetI X cX3_cellsThatAre 6 0 0 r [(d0, .inr (3, [.ref d1, .ref d2, .int (nI len), .int en])), (d1, .inl (cI, 8, .inl ce)), (d2, .inl (cI, 8, .inl se)), (a0, .inr (0, [.ref a1, .ref a2, .int (nI co), .int (nI ro), .int sl])), (a1, .inl (cI, 48, .inl th)), (a2, .inl (cI, 48, .inl ow))]) : ∀ (n_6 : Nat) (i : Nat) (n : Nat), (i ≤ len) → (n = cntP (fun k => decide (ow (cl k) = p0 ↔ its = 1)) i) → len - i < n_6 → J X 6 0 0 6 [(0, .ref d0), (1, .ref a0), (2, .int p0), (3, .int (nI its)), (4, .int (nI n)), (5, .int (nI i))] [] [(d0, .inr (3, [.ref d1, .ref d2, .int (nI len), .int en])), (d1, .inl (cI, 8, .inl ce)), (d2, .inl (cI, 8, .inl se)), (a0, .inr (0, [.ref a1, .ref a2, .int (nI co), .int (nI ro), .int sl])), (a1, .inl (cI, 48, .inl th)), (a2, .inl (cI, 48, .inl ow))] := by
  intro n_6
  induction n_6 with
  | zero => intro i n hi hn hn_; exact absurd hn_ (Nat.not_lt_zero _)
  | succ n_6 ih_6 =>
    intro i n hi hn hn_6
    have hle := cntP_le (fun k => decide (ow (cl k) = p0 ↔ its = 1)) i
    refine J_iload h dX3_cellsThatAre_6 5 rfl ?_
    refine J_aload_n h (i := 0) dX3_cellsThatAre_8 rfl 0 rfl ?_
    refine J_get h inX3 rfl 0 2 (by decide) rfl rfl nf_X3_18 dX3_cellsThatAre_9 ?_
    refine N_icmp_ge h 47 dX3_cellsThatAre_12 (by decide) (by omega) (by omega) (fun c_12 => ?_) (fun c_12 => ?_)
    · skip
      refine J_iload h dX3_cellsThatAre_47 4 rfl ?_
      exact hR (nI n) () (⟨(by rw [hn, show i = len by omega]), trivial⟩) 49 _ dX3_cellsThatAre_49
    · skip
      refine J_aload_n h (i := 1) dX3_cellsThatAre_15 rfl 1 rfl ?_
      refine J_aload_n h (i := 0) dX3_cellsThatAre_16 rfl 0 rfl ?_
      refine J_iload h dX3_cellsThatAre_17 5 rfl ?_
      refine K_vi h (wr := [(a0, .inr (0, [.ref a1, .ref a2, .int (nI co), .int (nI ro), .int sl])), (a1, .inl (cI, 48, .inl th)), (a2, .inl (cI, 48, .inl ow))]) (c_X3_cellIn (xl X) (xD X) cI cE d0 d1 d2 ce se len en i (by first | exact hl |  assumption | omega | rfl) (by first | assumption | omega | rfl)) yv_X3_cellIn nm_X3_56 (by decide) (by decide) rfl rfl 0 rfl rfl rfl rfl (Nat.le_of_ble_eq_true rfl) (Nat.le_refl _) (Nat.le_refl _) dX3_cellsThatAre_19 (fun r_19 u_19 p_19 => ?_)
      obtain ⟨rfl, -⟩ := p_19
      show J X 6 0 0 22 [(0, .ref d0), (1, .ref a0), (2, .int p0), (3, .int (nI its)), (4, .int (nI n)), (5, .int (nI i))] [.int (ce i), .ref a0] [(d0, .inr (3, [.ref d1, .ref d2, .int (nI len), .int en])), (d1, .inl (cI, 8, .inl ce)), (d2, .inl (cI, 8, .inl se)), (a0, .inr (0, [.ref a1, .ref a2, .int (nI co), .int (nI ro), .int sl])), (a1, .inl (cI, 48, .inl th)), (a2, .inl (cI, 48, .inl ow))]
      obtain ⟨hc1, hc2⟩ := hc i (by omega)
      refine J_eqs (st' := [.int (nI (cl i)), .ref a0]) (by rw [hc1]) ?_
      refine J.wld [3, 4, 5, 0, 1, 2] (ws' := [(a0, .inr (0, [.ref a1, .ref a2, .int (nI co), .int (nI ro), .int sl])), (a1, .inl (cI, 48, .inl th)), (a2, .inl (cI, 48, .inl ow)), (d0, .inr (3, [.ref d1, .ref d2, .int (nI len), .int en])), (d1, .inl (cI, 8, .inl ce)), (d2, .inl (cI, 8, .inl se))]) rfl rfl ?_
      refine K_vi h (wr := [(d0, .inr (3, [.ref d1, .ref d2, .int (nI len), .int en])), (d1, .inl (cI, 8, .inl ce)), (d2, .inl (cI, 8, .inl se))]) (c_X0_ownerOf (xl X) (xD X) cI cE a0 a1 a2 th ow co ro sl (cl i) (by first | exact hrc |  assumption | omega | rfl) (by first | assumption | omega | rfl)) yv_X0_ownerOf nm_X3_63 (by decide) (by decide) rfl rfl 0 rfl rfl rfl rfl (Nat.le_of_ble_eq_true rfl) (Nat.le_refl _) (Nat.le_refl _) dX3_cellsThatAre_22 (fun r_22 u_22 p_22 => ?_)
      obtain ⟨rfl, -⟩ := p_22
      show J X 6 0 0 25 [(0, .ref d0), (1, .ref a0), (2, .int p0), (3, .int (nI its)), (4, .int (nI n)), (5, .int (nI i))] [.int (ow (cl i))] [(a0, .inr (0, [.ref a1, .ref a2, .int (nI co), .int (nI ro), .int sl])), (a1, .inl (cI, 48, .inl th)), (a2, .inl (cI, 48, .inl ow)), (d0, .inr (3, [.ref d1, .ref d2, .int (nI len), .int en])), (d1, .inl (cI, 8, .inl ce)), (d2, .inl (cI, 8, .inl se))]
      refine J_iload_n h (i := 2) dX3_cellsThatAre_25 rfl 2 rfl ?_
      refine J_icmp_ne h 33 dX3_cellsThatAre_26 (by decide) (fun c_26 => ?_) (fun c_26 => ?_)
      · skip
        refine J_iconst h (v := nI 0) dX3_cellsThatAre_33 (by decide) ?_
        refine J_iload_n h (i := 3) dX3_cellsThatAre_34 rfl 3 rfl ?_
        refine N_icmp_ne h 41 dX3_cellsThatAre_35 (by decide) (by omega) (by omega) (fun c_35 => ?_) (fun c_35 => ?_)
        · skip
          refine J_iinc h (v := nI (i + 1)) (lv' := [(5, .int (nI (i + 1))), (0, .ref d0), (1, .ref a0), (2, .int p0), (3, .int (nI its)), (4, .int (nI n))]) dX3_cellsThatAre_41 5 rfl (inc_ok _ 1) (by decide) rfl ?_
          refine J_goto h 6 dX3_cellsThatAre_44 (by decide) ?_
          refine J.wld [3, 4, 5, 0, 1, 2] (ws' := [(d0, .inr (3, [.ref d1, .ref d2, .int (nI len), .int en])), (d1, .inl (cI, 8, .inl ce)), (d2, .inl (cI, 8, .inl se)), (a0, .inr (0, [.ref a1, .ref a2, .int (nI co), .int (nI ro), .int sl])), (a1, .inl (cI, 48, .inl th)), (a2, .inl (cI, 48, .inl ow))]) rfl rfl ?_
          refine J.loc [1, 2, 3, 4, 5, 0] (lv' := [(0, .ref d0), (1, .ref a0), (2, .int p0), (3, .int (nI its)), (4, .int (nI n)), (5, .int (nI (i + 1)))]) rfl ?_
          exact ih_6 (i + 1) n (by first | exact hi |  assumption | omega | rfl) (by first | (rw [hn, cntP_yes (by simp [c_26]; omega)]; done) | (rw [hn, cntP_no (by simp [c_26]; omega)]; done)) (by omega)
        · skip
          refine J_iinc h (v := nI (n + 1)) (lv' := [(4, .int (nI (n + 1))), (0, .ref d0), (1, .ref a0), (2, .int p0), (3, .int (nI its)), (5, .int (nI i))]) dX3_cellsThatAre_38 4 rfl (inc_ok _ 1) (by decide) rfl ?_
          refine J_iinc h (v := nI (i + 1)) (lv' := [(5, .int (nI (i + 1))), (4, .int (nI (n + 1))), (0, .ref d0), (1, .ref a0), (2, .int p0), (3, .int (nI its))]) dX3_cellsThatAre_41 5 rfl (inc_ok _ 1) (by decide) rfl ?_
          refine J_goto h 6 dX3_cellsThatAre_44 (by decide) ?_
          refine J.wld [3, 4, 5, 0, 1, 2] (ws' := [(d0, .inr (3, [.ref d1, .ref d2, .int (nI len), .int en])), (d1, .inl (cI, 8, .inl ce)), (d2, .inl (cI, 8, .inl se)), (a0, .inr (0, [.ref a1, .ref a2, .int (nI co), .int (nI ro), .int sl])), (a1, .inl (cI, 48, .inl th)), (a2, .inl (cI, 48, .inl ow))]) rfl rfl ?_
          refine J.loc [2, 3, 4, 5, 1, 0] (lv' := [(0, .ref d0), (1, .ref a0), (2, .int p0), (3, .int (nI its)), (4, .int (nI (n + 1))), (5, .int (nI (i + 1)))]) rfl ?_
          exact ih_6 (i + 1) (n + 1) (by first | exact hi |  assumption | omega | rfl) (by first | (rw [hn, cntP_yes (by simp [c_26]; omega)]; done) | (rw [hn, cntP_no (by simp [c_26]; omega)]; done)) (by omega)
      · skip
        refine J_iconst h (v := nI 1) dX3_cellsThatAre_29 (by decide) ?_
        refine J_goto h 34 dX3_cellsThatAre_30 (by decide) ?_
        refine J_iload_n h (i := 3) dX3_cellsThatAre_34 rfl 3 rfl ?_
        refine N_icmp_ne h 41 dX3_cellsThatAre_35 (by decide) (by omega) (by omega) (fun c_35 => ?_) (fun c_35 => ?_)
        · skip
          refine J_iinc h (v := nI (i + 1)) (lv' := [(5, .int (nI (i + 1))), (0, .ref d0), (1, .ref a0), (2, .int p0), (3, .int (nI its)), (4, .int (nI n))]) dX3_cellsThatAre_41 5 rfl (inc_ok _ 1) (by decide) rfl ?_
          refine J_goto h 6 dX3_cellsThatAre_44 (by decide) ?_
          refine J.wld [3, 4, 5, 0, 1, 2] (ws' := [(d0, .inr (3, [.ref d1, .ref d2, .int (nI len), .int en])), (d1, .inl (cI, 8, .inl ce)), (d2, .inl (cI, 8, .inl se)), (a0, .inr (0, [.ref a1, .ref a2, .int (nI co), .int (nI ro), .int sl])), (a1, .inl (cI, 48, .inl th)), (a2, .inl (cI, 48, .inl ow))]) rfl rfl ?_
          refine J.loc [1, 2, 3, 4, 5, 0] (lv' := [(0, .ref d0), (1, .ref a0), (2, .int p0), (3, .int (nI its)), (4, .int (nI n)), (5, .int (nI (i + 1)))]) rfl ?_
          exact ih_6 (i + 1) n (by first | exact hi |  assumption | omega | rfl) (by first | (rw [hn, cntP_yes (by simp [c_26]; omega)]; done) | (rw [hn, cntP_no (by simp [c_26]; omega)]; done)) (by omega)
        · skip
          refine J_iinc h (v := nI (n + 1)) (lv' := [(4, .int (nI (n + 1))), (0, .ref d0), (1, .ref a0), (2, .int p0), (3, .int (nI its)), (5, .int (nI i))]) dX3_cellsThatAre_38 4 rfl (inc_ok _ 1) (by decide) rfl ?_
          refine J_iinc h (v := nI (i + 1)) (lv' := [(5, .int (nI (i + 1))), (4, .int (nI (n + 1))), (0, .ref d0), (1, .ref a0), (2, .int p0), (3, .int (nI its))]) dX3_cellsThatAre_41 5 rfl (inc_ok _ 1) (by decide) rfl ?_
          refine J_goto h 6 dX3_cellsThatAre_44 (by decide) ?_
          refine J.wld [3, 4, 5, 0, 1, 2] (ws' := [(d0, .inr (3, [.ref d1, .ref d2, .int (nI len), .int en])), (d1, .inl (cI, 8, .inl ce)), (d2, .inl (cI, 8, .inl se)), (a0, .inr (0, [.ref a1, .ref a2, .int (nI co), .int (nI ro), .int sl])), (a1, .inl (cI, 48, .inl th)), (a2, .inl (cI, 48, .inl ow))]) rfl rfl ?_
          refine J.loc [2, 3, 4, 5, 1, 0] (lv' := [(0, .ref d0), (1, .ref a0), (2, .int p0), (3, .int (nI its)), (4, .int (nI (n + 1))), (5, .int (nI (i + 1)))]) rfl ?_
          exact ih_6 (i + 1) (n + 1) (by first | exact hi |  assumption | omega | rfl) (by first | (rw [hn, cntP_yes (by simp [c_26]; omega)]; done) | (rw [hn, cntP_no (by simp [c_26]; omega)]; done)) (by omega)
set_option maxRecDepth 100000 in
set_option maxHeartbeats 4000000 in
theorem w_X3_cellsThatAre (X : Cx) {cI cE : ClassId} (h : Ok X cX3_cellsThatAre RX3 6 cI cE 2 0 0) (d0 : Nat) (d1 : Nat) (d2 : Nat) (ce : Nat → Int32) (se : Nat → Int32) (len : Nat) (en : Int32) (a0 : Nat) (a1 : Nat) (a2 : Nat) (th : Nat → Int32) (ow : Nat → Int32) (co : Nat) (ro : Nat) (sl : Int32) (p0 : Int32) (its : Nat) (cl : Nat → Nat) (hrc : ro * co ≤ 48) (hl : len ≤ 8) (hc : ∀ k, k < len → ce k = nI (cl k) ∧ cl k < ro * co) (hits : its < 2) (hR : ∀ (r : Int32) (u : Unit), ((nI (cntP (fun k => decide (ow (cl k) = p0 ↔ its = 1)) len) = r) ∧ (True)) → RetI X cX3_cellsThatAre 6 0 0 r [(d0, .inr (3, [.ref d1, .ref d2, .int (nI len), .int en])), (d1, .inl (cI, 8, .inl ce)), (d2, .inl (cI, 8, .inl se)), (a0, .inr (0, [.ref a1, .ref a2, .int (nI co), .int (nI ro), .int sl])), (a1, .inl (cI, 48, .inl th)), (a2, .inl (cI, 48, .inl ow))]) : J X 6 0 0 0 [(0, .ref d0), (1, .ref a0), (2, .int p0), (3, .int (nI its))] [] [(d0, .inr (3, [.ref d1, .ref d2, .int (nI len), .int en])), (d1, .inl (cI, 8, .inl ce)), (d2, .inl (cI, 8, .inl se)), (a0, .inr (0, [.ref a1, .ref a2, .int (nI co), .int (nI ro), .int sl])), (a1, .inl (cI, 48, .inl th)), (a2, .inl (cI, 48, .inl ow))] := by
  refine J_iconst h (v := nI 0) dX3_cellsThatAre_0 (by decide) ?_
  refine J_istore h (lv' := [(4, .int (nI 0)), (0, .ref d0), (1, .ref a0), (2, .int p0), (3, .int (nI its))]) dX3_cellsThatAre_1 (by decide) rfl ?_
  refine J_iconst h (v := nI 0) dX3_cellsThatAre_3 (by decide) ?_
  refine J_istore h (lv' := [(5, .int (nI 0)), (4, .int (nI 0)), (0, .ref d0), (1, .ref a0), (2, .int p0), (3, .int (nI its))]) dX3_cellsThatAre_4 (by decide) rfl ?_
  refine J.loc [2, 3, 4, 5, 1, 0] (lv' := [(0, .ref d0), (1, .ref a0), (2, .int p0), (3, .int (nI its)), (4, .int (nI 0)), (5, .int (nI 0))]) rfl ?_
  exact w_X3_cellsThatAre_6 X h d0 d1 d2 ce se len en a0 a1 a2 th ow co ro sl p0 its cl hrc hl hc hits hR  (len - 0 + 1) 0 0 (by first | assumption | omega | rfl) (by rfl) (by omega)
theorem c_X3_cellsThatAre (l : Launch) (D : va_G) (cI cE : ClassId) (d0 : Nat) (d1 : Nat) (d2 : Nat) (ce : Nat → Int32) (se : Nat → Int32) (len : Nat) (en : Int32) (a0 : Nat) (a1 : Nat) (a2 : Nat) (th : Nat → Int32) (ow : Nat → Int32) (co : Nat) (ro : Nat) (sl : Int32) (p0 : Int32) (its : Nat) (cl : Nat → Nat) (hrc : ro * co ≤ 48) (hl : len ≤ 8) (hc : ∀ k, k < len → ce k = nI (cl k) ∧ cl k < ro * co) (hits : its < 2) : Ci l D cI cE yX3_cellsThatAre cX3_cellsThatAre 6 (some .int) 2 0 0 [.ref d0, .ref a0, .int p0, .int (nI its)] [(d0, .inr (3, [.ref d1, .ref d2, .int (nI len), .int en])), (d1, .inl (cI, 8, .inl ce)), (d2, .inl (cI, 8, .inl se)), (a0, .inr (0, [.ref a1, .ref a2, .int (nI co), .int (nI ro), .int sl])), (a1, .inl (cI, 48, .inl th)), (a2, .inl (cI, 48, .inl ow))] (fun (r : Int32) (u : Unit) => ((nI (cntP (fun k => decide (ow (cl k) = p0 ↔ its = 1)) len) = r) ∧ (True))) (fun (u : Unit) => ([(d0, .inr (3, [.ref d1, .ref d2, .int (nI len), .int en])), (d1, .inl (cI, 8, .inl ce)), (d2, .inl (cI, 8, .inl se)), (a0, .inr (0, [.ref a1, .ref a2, .int (nI co), .int (nI ro), .int sl])), (a1, .inl (cI, 48, .inl th)), (a2, .inl (cI, 48, .inl ow))] : va_W)) :=
  Ci.of (by decide) (Nat.le_of_ble_eq_true rfl) (fun _ _ _ => rfl) (fun X h hR => w_X3_cellsThatAre X h d0 d1 d2 ce se len en a0 a1 a2 th ow co ro sl p0 its cl hrc hl hc hits hR)
theorem yv_X3_cellsThatAre : YV yX3_cellsThatAre cX3_cellsThatAre 6 (some .int) 3 := ⟨no_X3_cellsThatAre, nv_X3_cellsThatAre, ni_X3, nk_X3_cellsThatAre, by decide +kernel⟩
