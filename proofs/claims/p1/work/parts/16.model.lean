set_option maxRecDepth 100000 in
set_option maxHeartbeats 4000000 in
theorem w_X9_in (X : Cx) {cI cE : ClassId} (h : Ok X cX9_in RX9 3 cI cE 0 0 0) (p0 : Int32) (p1 : Int32) (p2 : Int32) (z : Int) (zl : Int) (zh : Int) (hz : p0.toInt = z) (hzl : p1.toInt = zl) (hzh : p2.toInt = zh) (hR : ∀ (r : Int32) (u : Unit), ((nI 1 = r) ∧ (zl ≤ z ∧ z ≤ zh) ∧ (True)) ∨ ((nI 0 = r) ∧ (¬ (zl ≤ z ∧ z ≤ zh)) ∧ (True)) → RetI X cX9_in 3 0 0 r []) : J X 3 0 0 0 [(0, .int p0), (1, .int p1), (2, .int p2)] [] [] := by
  refine J_iload_n h (i := 0) dX9_in_0 rfl 0 rfl ?_
  refine J_iload_n h (i := 1) dX9_in_1 rfl 1 rfl ?_
  refine T_icmp_lt h (A := z) (B := zl) 14 dX9_in_2 (by decide) (hz) (hzl) (fun c_2 => ?_) (fun c_2 => ?_)
  · skip
    refine J_iconst h (v := nI 0) dX9_in_14 (by decide) ?_
    exact hR (nI 0) () (Or.inr (⟨rfl, (by first | assumption | omega | rfl), trivial⟩)) 15 _ dX9_in_15
  · skip
    refine J_iload_n h (i := 0) dX9_in_5 rfl 0 rfl ?_
    refine J_iload_n h (i := 2) dX9_in_6 rfl 2 rfl ?_
    refine T_icmp_gt h (A := z) (B := zh) 14 dX9_in_7 (by decide) (hz) (hzh) (fun c_7 => ?_) (fun c_7 => ?_)
    · skip
      refine J_iconst h (v := nI 0) dX9_in_14 (by decide) ?_
      exact hR (nI 0) () (Or.inr (⟨rfl, (by first | assumption | omega | rfl), trivial⟩)) 15 _ dX9_in_15
    · skip
      refine J_iconst h (v := nI 1) dX9_in_10 (by decide) ?_
      refine J_goto h 15 dX9_in_11 (by decide) ?_
      exact hR (nI 1) () (Or.inl ⟨rfl, (by first | assumption | omega | rfl), trivial⟩) 15 _ dX9_in_15
theorem c_X9_in (l : Launch) (D : va_G) (cI cE : ClassId) (p0 : Int32) (p1 : Int32) (p2 : Int32) (z : Int) (zl : Int) (zh : Int) (hz : p0.toInt = z) (hzl : p1.toInt = zl) (hzh : p2.toInt = zh) : Ci l D cI cE yX9_in cX9_in 3 (some .boolean) 0 0 0 [.int p0, .int p1, .int p2] [] (fun (r : Int32) (u : Unit) => ((nI 1 = r) ∧ (zl ≤ z ∧ z ≤ zh) ∧ (True)) ∨ ((nI 0 = r) ∧ (¬ (zl ≤ z ∧ z ≤ zh)) ∧ (True))) (fun (u : Unit) => ([] : va_W)) :=
  Ci.of (by decide) (Nat.le_of_ble_eq_true rfl) (fun r u hp => by rcases hp with ⟨hp, _⟩ | ⟨hp, _⟩ <;> (rw [← hp]; rfl)) (fun X h hR => w_X9_in X h p0 p1 p2 z zl zh hz hzl hzh hR)
theorem yv_X9_in : YS yX9_in cX9_in 3 (some .boolean) 3 := ⟨ns_X9_in, ni_X9, nk_X9_in, by decide +kernel⟩
set_option maxRecDepth 100000 in
set_option maxHeartbeats 4000000 in
theorem w_X9_cells (X : Cx) {cI cE : ClassId} (h : Ok X cX9_cells RX9 1 cI cE 0 0 0) (q0 : Nat) (q3 : Nat) (q4 : Nat) (q6 : Nat) (q7 : Nat) (q8 : Nat) (q9 : Nat) (q14 : Nat) (q15 : Nat) (q17 : Nat) (q18 : Nat) (q19 : Nat) (q23 : Nat) (q24 : Nat) (q25 : Nat) (ro : Nat) (co : Nat) (sl : Int32) (sn : Int32) (tn : Int32) (ra : Int32) (rr : Int32) (rw : Int32) (rn : Int32) (um : Int32) (bs : Int32) (bh : Int32) (km : Int32)  (hR : ∀ (r : Int32) (u : Unit), ((nI (ro * co) = r) ∧ (True)) → RetI X cX9_cells 1 0 0 r [(q0, .inr (9, [.int (nI ro), .int (nI co), .int sl, .ref q3, .ref q4, .int sn, .ref q6, .ref q7, .ref q8, .ref q9, .int tn, .int ra, .int rr, .int rw, .ref q14, .ref q15, .int rn, .ref q17, .ref q18, .ref q19, .int um, .int bs, .int bh, .ref q23, .ref q24, .ref q25, .int km]))]) : J X 1 0 0 0 [(0, .ref q0)] [] [(q0, .inr (9, [.int (nI ro), .int (nI co), .int sl, .ref q3, .ref q4, .int sn, .ref q6, .ref q7, .ref q8, .ref q9, .int tn, .int ra, .int rr, .int rw, .ref q14, .ref q15, .int rn, .ref q17, .ref q18, .ref q19, .int um, .int bs, .int bh, .ref q23, .ref q24, .ref q25, .int km]))] := by
  refine J_aload_n h (i := 0) dX9_cells_0 rfl 0 rfl ?_
  refine J_get h inX9 rfl 0 0 (by decide) rfl rfl nf_X9_60 dX9_cells_1 ?_
  refine J_aload_n h (i := 0) dX9_cells_4 rfl 0 rfl ?_
  refine J_get h inX9 rfl 0 1 (by decide) rfl rfl nf_X9_52 dX9_cells_5 ?_
  refine N_imul h dX9_cells_8 ?_
  exact hR (nI (ro * co)) () (⟨rfl, trivial⟩) 9 _ dX9_cells_9
theorem c_X9_cells (l : Launch) (D : va_G) (cI cE : ClassId) (q0 : Nat) (q3 : Nat) (q4 : Nat) (q6 : Nat) (q7 : Nat) (q8 : Nat) (q9 : Nat) (q14 : Nat) (q15 : Nat) (q17 : Nat) (q18 : Nat) (q19 : Nat) (q23 : Nat) (q24 : Nat) (q25 : Nat) (ro : Nat) (co : Nat) (sl : Int32) (sn : Int32) (tn : Int32) (ra : Int32) (rr : Int32) (rw : Int32) (rn : Int32) (um : Int32) (bs : Int32) (bh : Int32) (km : Int32)  : Ci l D cI cE yX9_cells cX9_cells 1 (some .int) 0 0 0 [.ref q0] [(q0, .inr (9, [.int (nI ro), .int (nI co), .int sl, .ref q3, .ref q4, .int sn, .ref q6, .ref q7, .ref q8, .ref q9, .int tn, .int ra, .int rr, .int rw, .ref q14, .ref q15, .int rn, .ref q17, .ref q18, .ref q19, .int um, .int bs, .int bh, .ref q23, .ref q24, .ref q25, .int km]))] (fun (r : Int32) (u : Unit) => ((nI (ro * co) = r) ∧ (True))) (fun (u : Unit) => ([(q0, .inr (9, [.int (nI ro), .int (nI co), .int sl, .ref q3, .ref q4, .int sn, .ref q6, .ref q7, .ref q8, .ref q9, .int tn, .int ra, .int rr, .int rw, .ref q14, .ref q15, .int rn, .ref q17, .ref q18, .ref q19, .int um, .int bs, .int bh, .ref q23, .ref q24, .ref q25, .int km]))] : va_W)) :=
  Ci.of (by decide) (Nat.le_of_ble_eq_true rfl) (fun _ _ _ => rfl) (fun X h hR => w_X9_cells X h q0 q3 q4 q6 q7 q8 q9 q14 q15 q17 q18 q19 q23 q24 q25 ro co sl sn tn ra rr rw rn um bs bh km hR)
theorem yv_X9_cells : YV yX9_cells cX9_cells 1 (some .int) 0 := ⟨no_X9_cells, nv_X9_cells, ni_X9, nk_X9_cells, by decide +kernel⟩
set_option maxRecDepth 100000 in
set_option maxHeartbeats 4000000 in
theorem w_X9_isCellT (X : Cx) {cI cE : ClassId} (h : Ok X cX9_isCell RX9 2 cI cE 1 0 0) (q0 : Nat) (q3 : Nat) (q4 : Nat) (q6 : Nat) (q7 : Nat) (q8 : Nat) (q9 : Nat) (q14 : Nat) (q15 : Nat) (q17 : Nat) (q18 : Nat) (q19 : Nat) (q23 : Nat) (q24 : Nat) (q25 : Nat) (ro : Nat) (co : Nat) (sl : Int32) (sn : Int32) (tn : Int32) (ra : Int32) (rr : Int32) (rw : Int32) (rn : Int32) (um : Int32) (bs : Int32) (bh : Int32) (km : Int32) (p0 : Int32) (z : Int) (hrc : ro * co ≤ 48) (hz : p0.toInt = z) (hR : ∀ (r : Int32) (u : Unit), ((nI 1 = r) ∧ (0 ≤ z ∧ z < ((ro * co : Nat) : Int)) ∧ (True)) ∨ ((nI 0 = r) ∧ (¬ (0 ≤ z ∧ z < ((ro * co : Nat) : Int))) ∧ (True)) → RetI X cX9_isCell 2 0 0 r [(q0, .inr (9, [.int (nI ro), .int (nI co), .int sl, .ref q3, .ref q4, .int sn, .ref q6, .ref q7, .ref q8, .ref q9, .int tn, .int ra, .int rr, .int rw, .ref q14, .ref q15, .int rn, .ref q17, .ref q18, .ref q19, .int um, .int bs, .int bh, .ref q23, .ref q24, .ref q25, .int km]))]) : J X 2 0 0 0 [(0, .ref q0), (1, .int p0)] [] [(q0, .inr (9, [.int (nI ro), .int (nI co), .int sl, .ref q3, .ref q4, .int sn, .ref q6, .ref q7, .ref q8, .ref q9, .int tn, .int ra, .int rr, .int rw, .ref q14, .ref q15, .int rn, .ref q17, .ref q18, .ref q19, .int um, .int bs, .int bh, .ref q23, .ref q24, .ref q25, .int km]))] := by
  refine J_iload_n h (i := 1) dX9_isCell_0 rfl 1 rfl ?_
  refine J_iconst h (v := nI 0) dX9_isCell_1 (by decide) ?_
  refine J_aload_n h (i := 0) dX9_isCell_2 rfl 0 rfl ?_
  refine K_vi h (wr := []) (c_X9_cells (xl X) (xD X) cI cE q0 q3 q4 q6 q7 q8 q9 q14 q15 q17 q18 q19 q23 q24 q25 ro co sl sn tn ra rr rw rn um bs bh km ) yv_X9_cells nm_X9_63 (by decide) (by decide) rfl rfl 0 rfl rfl rfl rfl (Nat.le_of_ble_eq_true rfl) (Nat.le_refl _) (Nat.le_refl _) dX9_isCell_3 (fun r_3 u_3 p_3 => ?_)
  obtain ⟨rfl, -⟩ := p_3
  show J X 2 0 0 6 [(0, .ref q0), (1, .int p0)] [.int (nI (ro * co)), .int (nI 0), .int p0] [(q0, .inr (9, [.int (nI ro), .int (nI co), .int sl, .ref q3, .ref q4, .int sn, .ref q6, .ref q7, .ref q8, .ref q9, .int tn, .int ra, .int rr, .int rw, .ref q14, .ref q15, .int rn, .ref q17, .ref q18, .ref q19, .int um, .int bs, .int bh, .ref q23, .ref q24, .ref q25, .int km]))]
  refine J_iconst h (v := nI 1) dX9_isCell_6 (by decide) ?_
  refine J_isub h dX9_isCell_7 ?_
  refine K_si h (wr := [(q0, .inr (9, [.int (nI ro), .int (nI co), .int sl, .ref q3, .ref q4, .int sn, .ref q6, .ref q7, .ref q8, .ref q9, .int tn, .int ra, .int rr, .int rw, .ref q14, .ref q15, .int rn, .ref q17, .ref q18, .ref q19, .int um, .int bs, .int bh, .ref q23, .ref q24, .ref q25, .int km]))]) (c_X9_in (xl X) (xD X) cI cE p0 (nI 0) ((nI (ro * co)) - (nI 1)) ((p0).toInt) 0 (((ro * co : Nat) : Int) - ((1 : Nat) : Int)) (by exact rfl) (by exact nI_toInt (by omega)) (by exact pk_sub_toInt (by omega) (by omega))) yv_X9_in nm_X9_67 (by decide) (by decide) rfl rfl rfl (Nat.le_of_ble_eq_true rfl) (Nat.le_refl _) (Nat.le_refl _) dX9_isCell_8 (fun r_8 u_8 p_8 => ?_)
  rcases p_8 with p_8 | p_8
  · obtain ⟨rfl, f0_8, -⟩ := p_8
    show J X 2 0 0 11 [(0, .ref q0), (1, .int p0)] [.int (nI 1)] [(q0, .inr (9, [.int (nI ro), .int (nI co), .int sl, .ref q3, .ref q4, .int sn, .ref q6, .ref q7, .ref q8, .ref q9, .int tn, .int ra, .int rr, .int rw, .ref q14, .ref q15, .int rn, .ref q17, .ref q18, .ref q19, .int um, .int bs, .int bh, .ref q23, .ref q24, .ref q25, .int km]))]
    exact hR (nI 1) () (by first | exact Or.inl ⟨rfl, by omega, trivial⟩ | exact Or.inr ⟨rfl, by omega, trivial⟩) 11 _ dX9_isCell_11
  · obtain ⟨rfl, f0_8, -⟩ := p_8
    show J X 2 0 0 11 [(0, .ref q0), (1, .int p0)] [.int (nI 0)] [(q0, .inr (9, [.int (nI ro), .int (nI co), .int sl, .ref q3, .ref q4, .int sn, .ref q6, .ref q7, .ref q8, .ref q9, .int tn, .int ra, .int rr, .int rw, .ref q14, .ref q15, .int rn, .ref q17, .ref q18, .ref q19, .int um, .int bs, .int bh, .ref q23, .ref q24, .ref q25, .int km]))]
    exact hR (nI 0) () (by first | exact Or.inl ⟨rfl, by omega, trivial⟩ | exact Or.inr ⟨rfl, by omega, trivial⟩) 11 _ dX9_isCell_11
theorem c_X9_isCellT (l : Launch) (D : va_G) (cI cE : ClassId) (q0 : Nat) (q3 : Nat) (q4 : Nat) (q6 : Nat) (q7 : Nat) (q8 : Nat) (q9 : Nat) (q14 : Nat) (q15 : Nat) (q17 : Nat) (q18 : Nat) (q19 : Nat) (q23 : Nat) (q24 : Nat) (q25 : Nat) (ro : Nat) (co : Nat) (sl : Int32) (sn : Int32) (tn : Int32) (ra : Int32) (rr : Int32) (rw : Int32) (rn : Int32) (um : Int32) (bs : Int32) (bh : Int32) (km : Int32) (p0 : Int32) (z : Int) (hrc : ro * co ≤ 48) (hz : p0.toInt = z) : Ci l D cI cE yX9_isCell cX9_isCell 2 (some .boolean) 1 0 0 [.ref q0, .int p0] [(q0, .inr (9, [.int (nI ro), .int (nI co), .int sl, .ref q3, .ref q4, .int sn, .ref q6, .ref q7, .ref q8, .ref q9, .int tn, .int ra, .int rr, .int rw, .ref q14, .ref q15, .int rn, .ref q17, .ref q18, .ref q19, .int um, .int bs, .int bh, .ref q23, .ref q24, .ref q25, .int km]))] (fun (r : Int32) (u : Unit) => ((nI 1 = r) ∧ (0 ≤ z ∧ z < ((ro * co : Nat) : Int)) ∧ (True)) ∨ ((nI 0 = r) ∧ (¬ (0 ≤ z ∧ z < ((ro * co : Nat) : Int))) ∧ (True))) (fun (u : Unit) => ([(q0, .inr (9, [.int (nI ro), .int (nI co), .int sl, .ref q3, .ref q4, .int sn, .ref q6, .ref q7, .ref q8, .ref q9, .int tn, .int ra, .int rr, .int rw, .ref q14, .ref q15, .int rn, .ref q17, .ref q18, .ref q19, .int um, .int bs, .int bh, .ref q23, .ref q24, .ref q25, .int km]))] : va_W)) :=
  Ci.of (by decide) (Nat.le_of_ble_eq_true rfl) (fun r u hp => by rcases hp with ⟨hp, _⟩ | ⟨hp, _⟩ <;> (rw [← hp]; rfl)) (fun X h hR => w_X9_isCellT X h q0 q3 q4 q6 q7 q8 q9 q14 q15 q17 q18 q19 q23 q24 q25 ro co sl sn tn ra rr rw rn um bs bh km p0 z hrc hz hR)
theorem yv_X9_isCell : YV yX9_isCell cX9_isCell 2 (some .boolean) 1 := ⟨no_X9_isCell, nv_X9_isCell, ni_X9, nk_X9_isCell, by decide +kernel⟩
set_option maxRecDepth 100000 in
set_option maxHeartbeats 4000000 in
theorem w_X9_isCell (X : Cx) {cI cE : ClassId} (h : Ok X cX9_isCell RX9 2 cI cE 1 0 0) (q0 : Nat) (q3 : Nat) (q4 : Nat) (q6 : Nat) (q7 : Nat) (q8 : Nat) (q9 : Nat) (q14 : Nat) (q15 : Nat) (q17 : Nat) (q18 : Nat) (q19 : Nat) (q23 : Nat) (q24 : Nat) (q25 : Nat) (ro : Nat) (co : Nat) (sl : Int32) (sn : Int32) (tn : Int32) (ra : Int32) (rr : Int32) (rw : Int32) (rn : Int32) (um : Int32) (bs : Int32) (bh : Int32) (km : Int32) (p0 : Int32) (hrc : ro * co ≤ 48) (hR : ∀ (r : Int32) (u : Unit), (∃ (j : Nat), (nI 1 = r) ∧ (j < ro * co) ∧ (p0 = nI j) ∧ (True)) ∨ ((nI 0 = r) ∧ (¬ (0 ≤ p0.toInt ∧ p0.toInt < ((ro * co : Nat) : Int))) ∧ (True)) → RetI X cX9_isCell 2 0 0 r [(q0, .inr (9, [.int (nI ro), .int (nI co), .int sl, .ref q3, .ref q4, .int sn, .ref q6, .ref q7, .ref q8, .ref q9, .int tn, .int ra, .int rr, .int rw, .ref q14, .ref q15, .int rn, .ref q17, .ref q18, .ref q19, .int um, .int bs, .int bh, .ref q23, .ref q24, .ref q25, .int km]))]) : J X 2 0 0 0 [(0, .ref q0), (1, .int p0)] [] [(q0, .inr (9, [.int (nI ro), .int (nI co), .int sl, .ref q3, .ref q4, .int sn, .ref q6, .ref q7, .ref q8, .ref q9, .int tn, .int ra, .int rr, .int rw, .ref q14, .ref q15, .int rn, .ref q17, .ref q18, .ref q19, .int um, .int bs, .int bh, .ref q23, .ref q24, .ref q25, .int km]))] := by
  refine J_iload_n h (i := 1) dX9_isCell_0 rfl 1 rfl ?_
  refine J_iconst h (v := nI 0) dX9_isCell_1 (by decide) ?_
  refine J_aload_n h (i := 0) dX9_isCell_2 rfl 0 rfl ?_
  refine K_vi h (wr := []) (c_X9_cells (xl X) (xD X) cI cE q0 q3 q4 q6 q7 q8 q9 q14 q15 q17 q18 q19 q23 q24 q25 ro co sl sn tn ra rr rw rn um bs bh km ) yv_X9_cells nm_X9_63 (by decide) (by decide) rfl rfl 0 rfl rfl rfl rfl (Nat.le_of_ble_eq_true rfl) (Nat.le_refl _) (Nat.le_refl _) dX9_isCell_3 (fun r_3 u_3 p_3 => ?_)
  obtain ⟨rfl, -⟩ := p_3
  show J X 2 0 0 6 [(0, .ref q0), (1, .int p0)] [.int (nI (ro * co)), .int (nI 0), .int p0] [(q0, .inr (9, [.int (nI ro), .int (nI co), .int sl, .ref q3, .ref q4, .int sn, .ref q6, .ref q7, .ref q8, .ref q9, .int tn, .int ra, .int rr, .int rw, .ref q14, .ref q15, .int rn, .ref q17, .ref q18, .ref q19, .int um, .int bs, .int bh, .ref q23, .ref q24, .ref q25, .int km]))]
  refine J_iconst h (v := nI 1) dX9_isCell_6 (by decide) ?_
  refine J_isub h dX9_isCell_7 ?_
  refine K_si h (wr := [(q0, .inr (9, [.int (nI ro), .int (nI co), .int sl, .ref q3, .ref q4, .int sn, .ref q6, .ref q7, .ref q8, .ref q9, .int tn, .int ra, .int rr, .int rw, .ref q14, .ref q15, .int rn, .ref q17, .ref q18, .ref q19, .int um, .int bs, .int bh, .ref q23, .ref q24, .ref q25, .int km]))]) (c_X9_in (xl X) (xD X) cI cE p0 (nI 0) ((nI (ro * co)) - (nI 1)) ((p0).toInt) 0 (((ro * co : Nat) : Int) - ((1 : Nat) : Int)) (by exact rfl) (by exact nI_toInt (by omega)) (by exact pk_sub_toInt (by omega) (by omega))) yv_X9_in nm_X9_67 (by decide) (by decide) rfl rfl rfl (Nat.le_of_ble_eq_true rfl) (Nat.le_refl _) (Nat.le_refl _) dX9_isCell_8 (fun r_8 u_8 p_8 => ?_)
  rcases p_8 with p_8 | p_8
  · obtain ⟨rfl, f0_8, -⟩ := p_8
    show J X 2 0 0 11 [(0, .ref q0), (1, .int p0)] [.int (nI 1)] [(q0, .inr (9, [.int (nI ro), .int (nI co), .int sl, .ref q3, .ref q4, .int sn, .ref q6, .ref q7, .ref q8, .ref q9, .int tn, .int ra, .int rr, .int rw, .ref q14, .ref q15, .int rn, .ref q17, .ref q18, .ref q19, .int um, .int bs, .int bh, .ref q23, .ref q24, .ref q25, .int km]))]
    exact hR (nI 1) () (by first | (obtain ⟨j, h1, h2⟩ := toNI (x := p0) (n := ro * co) (by omega) (by omega); exact Or.inl ⟨j, rfl, h1, h2, trivial⟩) | exact Or.inr ⟨rfl, by omega, trivial⟩) 11 _ dX9_isCell_11
  · obtain ⟨rfl, f0_8, -⟩ := p_8
    show J X 2 0 0 11 [(0, .ref q0), (1, .int p0)] [.int (nI 0)] [(q0, .inr (9, [.int (nI ro), .int (nI co), .int sl, .ref q3, .ref q4, .int sn, .ref q6, .ref q7, .ref q8, .ref q9, .int tn, .int ra, .int rr, .int rw, .ref q14, .ref q15, .int rn, .ref q17, .ref q18, .ref q19, .int um, .int bs, .int bh, .ref q23, .ref q24, .ref q25, .int km]))]
    exact hR (nI 0) () (by first | (obtain ⟨j, h1, h2⟩ := toNI (x := p0) (n := ro * co) (by omega) (by omega); exact Or.inl ⟨j, rfl, h1, h2, trivial⟩) | exact Or.inr ⟨rfl, by omega, trivial⟩) 11 _ dX9_isCell_11
theorem c_X9_isCell (l : Launch) (D : va_G) (cI cE : ClassId) (q0 : Nat) (q3 : Nat) (q4 : Nat) (q6 : Nat) (q7 : Nat) (q8 : Nat) (q9 : Nat) (q14 : Nat) (q15 : Nat) (q17 : Nat) (q18 : Nat) (q19 : Nat) (q23 : Nat) (q24 : Nat) (q25 : Nat) (ro : Nat) (co : Nat) (sl : Int32) (sn : Int32) (tn : Int32) (ra : Int32) (rr : Int32) (rw : Int32) (rn : Int32) (um : Int32) (bs : Int32) (bh : Int32) (km : Int32) (p0 : Int32) (hrc : ro * co ≤ 48) : Ci l D cI cE yX9_isCell cX9_isCell 2 (some .boolean) 1 0 0 [.ref q0, .int p0] [(q0, .inr (9, [.int (nI ro), .int (nI co), .int sl, .ref q3, .ref q4, .int sn, .ref q6, .ref q7, .ref q8, .ref q9, .int tn, .int ra, .int rr, .int rw, .ref q14, .ref q15, .int rn, .ref q17, .ref q18, .ref q19, .int um, .int bs, .int bh, .ref q23, .ref q24, .ref q25, .int km]))] (fun (r : Int32) (u : Unit) => (∃ (j : Nat), (nI 1 = r) ∧ (j < ro * co) ∧ (p0 = nI j) ∧ (True)) ∨ ((nI 0 = r) ∧ (¬ (0 ≤ p0.toInt ∧ p0.toInt < ((ro * co : Nat) : Int))) ∧ (True))) (fun (u : Unit) => ([(q0, .inr (9, [.int (nI ro), .int (nI co), .int sl, .ref q3, .ref q4, .int sn, .ref q6, .ref q7, .ref q8, .ref q9, .int tn, .int ra, .int rr, .int rw, .ref q14, .ref q15, .int rn, .ref q17, .ref q18, .ref q19, .int um, .int bs, .int bh, .ref q23, .ref q24, .ref q25, .int km]))] : va_W)) :=
  Ci.of (by decide) (Nat.le_of_ble_eq_true rfl) (fun r u hp => by rcases hp with ⟨_, hp, _⟩ | ⟨hp, _⟩ <;> (rw [← hp]; rfl)) (fun X h hR => w_X9_isCell X h q0 q3 q4 q6 q7 q8 q9 q14 q15 q17 q18 q19 q23 q24 q25 ro co sl sn tn ra rr rw rn um bs bh km p0 hrc hR)
set_option maxRecDepth 100000 in
set_option maxHeartbeats 4000000 in
theorem w_X9_isColumnT (X : Cx) {cI cE : ClassId} (h : Ok X cX9_isColumn RX9 2 cI cE 1 0 0) (q0 : Nat) (q3 : Nat) (q4 : Nat) (q6 : Nat) (q7 : Nat) (q8 : Nat) (q9 : Nat) (q14 : Nat) (q15 : Nat) (q17 : Nat) (q18 : Nat) (q19 : Nat) (q23 : Nat) (q24 : Nat) (q25 : Nat) (ro : Nat) (co : Nat) (sl : Int32) (sn : Int32) (tn : Int32) (ra : Int32) (rr : Int32) (rw : Int32) (rn : Int32) (um : Int32) (bs : Int32) (bh : Int32) (km : Int32) (p0 : Int32) (z : Int) (hco : co ≤ 6) (hz : p0.toInt = z) (hR : ∀ (r : Int32) (u : Unit), ((nI 1 = r) ∧ (0 ≤ z ∧ z < ((co : Nat) : Int)) ∧ (True)) ∨ ((nI 0 = r) ∧ (¬ (0 ≤ z ∧ z < ((co : Nat) : Int))) ∧ (True)) → RetI X cX9_isColumn 2 0 0 r [(q0, .inr (9, [.int (nI ro), .int (nI co), .int sl, .ref q3, .ref q4, .int sn, .ref q6, .ref q7, .ref q8, .ref q9, .int tn, .int ra, .int rr, .int rw, .ref q14, .ref q15, .int rn, .ref q17, .ref q18, .ref q19, .int um, .int bs, .int bh, .ref q23, .ref q24, .ref q25, .int km]))]) : J X 2 0 0 0 [(0, .ref q0), (1, .int p0)] [] [(q0, .inr (9, [.int (nI ro), .int (nI co), .int sl, .ref q3, .ref q4, .int sn, .ref q6, .ref q7, .ref q8, .ref q9, .int tn, .int ra, .int rr, .int rw, .ref q14, .ref q15, .int rn, .ref q17, .ref q18, .ref q19, .int um, .int bs, .int bh, .ref q23, .ref q24, .ref q25, .int km]))] := by
  refine J_iload_n h (i := 1) dX9_isColumn_0 rfl 1 rfl ?_
  refine J_iconst h (v := nI 0) dX9_isColumn_1 (by decide) ?_
  refine J_aload_n h (i := 0) dX9_isColumn_2 rfl 0 rfl ?_
  refine J_get h inX9 rfl 0 1 (by decide) rfl rfl nf_X9_52 dX9_isColumn_3 ?_
  refine J_iconst h (v := nI 1) dX9_isColumn_6 (by decide) ?_
  refine J_isub h dX9_isColumn_7 ?_
  refine K_si h (wr := [(q0, .inr (9, [.int (nI ro), .int (nI co), .int sl, .ref q3, .ref q4, .int sn, .ref q6, .ref q7, .ref q8, .ref q9, .int tn, .int ra, .int rr, .int rw, .ref q14, .ref q15, .int rn, .ref q17, .ref q18, .ref q19, .int um, .int bs, .int bh, .ref q23, .ref q24, .ref q25, .int km]))]) (c_X9_in (xl X) (xD X) cI cE p0 (nI 0) ((nI co) - (nI 1)) ((p0).toInt) 0 (((co : Nat) : Int) - ((1 : Nat) : Int)) (by exact rfl) (by exact nI_toInt (by omega)) (by exact pk_sub_toInt (by omega) (by omega))) yv_X9_in nm_X9_67 (by decide) (by decide) rfl rfl rfl (Nat.le_of_ble_eq_true rfl) (Nat.le_refl _) (Nat.le_refl _) dX9_isColumn_8 (fun r_8 u_8 p_8 => ?_)
  rcases p_8 with p_8 | p_8
  · obtain ⟨rfl, f0_8, -⟩ := p_8
    show J X 2 0 0 11 [(0, .ref q0), (1, .int p0)] [.int (nI 1)] [(q0, .inr (9, [.int (nI ro), .int (nI co), .int sl, .ref q3, .ref q4, .int sn, .ref q6, .ref q7, .ref q8, .ref q9, .int tn, .int ra, .int rr, .int rw, .ref q14, .ref q15, .int rn, .ref q17, .ref q18, .ref q19, .int um, .int bs, .int bh, .ref q23, .ref q24, .ref q25, .int km]))]
    exact hR (nI 1) () (by first | exact Or.inl ⟨rfl, by omega, trivial⟩ | exact Or.inr ⟨rfl, by omega, trivial⟩) 11 _ dX9_isColumn_11
  · obtain ⟨rfl, f0_8, -⟩ := p_8
    show J X 2 0 0 11 [(0, .ref q0), (1, .int p0)] [.int (nI 0)] [(q0, .inr (9, [.int (nI ro), .int (nI co), .int sl, .ref q3, .ref q4, .int sn, .ref q6, .ref q7, .ref q8, .ref q9, .int tn, .int ra, .int rr, .int rw, .ref q14, .ref q15, .int rn, .ref q17, .ref q18, .ref q19, .int um, .int bs, .int bh, .ref q23, .ref q24, .ref q25, .int km]))]
    exact hR (nI 0) () (by first | exact Or.inl ⟨rfl, by omega, trivial⟩ | exact Or.inr ⟨rfl, by omega, trivial⟩) 11 _ dX9_isColumn_11
theorem c_X9_isColumnT (l : Launch) (D : va_G) (cI cE : ClassId) (q0 : Nat) (q3 : Nat) (q4 : Nat) (q6 : Nat) (q7 : Nat) (q8 : Nat) (q9 : Nat) (q14 : Nat) (q15 : Nat) (q17 : Nat) (q18 : Nat) (q19 : Nat) (q23 : Nat) (q24 : Nat) (q25 : Nat) (ro : Nat) (co : Nat) (sl : Int32) (sn : Int32) (tn : Int32) (ra : Int32) (rr : Int32) (rw : Int32) (rn : Int32) (um : Int32) (bs : Int32) (bh : Int32) (km : Int32) (p0 : Int32) (z : Int) (hco : co ≤ 6) (hz : p0.toInt = z) : Ci l D cI cE yX9_isColumn cX9_isColumn 2 (some .boolean) 1 0 0 [.ref q0, .int p0] [(q0, .inr (9, [.int (nI ro), .int (nI co), .int sl, .ref q3, .ref q4, .int sn, .ref q6, .ref q7, .ref q8, .ref q9, .int tn, .int ra, .int rr, .int rw, .ref q14, .ref q15, .int rn, .ref q17, .ref q18, .ref q19, .int um, .int bs, .int bh, .ref q23, .ref q24, .ref q25, .int km]))] (fun (r : Int32) (u : Unit) => ((nI 1 = r) ∧ (0 ≤ z ∧ z < ((co : Nat) : Int)) ∧ (True)) ∨ ((nI 0 = r) ∧ (¬ (0 ≤ z ∧ z < ((co : Nat) : Int))) ∧ (True))) (fun (u : Unit) => ([(q0, .inr (9, [.int (nI ro), .int (nI co), .int sl, .ref q3, .ref q4, .int sn, .ref q6, .ref q7, .ref q8, .ref q9, .int tn, .int ra, .int rr, .int rw, .ref q14, .ref q15, .int rn, .ref q17, .ref q18, .ref q19, .int um, .int bs, .int bh, .ref q23, .ref q24, .ref q25, .int km]))] : va_W)) :=
  Ci.of (by decide) (Nat.le_of_ble_eq_true rfl) (fun r u hp => by rcases hp with ⟨hp, _⟩ | ⟨hp, _⟩ <;> (rw [← hp]; rfl)) (fun X h hR => w_X9_isColumnT X h q0 q3 q4 q6 q7 q8 q9 q14 q15 q17 q18 q19 q23 q24 q25 ro co sl sn tn ra rr rw rn um bs bh km p0 z hco hz hR)
theorem yv_X9_isColumn : YV yX9_isColumn cX9_isColumn 2 (some .boolean) 1 := ⟨no_X9_isColumn, nv_X9_isColumn, ni_X9, nk_X9_isColumn, by decide +kernel⟩
set_option maxRecDepth 100000 in
set_option maxHeartbeats 4000000 in
theorem w_X9_isColumn (X : Cx) {cI cE : ClassId} (h : Ok X cX9_isColumn RX9 2 cI cE 1 0 0) (q0 : Nat) (q3 : Nat) (q4 : Nat) (q6 : Nat) (q7 : Nat) (q8 : Nat) (q9 : Nat) (q14 : Nat) (q15 : Nat) (q17 : Nat) (q18 : Nat) (q19 : Nat) (q23 : Nat) (q24 : Nat) (q25 : Nat) (ro : Nat) (co : Nat) (sl : Int32) (sn : Int32) (tn : Int32) (ra : Int32) (rr : Int32) (rw : Int32) (rn : Int32) (um : Int32) (bs : Int32) (bh : Int32) (km : Int32) (p0 : Int32) (hco : co ≤ 6) (hR : ∀ (r : Int32) (u : Unit), (∃ (j : Nat), (nI 1 = r) ∧ (j < co) ∧ (p0 = nI j) ∧ (True)) ∨ ((nI 0 = r) ∧ (¬ (0 ≤ p0.toInt ∧ p0.toInt < ((co : Nat) : Int))) ∧ (True)) → RetI X cX9_isColumn 2 0 0 r [(q0, .inr (9, [.int (nI ro), .int (nI co), .int sl, .ref q3, .ref q4, .int sn, .ref q6, .ref q7, .ref q8, .ref q9, .int tn, .int ra, .int rr, .int rw, .ref q14, .ref q15, .int rn, .ref q17, .ref q18, .ref q19, .int um, .int bs, .int bh, .ref q23, .ref q24, .ref q25, .int km]))]) : J X 2 0 0 0 [(0, .ref q0), (1, .int p0)] [] [(q0, .inr (9, [.int (nI ro), .int (nI co), .int sl, .ref q3, .ref q4, .int sn, .ref q6, .ref q7, .ref q8, .ref q9, .int tn, .int ra, .int rr, .int rw, .ref q14, .ref q15, .int rn, .ref q17, .ref q18, .ref q19, .int um, .int bs, .int bh, .ref q23, .ref q24, .ref q25, .int km]))] := by
  refine J_iload_n h (i := 1) dX9_isColumn_0 rfl 1 rfl ?_
  refine J_iconst h (v := nI 0) dX9_isColumn_1 (by decide) ?_
  refine J_aload_n h (i := 0) dX9_isColumn_2 rfl 0 rfl ?_
  refine J_get h inX9 rfl 0 1 (by decide) rfl rfl nf_X9_52 dX9_isColumn_3 ?_
  refine J_iconst h (v := nI 1) dX9_isColumn_6 (by decide) ?_
  refine J_isub h dX9_isColumn_7 ?_
  refine K_si h (wr := [(q0, .inr (9, [.int (nI ro), .int (nI co), .int sl, .ref q3, .ref q4, .int sn, .ref q6, .ref q7, .ref q8, .ref q9, .int tn, .int ra, .int rr, .int rw, .ref q14, .ref q15, .int rn, .ref q17, .ref q18, .ref q19, .int um, .int bs, .int bh, .ref q23, .ref q24, .ref q25, .int km]))]) (c_X9_in (xl X) (xD X) cI cE p0 (nI 0) ((nI co) - (nI 1)) ((p0).toInt) 0 (((co : Nat) : Int) - ((1 : Nat) : Int)) (by exact rfl) (by exact nI_toInt (by omega)) (by exact pk_sub_toInt (by omega) (by omega))) yv_X9_in nm_X9_67 (by decide) (by decide) rfl rfl rfl (Nat.le_of_ble_eq_true rfl) (Nat.le_refl _) (Nat.le_refl _) dX9_isColumn_8 (fun r_8 u_8 p_8 => ?_)
  rcases p_8 with p_8 | p_8
  · obtain ⟨rfl, f0_8, -⟩ := p_8
    show J X 2 0 0 11 [(0, .ref q0), (1, .int p0)] [.int (nI 1)] [(q0, .inr (9, [.int (nI ro), .int (nI co), .int sl, .ref q3, .ref q4, .int sn, .ref q6, .ref q7, .ref q8, .ref q9, .int tn, .int ra, .int rr, .int rw, .ref q14, .ref q15, .int rn, .ref q17, .ref q18, .ref q19, .int um, .int bs, .int bh, .ref q23, .ref q24, .ref q25, .int km]))]
    exact hR (nI 1) () (by first | (obtain ⟨j, h1, h2⟩ := toNI (x := p0) (n := co) (by omega) (by omega); exact Or.inl ⟨j, rfl, h1, h2, trivial⟩) | exact Or.inr ⟨rfl, by omega, trivial⟩) 11 _ dX9_isColumn_11
  · obtain ⟨rfl, f0_8, -⟩ := p_8
    show J X 2 0 0 11 [(0, .ref q0), (1, .int p0)] [.int (nI 0)] [(q0, .inr (9, [.int (nI ro), .int (nI co), .int sl, .ref q3, .ref q4, .int sn, .ref q6, .ref q7, .ref q8, .ref q9, .int tn, .int ra, .int rr, .int rw, .ref q14, .ref q15, .int rn, .ref q17, .ref q18, .ref q19, .int um, .int bs, .int bh, .ref q23, .ref q24, .ref q25, .int km]))]
    exact hR (nI 0) () (by first | (obtain ⟨j, h1, h2⟩ := toNI (x := p0) (n := co) (by omega) (by omega); exact Or.inl ⟨j, rfl, h1, h2, trivial⟩) | exact Or.inr ⟨rfl, by omega, trivial⟩) 11 _ dX9_isColumn_11
theorem c_X9_isColumn (l : Launch) (D : va_G) (cI cE : ClassId) (q0 : Nat) (q3 : Nat) (q4 : Nat) (q6 : Nat) (q7 : Nat) (q8 : Nat) (q9 : Nat) (q14 : Nat) (q15 : Nat) (q17 : Nat) (q18 : Nat) (q19 : Nat) (q23 : Nat) (q24 : Nat) (q25 : Nat) (ro : Nat) (co : Nat) (sl : Int32) (sn : Int32) (tn : Int32) (ra : Int32) (rr : Int32) (rw : Int32) (rn : Int32) (um : Int32) (bs : Int32) (bh : Int32) (km : Int32) (p0 : Int32) (hco : co ≤ 6) : Ci l D cI cE yX9_isColumn cX9_isColumn 2 (some .boolean) 1 0 0 [.ref q0, .int p0] [(q0, .inr (9, [.int (nI ro), .int (nI co), .int sl, .ref q3, .ref q4, .int sn, .ref q6, .ref q7, .ref q8, .ref q9, .int tn, .int ra, .int rr, .int rw, .ref q14, .ref q15, .int rn, .ref q17, .ref q18, .ref q19, .int um, .int bs, .int bh, .ref q23, .ref q24, .ref q25, .int km]))] (fun (r : Int32) (u : Unit) => (∃ (j : Nat), (nI 1 = r) ∧ (j < co) ∧ (p0 = nI j) ∧ (True)) ∨ ((nI 0 = r) ∧ (¬ (0 ≤ p0.toInt ∧ p0.toInt < ((co : Nat) : Int))) ∧ (True))) (fun (u : Unit) => ([(q0, .inr (9, [.int (nI ro), .int (nI co), .int sl, .ref q3, .ref q4, .int sn, .ref q6, .ref q7, .ref q8, .ref q9, .int tn, .int ra, .int rr, .int rw, .ref q14, .ref q15, .int rn, .ref q17, .ref q18, .ref q19, .int um, .int bs, .int bh, .ref q23, .ref q24, .ref q25, .int km]))] : va_W)) :=
  Ci.of (by decide) (Nat.le_of_ble_eq_true rfl) (fun r u hp => by rcases hp with ⟨_, hp, _⟩ | ⟨hp, _⟩ <;> (rw [← hp]; rfl)) (fun X h hR => w_X9_isColumn X h q0 q3 q4 q6 q7 q8 q9 q14 q15 q17 q18 q19 q23 q24 q25 ro co sl sn tn ra rr rw rn um bs bh km p0 hco hR)
set_option maxRecDepth 100000 in
set_option maxHeartbeats 4000000 in
theorem w_X9_isSide (X : Cx) {cI cE : ClassId} (h : Ok X cX9_isSide RX9 1 cI cE 1 0 0) (p0 : Int32) (z : Int) (hz : p0.toInt = z) (hR : ∀ (r : Int32) (u : Unit), ((nI 1 = r) ∧ (0 ≤ z ∧ z < 4) ∧ (True)) ∨ ((nI 0 = r) ∧ (¬ (0 ≤ z ∧ z < 4)) ∧ (True)) → RetI X cX9_isSide 1 0 0 r []) : J X 1 0 0 0 [(0, .int p0)] [] [] := by
  refine J_iload_n h (i := 0) dX9_isSide_0 rfl 0 rfl ?_
  refine J_iconst h (v := nI 0) dX9_isSide_1 (by decide) ?_
  refine J_iconst h (v := nI 3) dX9_isSide_2 (by decide) ?_
  refine K_si h (wr := []) (c_X9_in (xl X) (xD X) cI cE p0 (nI 0) (nI 3) ((p0).toInt) 0 3 (by exact rfl) (by exact nI_toInt (by omega)) (by exact nI_toInt (by omega))) yv_X9_in nm_X9_67 (by decide) (by decide) rfl rfl rfl (Nat.le_of_ble_eq_true rfl) (Nat.le_refl _) (Nat.le_refl _) dX9_isSide_3 (fun r_3 u_3 p_3 => ?_)
  rcases p_3 with p_3 | p_3
  · obtain ⟨rfl, f0_3, -⟩ := p_3
    show J X 1 0 0 6 [(0, .int p0)] [.int (nI 1)] []
    exact hR (nI 1) () (by first | exact Or.inl ⟨rfl, by omega, trivial⟩ | exact Or.inr ⟨rfl, by omega, trivial⟩) 6 _ dX9_isSide_6
  · obtain ⟨rfl, f0_3, -⟩ := p_3
    show J X 1 0 0 6 [(0, .int p0)] [.int (nI 0)] []
    exact hR (nI 0) () (by first | exact Or.inl ⟨rfl, by omega, trivial⟩ | exact Or.inr ⟨rfl, by omega, trivial⟩) 6 _ dX9_isSide_6
theorem c_X9_isSide (l : Launch) (D : va_G) (cI cE : ClassId) (p0 : Int32) (z : Int) (hz : p0.toInt = z) : Ci l D cI cE yX9_isSide cX9_isSide 1 (some .boolean) 1 0 0 [.int p0] [] (fun (r : Int32) (u : Unit) => ((nI 1 = r) ∧ (0 ≤ z ∧ z < 4) ∧ (True)) ∨ ((nI 0 = r) ∧ (¬ (0 ≤ z ∧ z < 4)) ∧ (True))) (fun (u : Unit) => ([] : va_W)) :=
  Ci.of (by decide) (Nat.le_of_ble_eq_true rfl) (fun r u hp => by rcases hp with ⟨hp, _⟩ | ⟨hp, _⟩ <;> (rw [← hp]; rfl)) (fun X h hR => w_X9_isSide X h p0 z hz hR)
theorem yv_X9_isSide : YS yX9_isSide cX9_isSide 1 (some .boolean) 1 := ⟨ns_X9_isSide, ni_X9, nk_X9_isSide, by decide +kernel⟩
set_option maxRecDepth 100000 in
set_option maxHeartbeats 4000000 in
theorem w_X9_isHeels (X : Cx) {cI cE : ClassId} (h : Ok X cX9_isHeels RX9 1 cI cE 1 0 0) (p0 : Int32) (z : Int) (hz : p0.toInt = z) (hR : ∀ (r : Int32) (u : Unit), ((nI 1 = r) ∧ ((0 ≤ z ∧ z ≤ 8) ∨ (11 ≤ z ∧ z ≤ 18)) ∧ (True)) ∨ ((nI 0 = r) ∧ (¬ ((0 ≤ z ∧ z ≤ 8) ∨ (11 ≤ z ∧ z ≤ 18))) ∧ (True)) → RetI X cX9_isHeels 1 0 0 r []) : J X 1 0 0 0 [(0, .int p0)] [] [] := by
  refine J_iload_n h (i := 0) dX9_isHeels_0 rfl 0 rfl ?_
  refine J_iconst h (v := nI 0) dX9_isHeels_1 (by decide) ?_
  refine J_bipush h (v := nI 8) dX9_isHeels_2 (by decide) ?_
  refine K_si h (wr := []) (c_X9_in (xl X) (xD X) cI cE p0 (nI 0) (nI 8) ((p0).toInt) 0 8 (by exact rfl) (by exact nI_toInt (by omega)) (by exact nI_toInt (by omega))) yv_X9_in nm_X9_67 (by decide) (by decide) rfl rfl rfl (Nat.le_of_ble_eq_true rfl) (Nat.le_refl _) (Nat.le_refl _) dX9_isHeels_4 (fun r_4 u_4 p_4 => ?_)
  rcases p_4 with p_4 | p_4
  · obtain ⟨rfl, f0_4, -⟩ := p_4
    show J X 1 0 0 7 [(0, .int p0)] [.int (nI 1)] []
    refine J_if_ne h 21 dX9_isHeels_7 (by decide) (fun _ => ?_) (fun z => absurd z (by decide))
    refine J_iconst h (v := nI 1) dX9_isHeels_21 (by decide) ?_
    refine J_goto h 26 dX9_isHeels_22 (by decide) ?_
    exact hR (nI 1) () (by first | exact Or.inl ⟨rfl, by omega, trivial⟩ | exact Or.inr ⟨rfl, by omega, trivial⟩) 26 _ dX9_isHeels_26
  · obtain ⟨rfl, f0_4, -⟩ := p_4
    show J X 1 0 0 7 [(0, .int p0)] [.int (nI 0)] []
    refine J_if_ne h 21 dX9_isHeels_7 (by decide) (fun z => absurd z (by decide)) (fun _ => ?_)
    refine J_iload_n h (i := 0) dX9_isHeels_10 rfl 0 rfl ?_
    refine J_bipush h (v := nI 11) dX9_isHeels_11 (by decide) ?_
    refine J_bipush h (v := nI 18) dX9_isHeels_13 (by decide) ?_
    refine K_si h (wr := []) (c_X9_in (xl X) (xD X) cI cE p0 (nI 11) (nI 18) ((p0).toInt) 11 18 (by exact rfl) (by exact nI_toInt (by omega)) (by exact nI_toInt (by omega))) yv_X9_in nm_X9_67 (by decide) (by decide) rfl rfl rfl (Nat.le_of_ble_eq_true rfl) (Nat.le_refl _) (Nat.le_refl _) dX9_isHeels_15 (fun r_15 u_15 p_15 => ?_)
    rcases p_15 with p_15 | p_15
    · obtain ⟨rfl, f0_15, -⟩ := p_15
      show J X 1 0 0 18 [(0, .int p0)] [.int (nI 1)] []
      refine J_if_eq h 25 dX9_isHeels_18 (by decide) (fun z => absurd z (by decide)) (fun _ => ?_)
      refine J_iconst h (v := nI 1) dX9_isHeels_21 (by decide) ?_
      refine J_goto h 26 dX9_isHeels_22 (by decide) ?_
      exact hR (nI 1) () (by first | exact Or.inl ⟨rfl, by omega, trivial⟩ | exact Or.inr ⟨rfl, by omega, trivial⟩) 26 _ dX9_isHeels_26
    · obtain ⟨rfl, f0_15, -⟩ := p_15
      show J X 1 0 0 18 [(0, .int p0)] [.int (nI 0)] []
      refine J_if_eq h 25 dX9_isHeels_18 (by decide) (fun _ => ?_) (fun z => absurd z (by decide))
      refine J_iconst h (v := nI 0) dX9_isHeels_25 (by decide) ?_
      exact hR (nI 0) () (by first | exact Or.inl ⟨rfl, by omega, trivial⟩ | exact Or.inr ⟨rfl, by omega, trivial⟩) 26 _ dX9_isHeels_26
theorem c_X9_isHeels (l : Launch) (D : va_G) (cI cE : ClassId) (p0 : Int32) (z : Int) (hz : p0.toInt = z) : Ci l D cI cE yX9_isHeels cX9_isHeels 1 (some .boolean) 1 0 0 [.int p0] [] (fun (r : Int32) (u : Unit) => ((nI 1 = r) ∧ ((0 ≤ z ∧ z ≤ 8) ∨ (11 ≤ z ∧ z ≤ 18)) ∧ (True)) ∨ ((nI 0 = r) ∧ (¬ ((0 ≤ z ∧ z ≤ 8) ∨ (11 ≤ z ∧ z ≤ 18))) ∧ (True))) (fun (u : Unit) => ([] : va_W)) :=
  Ci.of (by decide) (Nat.le_of_ble_eq_true rfl) (fun r u hp => by rcases hp with ⟨hp, _⟩ | ⟨hp, _⟩ <;> (rw [← hp]; rfl)) (fun X h hR => w_X9_isHeels X h p0 z hz hR)
theorem yv_X9_isHeels : YS yX9_isHeels cX9_isHeels 1 (some .boolean) 1 := ⟨ns_X9_isHeels, ni_X9, nk_X9_isHeels, by decide +kernel⟩
set_option maxRecDepth 100000 in
set_option maxHeartbeats 4000000 in
theorem w_X9_isSlide (X : Cx) {cI cE : ClassId} (h : Ok X cX9_isSlide RX9 4 cI cE 2 0 0) (q0 : Nat) (q3 : Nat) (q4 : Nat) (q6 : Nat) (q7 : Nat) (q8 : Nat) (q9 : Nat) (q14 : Nat) (q15 : Nat) (q17 : Nat) (q18 : Nat) (q19 : Nat) (q23 : Nat) (q24 : Nat) (q25 : Nat) (ro : Nat) (co : Nat) (sl : Int32) (sn : Int32) (tn : Int32) (ra : Int32) (rr : Int32) (rw : Int32) (rn : Int32) (um : Int32) (bs : Int32) (bh : Int32) (km : Int32) (p0 : Int32) (p1 : Int32) (p2 : Int32) (hco : co ≤ 6) (hR : ∀ (r : Int32) (u : Unit), (∃ (jx : Nat) (jw : Nat) (jh : Nat), (nI 1 = r) ∧ (jx < co) ∧ (1 ≤ jw) ∧ (jw ≤ 20) ∧ (jh ≤ 18) ∧ (vRide co p0 p1 p2) ∧ (p0 = nI jx) ∧ (p1 = nI jw) ∧ (p2 = nI jh) ∧ (True)) ∨ ((nI 0 = r) ∧ (¬ vRide co p0 p1 p2) ∧ (True)) → RetI X cX9_isSlide 4 0 0 r [(q0, .inr (9, [.int (nI ro), .int (nI co), .int sl, .ref q3, .ref q4, .int sn, .ref q6, .ref q7, .ref q8, .ref q9, .int tn, .int ra, .int rr, .int rw, .ref q14, .ref q15, .int rn, .ref q17, .ref q18, .ref q19, .int um, .int bs, .int bh, .ref q23, .ref q24, .ref q25, .int km]))]) : J X 4 0 0 0 [(0, .ref q0), (1, .int p0), (2, .int p1), (3, .int p2)] [] [(q0, .inr (9, [.int (nI ro), .int (nI co), .int sl, .ref q3, .ref q4, .int sn, .ref q6, .ref q7, .ref q8, .ref q9, .int tn, .int ra, .int rr, .int rw, .ref q14, .ref q15, .int rn, .ref q17, .ref q18, .ref q19, .int um, .int bs, .int bh, .ref q23, .ref q24, .ref q25, .int km]))] := by
  refine J_aload_n h (i := 0) dX9_isSlide_0 rfl 0 rfl ?_
  refine J_iload_n h (i := 1) dX9_isSlide_1 rfl 1 rfl ?_
  refine K_vi h (wr := []) (c_X9_isColumnT (xl X) (xD X) cI cE q0 q3 q4 q6 q7 q8 q9 q14 q15 q17 q18 q19 q23 q24 q25 ro co sl sn tn ra rr rw rn um bs bh km p0 ((p0).toInt) (by first | exact hco |  assumption | omega | rfl) (by exact rfl)) yv_X9_isColumn nm_X9_71 (by decide) (by decide) rfl rfl 0 rfl rfl rfl rfl (Nat.le_of_ble_eq_true rfl) (Nat.le_refl _) (Nat.le_refl _) dX9_isSlide_2 (fun r_2 u_2 p_2 => ?_)
  rcases p_2 with p_2 | p_2
  · obtain ⟨rfl, f0_2, -⟩ := p_2
    show J X 4 0 0 5 [(0, .ref q0), (1, .int p0), (2, .int p1), (3, .int p2)] [.int (nI 1)] [(q0, .inr (9, [.int (nI ro), .int (nI co), .int sl, .ref q3, .ref q4, .int sn, .ref q6, .ref q7, .ref q8, .ref q9, .int tn, .int ra, .int rr, .int rw, .ref q14, .ref q15, .int rn, .ref q17, .ref q18, .ref q19, .int um, .int bs, .int bh, .ref q23, .ref q24, .ref q25, .int km]))]
    refine J_if_eq h 29 dX9_isSlide_5 (by decide) (fun z => absurd z (by decide)) (fun _ => ?_)
    refine J_iload_n h (i := 2) dX9_isSlide_8 rfl 2 rfl ?_
    refine J_iconst h (v := nI 1) dX9_isSlide_9 (by decide) ?_
    refine J_bipush h (v := nI 20) dX9_isSlide_10 (by decide) ?_
    refine K_si h (wr := [(q0, .inr (9, [.int (nI ro), .int (nI co), .int sl, .ref q3, .ref q4, .int sn, .ref q6, .ref q7, .ref q8, .ref q9, .int tn, .int ra, .int rr, .int rw, .ref q14, .ref q15, .int rn, .ref q17, .ref q18, .ref q19, .int um, .int bs, .int bh, .ref q23, .ref q24, .ref q25, .int km]))]) (c_X9_in (xl X) (xD X) cI cE p1 (nI 1) (nI 20) ((p1).toInt) 1 20 (by exact rfl) (by exact nI_toInt (by omega)) (by exact nI_toInt (by omega))) yv_X9_in nm_X9_67 (by decide) (by decide) rfl rfl rfl (Nat.le_of_ble_eq_true rfl) (Nat.le_refl _) (Nat.le_refl _) dX9_isSlide_12 (fun r_12 u_12 p_12 => ?_)
    rcases p_12 with p_12 | p_12
    · obtain ⟨rfl, f0_12, -⟩ := p_12
      show J X 4 0 0 15 [(0, .ref q0), (1, .int p0), (2, .int p1), (3, .int p2)] [.int (nI 1)] [(q0, .inr (9, [.int (nI ro), .int (nI co), .int sl, .ref q3, .ref q4, .int sn, .ref q6, .ref q7, .ref q8, .ref q9, .int tn, .int ra, .int rr, .int rw, .ref q14, .ref q15, .int rn, .ref q17, .ref q18, .ref q19, .int um, .int bs, .int bh, .ref q23, .ref q24, .ref q25, .int km]))]
      refine J_if_eq h 29 dX9_isSlide_15 (by decide) (fun z => absurd z (by decide)) (fun _ => ?_)
      refine J_iload_n h (i := 3) dX9_isSlide_18 rfl 3 rfl ?_
      refine K_si h (wr := [(q0, .inr (9, [.int (nI ro), .int (nI co), .int sl, .ref q3, .ref q4, .int sn, .ref q6, .ref q7, .ref q8, .ref q9, .int tn, .int ra, .int rr, .int rw, .ref q14, .ref q15, .int rn, .ref q17, .ref q18, .ref q19, .int um, .int bs, .int bh, .ref q23, .ref q24, .ref q25, .int km]))]) (c_X9_isHeels (xl X) (xD X) cI cE p2 ((p2).toInt) (by exact rfl)) yv_X9_isHeels nm_X9_75 (by decide) (by decide) rfl rfl rfl (Nat.le_of_ble_eq_true rfl) (Nat.le_refl _) (Nat.le_refl _) dX9_isSlide_19 (fun r_19 u_19 p_19 => ?_)
      rcases p_19 with p_19 | p_19
      · obtain ⟨rfl, f0_19, -⟩ := p_19
        show J X 4 0 0 22 [(0, .ref q0), (1, .int p0), (2, .int p1), (3, .int p2)] [.int (nI 1)] [(q0, .inr (9, [.int (nI ro), .int (nI co), .int sl, .ref q3, .ref q4, .int sn, .ref q6, .ref q7, .ref q8, .ref q9, .int tn, .int ra, .int rr, .int rw, .ref q14, .ref q15, .int rn, .ref q17, .ref q18, .ref q19, .int um, .int bs, .int bh, .ref q23, .ref q24, .ref q25, .int km]))]
        refine J_if_eq h 29 dX9_isSlide_22 (by decide) (fun z => absurd z (by decide)) (fun _ => ?_)
        refine J_iconst h (v := nI 1) dX9_isSlide_25 (by decide) ?_
        refine J_goto h 30 dX9_isSlide_26 (by decide) ?_
        exact hR (nI 1) () (by first | (obtain ⟨jx, hx1, rfl⟩ := toNI (x := p0) (n := co) (by omega) (by omega); obtain ⟨jw, hw1, rfl⟩ := toNI (x := p1) (n := 21) (by omega) (by omega); obtain ⟨jh, hh1, rfl⟩ := toNI (x := p2) (n := 19) (by omega) (by omega); have hw2 := tiI (j := jw) (by omega); exact Or.inl ⟨jx, jw, jh, rfl, hx1, by omega, by omega, by omega, by omega, rfl, rfl, rfl, trivial⟩) | exact Or.inr ⟨rfl, by omega, trivial⟩) 30 _ dX9_isSlide_30
      · obtain ⟨rfl, f0_19, -⟩ := p_19
        show J X 4 0 0 22 [(0, .ref q0), (1, .int p0), (2, .int p1), (3, .int p2)] [.int (nI 0)] [(q0, .inr (9, [.int (nI ro), .int (nI co), .int sl, .ref q3, .ref q4, .int sn, .ref q6, .ref q7, .ref q8, .ref q9, .int tn, .int ra, .int rr, .int rw, .ref q14, .ref q15, .int rn, .ref q17, .ref q18, .ref q19, .int um, .int bs, .int bh, .ref q23, .ref q24, .ref q25, .int km]))]
        refine J_if_eq h 29 dX9_isSlide_22 (by decide) (fun _ => ?_) (fun z => absurd z (by decide))
        refine J_iconst h (v := nI 0) dX9_isSlide_29 (by decide) ?_
        exact hR (nI 0) () (by first | (obtain ⟨jx, hx1, rfl⟩ := toNI (x := p0) (n := co) (by omega) (by omega); obtain ⟨jw, hw1, rfl⟩ := toNI (x := p1) (n := 21) (by omega) (by omega); obtain ⟨jh, hh1, rfl⟩ := toNI (x := p2) (n := 19) (by omega) (by omega); have hw2 := tiI (j := jw) (by omega); exact Or.inl ⟨jx, jw, jh, rfl, hx1, by omega, by omega, by omega, by omega, rfl, rfl, rfl, trivial⟩) | exact Or.inr ⟨rfl, by omega, trivial⟩) 30 _ dX9_isSlide_30
    · obtain ⟨rfl, f0_12, -⟩ := p_12
      show J X 4 0 0 15 [(0, .ref q0), (1, .int p0), (2, .int p1), (3, .int p2)] [.int (nI 0)] [(q0, .inr (9, [.int (nI ro), .int (nI co), .int sl, .ref q3, .ref q4, .int sn, .ref q6, .ref q7, .ref q8, .ref q9, .int tn, .int ra, .int rr, .int rw, .ref q14, .ref q15, .int rn, .ref q17, .ref q18, .ref q19, .int um, .int bs, .int bh, .ref q23, .ref q24, .ref q25, .int km]))]
      refine J_if_eq h 29 dX9_isSlide_15 (by decide) (fun _ => ?_) (fun z => absurd z (by decide))
      refine J_iconst h (v := nI 0) dX9_isSlide_29 (by decide) ?_
      exact hR (nI 0) () (by first | (obtain ⟨jx, hx1, rfl⟩ := toNI (x := p0) (n := co) (by omega) (by omega); obtain ⟨jw, hw1, rfl⟩ := toNI (x := p1) (n := 21) (by omega) (by omega); obtain ⟨jh, hh1, rfl⟩ := toNI (x := p2) (n := 19) (by omega) (by omega); have hw2 := tiI (j := jw) (by omega); exact Or.inl ⟨jx, jw, jh, rfl, hx1, by omega, by omega, by omega, by omega, rfl, rfl, rfl, trivial⟩) | exact Or.inr ⟨rfl, by omega, trivial⟩) 30 _ dX9_isSlide_30
  · obtain ⟨rfl, f0_2, -⟩ := p_2
    show J X 4 0 0 5 [(0, .ref q0), (1, .int p0), (2, .int p1), (3, .int p2)] [.int (nI 0)] [(q0, .inr (9, [.int (nI ro), .int (nI co), .int sl, .ref q3, .ref q4, .int sn, .ref q6, .ref q7, .ref q8, .ref q9, .int tn, .int ra, .int rr, .int rw, .ref q14, .ref q15, .int rn, .ref q17, .ref q18, .ref q19, .int um, .int bs, .int bh, .ref q23, .ref q24, .ref q25, .int km]))]
    refine J_if_eq h 29 dX9_isSlide_5 (by decide) (fun _ => ?_) (fun z => absurd z (by decide))
    refine J_iconst h (v := nI 0) dX9_isSlide_29 (by decide) ?_
    exact hR (nI 0) () (by first | (obtain ⟨jx, hx1, rfl⟩ := toNI (x := p0) (n := co) (by omega) (by omega); obtain ⟨jw, hw1, rfl⟩ := toNI (x := p1) (n := 21) (by omega) (by omega); obtain ⟨jh, hh1, rfl⟩ := toNI (x := p2) (n := 19) (by omega) (by omega); have hw2 := tiI (j := jw) (by omega); exact Or.inl ⟨jx, jw, jh, rfl, hx1, by omega, by omega, by omega, by omega, rfl, rfl, rfl, trivial⟩) | exact Or.inr ⟨rfl, by omega, trivial⟩) 30 _ dX9_isSlide_30
theorem c_X9_isSlide (l : Launch) (D : va_G) (cI cE : ClassId) (q0 : Nat) (q3 : Nat) (q4 : Nat) (q6 : Nat) (q7 : Nat) (q8 : Nat) (q9 : Nat) (q14 : Nat) (q15 : Nat) (q17 : Nat) (q18 : Nat) (q19 : Nat) (q23 : Nat) (q24 : Nat) (q25 : Nat) (ro : Nat) (co : Nat) (sl : Int32) (sn : Int32) (tn : Int32) (ra : Int32) (rr : Int32) (rw : Int32) (rn : Int32) (um : Int32) (bs : Int32) (bh : Int32) (km : Int32) (p0 : Int32) (p1 : Int32) (p2 : Int32) (hco : co ≤ 6) : Ci l D cI cE yX9_isSlide cX9_isSlide 4 (some .boolean) 2 0 0 [.ref q0, .int p0, .int p1, .int p2] [(q0, .inr (9, [.int (nI ro), .int (nI co), .int sl, .ref q3, .ref q4, .int sn, .ref q6, .ref q7, .ref q8, .ref q9, .int tn, .int ra, .int rr, .int rw, .ref q14, .ref q15, .int rn, .ref q17, .ref q18, .ref q19, .int um, .int bs, .int bh, .ref q23, .ref q24, .ref q25, .int km]))] (fun (r : Int32) (u : Unit) => (∃ (jx : Nat) (jw : Nat) (jh : Nat), (nI 1 = r) ∧ (jx < co) ∧ (1 ≤ jw) ∧ (jw ≤ 20) ∧ (jh ≤ 18) ∧ (vRide co p0 p1 p2) ∧ (p0 = nI jx) ∧ (p1 = nI jw) ∧ (p2 = nI jh) ∧ (True)) ∨ ((nI 0 = r) ∧ (¬ vRide co p0 p1 p2) ∧ (True))) (fun (u : Unit) => ([(q0, .inr (9, [.int (nI ro), .int (nI co), .int sl, .ref q3, .ref q4, .int sn, .ref q6, .ref q7, .ref q8, .ref q9, .int tn, .int ra, .int rr, .int rw, .ref q14, .ref q15, .int rn, .ref q17, .ref q18, .ref q19, .int um, .int bs, .int bh, .ref q23, .ref q24, .ref q25, .int km]))] : va_W)) :=
  Ci.of (by decide) (Nat.le_of_ble_eq_true rfl) (fun r u hp => by rcases hp with ⟨_, _, _, hp, _⟩ | ⟨hp, _⟩ <;> (rw [← hp]; rfl)) (fun X h hR => w_X9_isSlide X h q0 q3 q4 q6 q7 q8 q9 q14 q15 q17 q18 q19 q23 q24 q25 ro co sl sn tn ra rr rw rn um bs bh km p0 p1 p2 hco hR)
theorem yv_X9_isSlide : YV yX9_isSlide cX9_isSlide 4 (some .boolean) 3 := ⟨no_X9_isSlide, nv_X9_isSlide, ni_X9, nk_X9_isSlide, by decide +kernel⟩
set_option maxRecDepth 100000 in
set_option maxHeartbeats 4000000 in
theorem w_X9_isSlideN (X : Cx) {cI cE : ClassId} (h : Ok X cX9_isSlide RX9 4 cI cE 2 0 0) (q0 : Nat) (q3 : Nat) (q4 : Nat) (q6 : Nat) (q7 : Nat) (q8 : Nat) (q9 : Nat) (q14 : Nat) (q15 : Nat) (q17 : Nat) (q18 : Nat) (q19 : Nat) (q23 : Nat) (q24 : Nat) (q25 : Nat) (ro : Nat) (co : Nat) (sl : Int32) (sn : Int32) (tn : Int32) (ra : Int32) (rr : Int32) (rw : Int32) (rn : Int32) (um : Int32) (bs : Int32) (bh : Int32) (km : Int32) (jx : Nat) (jw : Nat) (jh : Nat) (hco : co ≤ 6) (hjx : jx < 100) (hjw : jw < 100) (hjh : jh < 100) (hR : ∀ (r : Int32) (u : Unit), ((nI 1 = r) ∧ (jx < co ∧ (1 ≤ jw ∧ jw ≤ 20) ∧ (jh ≤ 8 ∨ (11 ≤ jh ∧ jh ≤ 18))) ∧ (True)) ∨ ((nI 0 = r) ∧ (¬ (jx < co ∧ (1 ≤ jw ∧ jw ≤ 20) ∧ (jh ≤ 8 ∨ (11 ≤ jh ∧ jh ≤ 18)))) ∧ (True)) → RetI X cX9_isSlide 4 0 0 r [(q0, .inr (9, [.int (nI ro), .int (nI co), .int sl, .ref q3, .ref q4, .int sn, .ref q6, .ref q7, .ref q8, .ref q9, .int tn, .int ra, .int rr, .int rw, .ref q14, .ref q15, .int rn, .ref q17, .ref q18, .ref q19, .int um, .int bs, .int bh, .ref q23, .ref q24, .ref q25, .int km]))]) : J X 4 0 0 0 [(0, .ref q0), (1, .int (nI jx)), (2, .int (nI jw)), (3, .int (nI jh))] [] [(q0, .inr (9, [.int (nI ro), .int (nI co), .int sl, .ref q3, .ref q4, .int sn, .ref q6, .ref q7, .ref q8, .ref q9, .int tn, .int ra, .int rr, .int rw, .ref q14, .ref q15, .int rn, .ref q17, .ref q18, .ref q19, .int um, .int bs, .int bh, .ref q23, .ref q24, .ref q25, .int km]))] := by
  refine J_aload_n h (i := 0) dX9_isSlide_0 rfl 0 rfl ?_
  refine J_iload_n h (i := 1) dX9_isSlide_1 rfl 1 rfl ?_
  refine K_vi h (wr := []) (c_X9_isColumnT (xl X) (xD X) cI cE q0 q3 q4 q6 q7 q8 q9 q14 q15 q17 q18 q19 q23 q24 q25 ro co sl sn tn ra rr rw rn um bs bh km (nI jx) (((jx : Nat) : Int)) (by first | exact hco |  assumption | omega | rfl) (by exact nI_toInt (by omega))) yv_X9_isColumn nm_X9_71 (by decide) (by decide) rfl rfl 0 rfl rfl rfl rfl (Nat.le_of_ble_eq_true rfl) (Nat.le_refl _) (Nat.le_refl _) dX9_isSlide_2 (fun r_2 u_2 p_2 => ?_)
  rcases p_2 with p_2 | p_2
  · obtain ⟨rfl, f0_2, -⟩ := p_2
    show J X 4 0 0 5 [(0, .ref q0), (1, .int (nI jx)), (2, .int (nI jw)), (3, .int (nI jh))] [.int (nI 1)] [(q0, .inr (9, [.int (nI ro), .int (nI co), .int sl, .ref q3, .ref q4, .int sn, .ref q6, .ref q7, .ref q8, .ref q9, .int tn, .int ra, .int rr, .int rw, .ref q14, .ref q15, .int rn, .ref q17, .ref q18, .ref q19, .int um, .int bs, .int bh, .ref q23, .ref q24, .ref q25, .int km]))]
    refine J_if_eq h 29 dX9_isSlide_5 (by decide) (fun z => absurd z (by decide)) (fun _ => ?_)
    refine J_iload_n h (i := 2) dX9_isSlide_8 rfl 2 rfl ?_
    refine J_iconst h (v := nI 1) dX9_isSlide_9 (by decide) ?_
    refine J_bipush h (v := nI 20) dX9_isSlide_10 (by decide) ?_
    refine K_si h (wr := [(q0, .inr (9, [.int (nI ro), .int (nI co), .int sl, .ref q3, .ref q4, .int sn, .ref q6, .ref q7, .ref q8, .ref q9, .int tn, .int ra, .int rr, .int rw, .ref q14, .ref q15, .int rn, .ref q17, .ref q18, .ref q19, .int um, .int bs, .int bh, .ref q23, .ref q24, .ref q25, .int km]))]) (c_X9_in (xl X) (xD X) cI cE (nI jw) (nI 1) (nI 20) (((jw : Nat) : Int)) 1 20 (by exact nI_toInt (by omega)) (by exact nI_toInt (by omega)) (by exact nI_toInt (by omega))) yv_X9_in nm_X9_67 (by decide) (by decide) rfl rfl rfl (Nat.le_of_ble_eq_true rfl) (Nat.le_refl _) (Nat.le_refl _) dX9_isSlide_12 (fun r_12 u_12 p_12 => ?_)
    rcases p_12 with p_12 | p_12
    · obtain ⟨rfl, f0_12, -⟩ := p_12
      show J X 4 0 0 15 [(0, .ref q0), (1, .int (nI jx)), (2, .int (nI jw)), (3, .int (nI jh))] [.int (nI 1)] [(q0, .inr (9, [.int (nI ro), .int (nI co), .int sl, .ref q3, .ref q4, .int sn, .ref q6, .ref q7, .ref q8, .ref q9, .int tn, .int ra, .int rr, .int rw, .ref q14, .ref q15, .int rn, .ref q17, .ref q18, .ref q19, .int um, .int bs, .int bh, .ref q23, .ref q24, .ref q25, .int km]))]
      refine J_if_eq h 29 dX9_isSlide_15 (by decide) (fun z => absurd z (by decide)) (fun _ => ?_)
      refine J_iload_n h (i := 3) dX9_isSlide_18 rfl 3 rfl ?_
      refine K_si h (wr := [(q0, .inr (9, [.int (nI ro), .int (nI co), .int sl, .ref q3, .ref q4, .int sn, .ref q6, .ref q7, .ref q8, .ref q9, .int tn, .int ra, .int rr, .int rw, .ref q14, .ref q15, .int rn, .ref q17, .ref q18, .ref q19, .int um, .int bs, .int bh, .ref q23, .ref q24, .ref q25, .int km]))]) (c_X9_isHeels (xl X) (xD X) cI cE (nI jh) (((jh : Nat) : Int)) (by exact nI_toInt (by omega))) yv_X9_isHeels nm_X9_75 (by decide) (by decide) rfl rfl rfl (Nat.le_of_ble_eq_true rfl) (Nat.le_refl _) (Nat.le_refl _) dX9_isSlide_19 (fun r_19 u_19 p_19 => ?_)
      rcases p_19 with p_19 | p_19
      · obtain ⟨rfl, f0_19, -⟩ := p_19
        show J X 4 0 0 22 [(0, .ref q0), (1, .int (nI jx)), (2, .int (nI jw)), (3, .int (nI jh))] [.int (nI 1)] [(q0, .inr (9, [.int (nI ro), .int (nI co), .int sl, .ref q3, .ref q4, .int sn, .ref q6, .ref q7, .ref q8, .ref q9, .int tn, .int ra, .int rr, .int rw, .ref q14, .ref q15, .int rn, .ref q17, .ref q18, .ref q19, .int um, .int bs, .int bh, .ref q23, .ref q24, .ref q25, .int km]))]
        refine J_if_eq h 29 dX9_isSlide_22 (by decide) (fun z => absurd z (by decide)) (fun _ => ?_)
        refine J_iconst h (v := nI 1) dX9_isSlide_25 (by decide) ?_
        refine J_goto h 30 dX9_isSlide_26 (by decide) ?_
        exact hR (nI 1) () (by first | exact Or.inl ⟨rfl, by omega, trivial⟩ | exact Or.inr ⟨rfl, by omega, trivial⟩) 30 _ dX9_isSlide_30
      · obtain ⟨rfl, f0_19, -⟩ := p_19
        show J X 4 0 0 22 [(0, .ref q0), (1, .int (nI jx)), (2, .int (nI jw)), (3, .int (nI jh))] [.int (nI 0)] [(q0, .inr (9, [.int (nI ro), .int (nI co), .int sl, .ref q3, .ref q4, .int sn, .ref q6, .ref q7, .ref q8, .ref q9, .int tn, .int ra, .int rr, .int rw, .ref q14, .ref q15, .int rn, .ref q17, .ref q18, .ref q19, .int um, .int bs, .int bh, .ref q23, .ref q24, .ref q25, .int km]))]
        refine J_if_eq h 29 dX9_isSlide_22 (by decide) (fun _ => ?_) (fun z => absurd z (by decide))
        refine J_iconst h (v := nI 0) dX9_isSlide_29 (by decide) ?_
        exact hR (nI 0) () (by first | exact Or.inl ⟨rfl, by omega, trivial⟩ | exact Or.inr ⟨rfl, by omega, trivial⟩) 30 _ dX9_isSlide_30
    · obtain ⟨rfl, f0_12, -⟩ := p_12
      show J X 4 0 0 15 [(0, .ref q0), (1, .int (nI jx)), (2, .int (nI jw)), (3, .int (nI jh))] [.int (nI 0)] [(q0, .inr (9, [.int (nI ro), .int (nI co), .int sl, .ref q3, .ref q4, .int sn, .ref q6, .ref q7, .ref q8, .ref q9, .int tn, .int ra, .int rr, .int rw, .ref q14, .ref q15, .int rn, .ref q17, .ref q18, .ref q19, .int um, .int bs, .int bh, .ref q23, .ref q24, .ref q25, .int km]))]
      refine J_if_eq h 29 dX9_isSlide_15 (by decide) (fun _ => ?_) (fun z => absurd z (by decide))
      refine J_iconst h (v := nI 0) dX9_isSlide_29 (by decide) ?_
      exact hR (nI 0) () (by first | exact Or.inl ⟨rfl, by omega, trivial⟩ | exact Or.inr ⟨rfl, by omega, trivial⟩) 30 _ dX9_isSlide_30
  · obtain ⟨rfl, f0_2, -⟩ := p_2
    show J X 4 0 0 5 [(0, .ref q0), (1, .int (nI jx)), (2, .int (nI jw)), (3, .int (nI jh))] [.int (nI 0)] [(q0, .inr (9, [.int (nI ro), .int (nI co), .int sl, .ref q3, .ref q4, .int sn, .ref q6, .ref q7, .ref q8, .ref q9, .int tn, .int ra, .int rr, .int rw, .ref q14, .ref q15, .int rn, .ref q17, .ref q18, .ref q19, .int um, .int bs, .int bh, .ref q23, .ref q24, .ref q25, .int km]))]
    refine J_if_eq h 29 dX9_isSlide_5 (by decide) (fun _ => ?_) (fun z => absurd z (by decide))
    refine J_iconst h (v := nI 0) dX9_isSlide_29 (by decide) ?_
    exact hR (nI 0) () (by first | exact Or.inl ⟨rfl, by omega, trivial⟩ | exact Or.inr ⟨rfl, by omega, trivial⟩) 30 _ dX9_isSlide_30
theorem c_X9_isSlideN (l : Launch) (D : va_G) (cI cE : ClassId) (q0 : Nat) (q3 : Nat) (q4 : Nat) (q6 : Nat) (q7 : Nat) (q8 : Nat) (q9 : Nat) (q14 : Nat) (q15 : Nat) (q17 : Nat) (q18 : Nat) (q19 : Nat) (q23 : Nat) (q24 : Nat) (q25 : Nat) (ro : Nat) (co : Nat) (sl : Int32) (sn : Int32) (tn : Int32) (ra : Int32) (rr : Int32) (rw : Int32) (rn : Int32) (um : Int32) (bs : Int32) (bh : Int32) (km : Int32) (jx : Nat) (jw : Nat) (jh : Nat) (hco : co ≤ 6) (hjx : jx < 100) (hjw : jw < 100) (hjh : jh < 100) : Ci l D cI cE yX9_isSlide cX9_isSlide 4 (some .boolean) 2 0 0 [.ref q0, .int (nI jx), .int (nI jw), .int (nI jh)] [(q0, .inr (9, [.int (nI ro), .int (nI co), .int sl, .ref q3, .ref q4, .int sn, .ref q6, .ref q7, .ref q8, .ref q9, .int tn, .int ra, .int rr, .int rw, .ref q14, .ref q15, .int rn, .ref q17, .ref q18, .ref q19, .int um, .int bs, .int bh, .ref q23, .ref q24, .ref q25, .int km]))] (fun (r : Int32) (u : Unit) => ((nI 1 = r) ∧ (jx < co ∧ (1 ≤ jw ∧ jw ≤ 20) ∧ (jh ≤ 8 ∨ (11 ≤ jh ∧ jh ≤ 18))) ∧ (True)) ∨ ((nI 0 = r) ∧ (¬ (jx < co ∧ (1 ≤ jw ∧ jw ≤ 20) ∧ (jh ≤ 8 ∨ (11 ≤ jh ∧ jh ≤ 18)))) ∧ (True))) (fun (u : Unit) => ([(q0, .inr (9, [.int (nI ro), .int (nI co), .int sl, .ref q3, .ref q4, .int sn, .ref q6, .ref q7, .ref q8, .ref q9, .int tn, .int ra, .int rr, .int rw, .ref q14, .ref q15, .int rn, .ref q17, .ref q18, .ref q19, .int um, .int bs, .int bh, .ref q23, .ref q24, .ref q25, .int km]))] : va_W)) :=
  Ci.of (by decide) (Nat.le_of_ble_eq_true rfl) (fun r u hp => by rcases hp with ⟨hp, _⟩ | ⟨hp, _⟩ <;> (rw [← hp]; rfl)) (fun X h hR => w_X9_isSlideN X h q0 q3 q4 q6 q7 q8 q9 q14 q15 q17 q18 q19 q23 q24 q25 ro co sl sn tn ra rr rw rn um bs bh km jx jw jh hco hjx hjw hjh hR)
set_option maxRecDepth 100000 in
set_option maxHeartbeats 4000000 in
theorem w_X9_isEnd (X : Cx) {cI cE : ClassId} (h : Ok X cX9_isEnd RX9 2 cI cE 2 0 0) (q0 : Nat) (q3 : Nat) (q4 : Nat) (q6 : Nat) (q7 : Nat) (q8 : Nat) (q9 : Nat) (q14 : Nat) (q15 : Nat) (q17 : Nat) (q18 : Nat) (q19 : Nat) (q23 : Nat) (q24 : Nat) (q25 : Nat) (ro : Nat) (co : Nat) (sl : Int32) (sn : Int32) (tn : Int32) (ra : Int32) (rr : Int32) (rw : Int32) (rn : Int32) (um : Int32) (bs : Int32) (bh : Int32) (km : Int32) (p0 : Int32) (hrc : ro * co ≤ 48) (hR : ∀ (r : Int32) (u : Unit), (∃ (jc : Nat), (nI 1 = r) ∧ (jc = 99 ∨ jc < ro * co) ∧ (vEnd (ro * co) p0) ∧ (p0 = nI jc) ∧ (True)) ∨ ((nI 0 = r) ∧ (¬ vEnd (ro * co) p0) ∧ (True)) → RetI X cX9_isEnd 2 0 0 r [(q0, .inr (9, [.int (nI ro), .int (nI co), .int sl, .ref q3, .ref q4, .int sn, .ref q6, .ref q7, .ref q8, .ref q9, .int tn, .int ra, .int rr, .int rw, .ref q14, .ref q15, .int rn, .ref q17, .ref q18, .ref q19, .int um, .int bs, .int bh, .ref q23, .ref q24, .ref q25, .int km]))]) : J X 2 0 0 0 [(0, .ref q0), (1, .int p0)] [] [(q0, .inr (9, [.int (nI ro), .int (nI co), .int sl, .ref q3, .ref q4, .int sn, .ref q6, .ref q7, .ref q8, .ref q9, .int tn, .int ra, .int rr, .int rw, .ref q14, .ref q15, .int rn, .ref q17, .ref q18, .ref q19, .int um, .int bs, .int bh, .ref q23, .ref q24, .ref q25, .int km]))] := by
  refine J_aload_n h (i := 0) dX9_isEnd_0 rfl 0 rfl ?_
  refine J_iload_n h (i := 1) dX9_isEnd_1 rfl 1 rfl ?_
  refine K_vi h (wr := []) (c_X9_isCellT (xl X) (xD X) cI cE q0 q3 q4 q6 q7 q8 q9 q14 q15 q17 q18 q19 q23 q24 q25 ro co sl sn tn ra rr rw rn um bs bh km p0 ((p0).toInt) (by first | exact hrc |  assumption | omega | rfl) (by exact rfl)) yv_X9_isCell nm_X9_131 (by decide) (by decide) rfl rfl 0 rfl rfl rfl rfl (Nat.le_of_ble_eq_true rfl) (Nat.le_refl _) (Nat.le_refl _) dX9_isEnd_2 (fun r_2 u_2 p_2 => ?_)
  rcases p_2 with p_2 | p_2
  · obtain ⟨rfl, f0_2, -⟩ := p_2
    show J X 2 0 0 5 [(0, .ref q0), (1, .int p0)] [.int (nI 1)] [(q0, .inr (9, [.int (nI ro), .int (nI co), .int sl, .ref q3, .ref q4, .int sn, .ref q6, .ref q7, .ref q8, .ref q9, .int tn, .int ra, .int rr, .int rw, .ref q14, .ref q15, .int rn, .ref q17, .ref q18, .ref q19, .int um, .int bs, .int bh, .ref q23, .ref q24, .ref q25, .int km]))]
    refine J_if_ne h 14 dX9_isEnd_5 (by decide) (fun _ => ?_) (fun z => absurd z (by decide))
    refine J_iconst h (v := nI 1) dX9_isEnd_14 (by decide) ?_
    refine J_goto h 19 dX9_isEnd_15 (by decide) ?_
    exact hR (nI 1) () (by first | (obtain ⟨jc, hc1, rfl⟩ := toNI (x := p0) (n := 100) (by omega) (by omega); have hc2 := tiI (j := jc) (by omega); exact Or.inl ⟨jc, rfl, by omega, by omega, rfl, trivial⟩) | exact Or.inr ⟨rfl, by omega, trivial⟩) 19 _ dX9_isEnd_19
  · obtain ⟨rfl, f0_2, -⟩ := p_2
    show J X 2 0 0 5 [(0, .ref q0), (1, .int p0)] [.int (nI 0)] [(q0, .inr (9, [.int (nI ro), .int (nI co), .int sl, .ref q3, .ref q4, .int sn, .ref q6, .ref q7, .ref q8, .ref q9, .int tn, .int ra, .int rr, .int rw, .ref q14, .ref q15, .int rn, .ref q17, .ref q18, .ref q19, .int um, .int bs, .int bh, .ref q23, .ref q24, .ref q25, .int km]))]
    refine J_if_ne h 14 dX9_isEnd_5 (by decide) (fun z => absurd z (by decide)) (fun _ => ?_)
    refine J_iload_n h (i := 1) dX9_isEnd_8 rfl 1 rfl ?_
    refine J_bipush h (v := nI 99) dX9_isEnd_9 (by decide) ?_
    refine T_icmp_ne h (A := (p0).toInt) (B := 99) 18 dX9_isEnd_11 (by decide) (rfl) (nI_toInt (by omega)) (fun c_11 => ?_) (fun c_11 => ?_)
    · skip
      refine J_iconst h (v := nI 0) dX9_isEnd_18 (by decide) ?_
      exact hR (nI 0) () (by first | (obtain ⟨jc, hc1, rfl⟩ := toNI (x := p0) (n := 100) (by omega) (by omega); have hc2 := tiI (j := jc) (by omega); exact Or.inl ⟨jc, rfl, by omega, by omega, rfl, trivial⟩) | exact Or.inr ⟨rfl, by omega, trivial⟩) 19 _ dX9_isEnd_19
    · skip
      refine J_iconst h (v := nI 1) dX9_isEnd_14 (by decide) ?_
      refine J_goto h 19 dX9_isEnd_15 (by decide) ?_
      exact hR (nI 1) () (by first | (obtain ⟨jc, hc1, rfl⟩ := toNI (x := p0) (n := 100) (by omega) (by omega); have hc2 := tiI (j := jc) (by omega); exact Or.inl ⟨jc, rfl, by omega, by omega, rfl, trivial⟩) | exact Or.inr ⟨rfl, by omega, trivial⟩) 19 _ dX9_isEnd_19
theorem c_X9_isEnd (l : Launch) (D : va_G) (cI cE : ClassId) (q0 : Nat) (q3 : Nat) (q4 : Nat) (q6 : Nat) (q7 : Nat) (q8 : Nat) (q9 : Nat) (q14 : Nat) (q15 : Nat) (q17 : Nat) (q18 : Nat) (q19 : Nat) (q23 : Nat) (q24 : Nat) (q25 : Nat) (ro : Nat) (co : Nat) (sl : Int32) (sn : Int32) (tn : Int32) (ra : Int32) (rr : Int32) (rw : Int32) (rn : Int32) (um : Int32) (bs : Int32) (bh : Int32) (km : Int32) (p0 : Int32) (hrc : ro * co ≤ 48) : Ci l D cI cE yX9_isEnd cX9_isEnd 2 (some .boolean) 2 0 0 [.ref q0, .int p0] [(q0, .inr (9, [.int (nI ro), .int (nI co), .int sl, .ref q3, .ref q4, .int sn, .ref q6, .ref q7, .ref q8, .ref q9, .int tn, .int ra, .int rr, .int rw, .ref q14, .ref q15, .int rn, .ref q17, .ref q18, .ref q19, .int um, .int bs, .int bh, .ref q23, .ref q24, .ref q25, .int km]))] (fun (r : Int32) (u : Unit) => (∃ (jc : Nat), (nI 1 = r) ∧ (jc = 99 ∨ jc < ro * co) ∧ (vEnd (ro * co) p0) ∧ (p0 = nI jc) ∧ (True)) ∨ ((nI 0 = r) ∧ (¬ vEnd (ro * co) p0) ∧ (True))) (fun (u : Unit) => ([(q0, .inr (9, [.int (nI ro), .int (nI co), .int sl, .ref q3, .ref q4, .int sn, .ref q6, .ref q7, .ref q8, .ref q9, .int tn, .int ra, .int rr, .int rw, .ref q14, .ref q15, .int rn, .ref q17, .ref q18, .ref q19, .int um, .int bs, .int bh, .ref q23, .ref q24, .ref q25, .int km]))] : va_W)) :=
  Ci.of (by decide) (Nat.le_of_ble_eq_true rfl) (fun r u hp => by rcases hp with ⟨_, hp, _⟩ | ⟨hp, _⟩ <;> (rw [← hp]; rfl)) (fun X h hR => w_X9_isEnd X h q0 q3 q4 q6 q7 q8 q9 q14 q15 q17 q18 q19 q23 q24 q25 ro co sl sn tn ra rr rw rn um bs bh km p0 hrc hR)
theorem yv_X9_isEnd : YV yX9_isEnd cX9_isEnd 2 (some .boolean) 1 := ⟨no_X9_isEnd, nv_X9_isEnd, ni_X9, nk_X9_isEnd, by decide +kernel⟩
set_option maxRecDepth 100000 in
set_option maxHeartbeats 4000000 in
theorem w_X9_write (X : Cx) {cI cE : ClassId} (h : Ok X cX9_write RX9 2 cI cE 1 0 0) (q0 : Nat) (q3 : Nat) (q4 : Nat) (q6 : Nat) (q7 : Nat) (q8 : Nat) (q9 : Nat) (q14 : Nat) (q15 : Nat) (q17 : Nat) (q18 : Nat) (q19 : Nat) (q23 : Nat) (q24 : Nat) (q25 : Nat) (ro : Int32) (co : Int32) (sl : Int32) (sn : Int32) (tn : Nat) (ra : Int32) (rr : Int32) (rw : Int32) (rn : Int32) (um : Int32) (bs : Int32) (bh : Int32) (km : Int32) (lx : Nat → Nat) (p0 : Int32) (htn : tn ≤ 200) (hR : ∀ (r : Int32) (u : (Nat → Nat) × (Nat)), ((nI (tn + 1) = r) ∧ (32 ≤ p0.toInt ∧ p0.toInt ≤ 126) ∧ (tn < 200) ∧ ((va_up lx tn (ton p0)) = u.1) ∧ ((tn + 1) = u.2) ∧ (True)) ∨ (((-3) = r) ∧ (32 ≤ p0.toInt ∧ p0.toInt ≤ 126) ∧ (tn = 200) ∧ ((lx) = u.1) ∧ ((tn) = u.2) ∧ (True)) ∨ (((-1) = r) ∧ (¬ (32 ≤ p0.toInt ∧ p0.toInt ≤ 126)) ∧ ((lx) = u.1) ∧ ((tn) = u.2) ∧ (True)) → RetI X cX9_write 2 0 0 r [(q0, .inr (9, [.int ro, .int co, .int sl, .ref q3, .ref q4, .int sn, .ref q6, .ref q7, .ref q8, .ref q9, .int (nI u.2), .int ra, .int rr, .int rw, .ref q14, .ref q15, .int rn, .ref q17, .ref q18, .ref q19, .int um, .int bs, .int bh, .ref q23, .ref q24, .ref q25, .int km])), (q9, .inl (cI, 200, .inl (nA u.1)))]) : J X 2 0 0 0 [(0, .ref q0), (1, .int p0)] [] [(q0, .inr (9, [.int ro, .int co, .int sl, .ref q3, .ref q4, .int sn, .ref q6, .ref q7, .ref q8, .ref q9, .int (nI tn), .int ra, .int rr, .int rw, .ref q14, .ref q15, .int rn, .ref q17, .ref q18, .ref q19, .int um, .int bs, .int bh, .ref q23, .ref q24, .ref q25, .int km])), (q9, .inl (cI, 200, .inl (nA lx)))] := by
  refine J_iload_n h (i := 1) dX9_write_0 rfl 1 rfl ?_
  refine J_bipush h (v := nI 32) dX9_write_1 (by decide) ?_
  refine J_bipush h (v := nI 126) dX9_write_3 (by decide) ?_
  refine K_si h (wr := [(q0, .inr (9, [.int ro, .int co, .int sl, .ref q3, .ref q4, .int sn, .ref q6, .ref q7, .ref q8, .ref q9, .int (nI tn), .int ra, .int rr, .int rw, .ref q14, .ref q15, .int rn, .ref q17, .ref q18, .ref q19, .int um, .int bs, .int bh, .ref q23, .ref q24, .ref q25, .int km])), (q9, .inl (cI, 200, .inl (nA lx)))]) (c_X9_in (xl X) (xD X) cI cE p0 (nI 32) (nI 126) ((p0).toInt) 32 126 (by exact rfl) (by exact nI_toInt (by omega)) (by exact nI_toInt (by omega))) yv_X9_in nm_X9_67 (by decide) (by decide) rfl rfl rfl (Nat.le_of_ble_eq_true rfl) (Nat.le_refl _) (Nat.le_refl _) dX9_write_5 (fun r_5 u_5 p_5 => ?_)
  rcases p_5 with p_5 | p_5
  · obtain ⟨rfl, f0_5, -⟩ := p_5
    show J X 2 0 0 8 [(0, .ref q0), (1, .int p0)] [.int (nI 1)] [(q0, .inr (9, [.int ro, .int co, .int sl, .ref q3, .ref q4, .int sn, .ref q6, .ref q7, .ref q8, .ref q9, .int (nI tn), .int ra, .int rr, .int rw, .ref q14, .ref q15, .int rn, .ref q17, .ref q18, .ref q19, .int um, .int bs, .int bh, .ref q23, .ref q24, .ref q25, .int km])), (q9, .inl (cI, 200, .inl (nA lx)))]
    refine J_if_ne h 13 dX9_write_8 (by decide) (fun _ => ?_) (fun z => absurd z (by decide))
    refine J_aload_n h (i := 0) dX9_write_13 rfl 0 rfl ?_
    refine J_get h inX9 rfl 0 10 (by decide) rfl rfl nf_X9_78 dX9_write_14 ?_
    refine J_sipush h (v := nI 200) dX9_write_17 (by decide) ?_
    refine N_icmp_ne h 26 dX9_write_20 (by decide) (by omega) (by omega) (fun c_20 => ?_) (fun c_20 => ?_)
    · skip
      obtain ⟨j, hj, rfl⟩ := toNI (x := p0) (n := 127) (by omega) (by omega)
      have htj := tiI (j := j) (by omega)
      refine J_aload_n h (i := 0) dX9_write_26 rfl 0 rfl ?_
      refine J_get h inX9 rfl 0 9 (by decide) rfl rfl nf_X9_25 dX9_write_27 ?_
      refine J_aload_n h (i := 0) dX9_write_30 rfl 0 rfl ?_
      refine J_get h inX9 rfl 0 10 (by decide) rfl rfl nf_X9_78 dX9_write_31 ?_
      refine J_iload_n h (i := 1) dX9_write_34 rfl 1 rfl ?_
      refine N_iast h (ws' := [(q0, .inr (9, [.int ro, .int co, .int sl, .ref q3, .ref q4, .int sn, .ref q6, .ref q7, .ref q8, .ref q9, .int (nI tn), .int ra, .int rr, .int rw, .ref q14, .ref q15, .int rn, .ref q17, .ref q18, .ref q19, .int um, .int bs, .int bh, .ref q23, .ref q24, .ref q25, .int km])), (q9, .inl (cI, 200, .inl (upd (nA lx) tn (nI j))))]) 1 rfl (by decide) (by omega) dX9_write_35 rfl ?_
      refine J_eqw (ws' := [(q0, .inr (9, [.int ro, .int co, .int sl, .ref q3, .ref q4, .int sn, .ref q6, .ref q7, .ref q8, .ref q9, .int (nI tn), .int ra, .int rr, .int rw, .ref q14, .ref q15, .int rn, .ref q17, .ref q18, .ref q19, .int um, .int bs, .int bh, .ref q23, .ref q24, .ref q25, .int km])), (q9, .inl (cI, 200, .inl (nA (va_up lx tn j))))]) (by rw [upd_nA]) ?_
      refine J_aload_n h (i := 0) dX9_write_36 rfl 0 rfl ?_
      refine J_dup h dX9_write_37 rfl ?_
      refine J_get h inX9 rfl 0 10 (by decide) rfl rfl nf_X9_78 dX9_write_38 ?_
      refine J_iconst h (v := nI 1) dX9_write_41 (by decide) ?_
      refine N_iadd h dX9_write_42 ?_
      refine J_put h (ws' := [(q0, .inr (9, [.int ro, .int co, .int sl, .ref q3, .ref q4, .int sn, .ref q6, .ref q7, .ref q8, .ref q9, .int (nI (tn + 1)), .int ra, .int rr, .int rw, .ref q14, .ref q15, .int rn, .ref q17, .ref q18, .ref q19, .int um, .int bs, .int bh, .ref q23, .ref q24, .ref q25, .int km])), (q9, .inl (cI, 200, .inl (nA (va_up lx tn j))))]) inX9 tyX9 tyX9_ok nmX9 rfl 0 10 (by decide) rfl nf_X9_78 rfl rfl rfl rfl (Nat.le_of_ble_eq_true rfl) dX9_write_43 rfl ?_
      refine J_aload_n h (i := 0) dX9_write_46 rfl 0 rfl ?_
      refine J_get h inX9 rfl 0 10 (by decide) rfl rfl nf_X9_78 dX9_write_47 ?_
      exact hR (nI (tn + 1)) (va_up lx tn j, tn + 1) (by exact Or.inl ⟨rfl, by omega, by omega, by rw [show ton (nI j) = j from nI_clamp (by omega)], rfl, trivial⟩) 50 _ dX9_write_50
    · skip
      refine J_bipush h (v := (-3)) dX9_write_23 (by decide) ?_
      exact hR ((-3)) (lx, tn) (by exact Or.inr (Or.inl ⟨rfl, by omega, by omega, rfl, rfl, trivial⟩)) 25 _ dX9_write_25
  · obtain ⟨rfl, f0_5, -⟩ := p_5
    show J X 2 0 0 8 [(0, .ref q0), (1, .int p0)] [.int (nI 0)] [(q0, .inr (9, [.int ro, .int co, .int sl, .ref q3, .ref q4, .int sn, .ref q6, .ref q7, .ref q8, .ref q9, .int (nI tn), .int ra, .int rr, .int rw, .ref q14, .ref q15, .int rn, .ref q17, .ref q18, .ref q19, .int um, .int bs, .int bh, .ref q23, .ref q24, .ref q25, .int km])), (q9, .inl (cI, 200, .inl (nA lx)))]
    refine J_if_ne h 13 dX9_write_8 (by decide) (fun z => absurd z (by decide)) (fun _ => ?_)
    refine J_iconst h (v := (-1)) dX9_write_11 (by decide) ?_
    exact hR ((-1)) (lx, tn) (by exact Or.inr (Or.inr ⟨rfl, by omega, rfl, rfl, trivial⟩)) 12 _ dX9_write_12
theorem c_X9_write (l : Launch) (D : va_G) (cI cE : ClassId) (q0 : Nat) (q3 : Nat) (q4 : Nat) (q6 : Nat) (q7 : Nat) (q8 : Nat) (q9 : Nat) (q14 : Nat) (q15 : Nat) (q17 : Nat) (q18 : Nat) (q19 : Nat) (q23 : Nat) (q24 : Nat) (q25 : Nat) (ro : Int32) (co : Int32) (sl : Int32) (sn : Int32) (tn : Nat) (ra : Int32) (rr : Int32) (rw : Int32) (rn : Int32) (um : Int32) (bs : Int32) (bh : Int32) (km : Int32) (lx : Nat → Nat) (p0 : Int32) (htn : tn ≤ 200) : Ci l D cI cE yX9_write cX9_write 2 (some .int) 1 0 0 [.ref q0, .int p0] [(q0, .inr (9, [.int ro, .int co, .int sl, .ref q3, .ref q4, .int sn, .ref q6, .ref q7, .ref q8, .ref q9, .int (nI tn), .int ra, .int rr, .int rw, .ref q14, .ref q15, .int rn, .ref q17, .ref q18, .ref q19, .int um, .int bs, .int bh, .ref q23, .ref q24, .ref q25, .int km])), (q9, .inl (cI, 200, .inl (nA lx)))] (fun (r : Int32) (u : (Nat → Nat) × (Nat)) => ((nI (tn + 1) = r) ∧ (32 ≤ p0.toInt ∧ p0.toInt ≤ 126) ∧ (tn < 200) ∧ ((va_up lx tn (ton p0)) = u.1) ∧ ((tn + 1) = u.2) ∧ (True)) ∨ (((-3) = r) ∧ (32 ≤ p0.toInt ∧ p0.toInt ≤ 126) ∧ (tn = 200) ∧ ((lx) = u.1) ∧ ((tn) = u.2) ∧ (True)) ∨ (((-1) = r) ∧ (¬ (32 ≤ p0.toInt ∧ p0.toInt ≤ 126)) ∧ ((lx) = u.1) ∧ ((tn) = u.2) ∧ (True))) (fun (u : (Nat → Nat) × (Nat)) => ([(q0, .inr (9, [.int ro, .int co, .int sl, .ref q3, .ref q4, .int sn, .ref q6, .ref q7, .ref q8, .ref q9, .int (nI u.2), .int ra, .int rr, .int rw, .ref q14, .ref q15, .int rn, .ref q17, .ref q18, .ref q19, .int um, .int bs, .int bh, .ref q23, .ref q24, .ref q25, .int km])), (q9, .inl (cI, 200, .inl (nA u.1)))] : va_W)) :=
  Ci.of (by decide) (Nat.le_of_ble_eq_true rfl) (fun _ _ _ => rfl) (fun X h hR => w_X9_write X h q0 q3 q4 q6 q7 q8 q9 q14 q15 q17 q18 q19 q23 q24 q25 ro co sl sn tn ra rr rw rn um bs bh km lx p0 htn hR)
theorem yv_X9_write : YV yX9_write cX9_write 2 (some .int) 1 := ⟨no_X9_write, nv_X9_write, ni_X9, nk_X9_write, by decide +kernel⟩
set_option maxRecDepth 100000 in
set_option maxHeartbeats 4000000 in
theorem w_X9_wipe (X : Cx) {cI cE : ClassId} (h : Ok X cX9_wipe RX9 2 cI cE 0 0 0) (q0 : Nat) (q3 : Nat) (q4 : Nat) (q6 : Nat) (q7 : Nat) (q8 : Nat) (q9 : Nat) (q14 : Nat) (q15 : Nat) (q17 : Nat) (q18 : Nat) (q19 : Nat) (q23 : Nat) (q24 : Nat) (q25 : Nat) (ro : Int32) (co : Int32) (sl : Int32) (sn : Int32) (tn : Nat) (ra : Int32) (rr : Int32) (rw : Int32) (rn : Int32) (um : Int32) (bs : Int32) (bh : Int32) (km : Int32)  (hR : ∀ (r : Int32) (u : Unit), ((nI tn = r) ∧ (True)) → RetI X cX9_wipe 2 0 0 r [(q0, .inr (9, [.int ro, .int co, .int sl, .ref q3, .ref q4, .int sn, .ref q6, .ref q7, .ref q8, .ref q9, .int (nI 0), .int ra, .int rr, .int rw, .ref q14, .ref q15, .int rn, .ref q17, .ref q18, .ref q19, .int um, .int bs, .int bh, .ref q23, .ref q24, .ref q25, .int km]))]) : J X 2 0 0 0 [(0, .ref q0)] [] [(q0, .inr (9, [.int ro, .int co, .int sl, .ref q3, .ref q4, .int sn, .ref q6, .ref q7, .ref q8, .ref q9, .int (nI tn), .int ra, .int rr, .int rw, .ref q14, .ref q15, .int rn, .ref q17, .ref q18, .ref q19, .int um, .int bs, .int bh, .ref q23, .ref q24, .ref q25, .int km]))] := by
  refine J_aload_n h (i := 0) dX9_wipe_0 rfl 0 rfl ?_
  refine J_get h inX9 rfl 0 10 (by decide) rfl rfl nf_X9_78 dX9_wipe_1 ?_
  refine J_istore_n h (i := 1) (lv' := [(1, .int (nI tn)), (0, .ref q0)]) dX9_wipe_4 rfl (by decide) rfl ?_
  refine J_aload_n h (i := 0) dX9_wipe_5 rfl 1 rfl ?_
  refine J_iconst h (v := nI 0) dX9_wipe_6 (by decide) ?_
  refine J_put h (ws' := [(q0, .inr (9, [.int ro, .int co, .int sl, .ref q3, .ref q4, .int sn, .ref q6, .ref q7, .ref q8, .ref q9, .int (nI 0), .int ra, .int rr, .int rw, .ref q14, .ref q15, .int rn, .ref q17, .ref q18, .ref q19, .int um, .int bs, .int bh, .ref q23, .ref q24, .ref q25, .int km]))]) inX9 tyX9 tyX9_ok nmX9 rfl 0 10 (by decide) rfl nf_X9_78 rfl rfl rfl rfl (Nat.le_of_ble_eq_true rfl) dX9_wipe_7 rfl ?_
  refine J_iload_n h (i := 1) dX9_wipe_10 rfl 0 rfl ?_
  exact hR (nI tn) () (⟨rfl, trivial⟩) 11 _ dX9_wipe_11
theorem c_X9_wipe (l : Launch) (D : va_G) (cI cE : ClassId) (q0 : Nat) (q3 : Nat) (q4 : Nat) (q6 : Nat) (q7 : Nat) (q8 : Nat) (q9 : Nat) (q14 : Nat) (q15 : Nat) (q17 : Nat) (q18 : Nat) (q19 : Nat) (q23 : Nat) (q24 : Nat) (q25 : Nat) (ro : Int32) (co : Int32) (sl : Int32) (sn : Int32) (tn : Nat) (ra : Int32) (rr : Int32) (rw : Int32) (rn : Int32) (um : Int32) (bs : Int32) (bh : Int32) (km : Int32)  : Ci l D cI cE yX9_wipe cX9_wipe 2 (some .int) 0 0 0 [.ref q0] [(q0, .inr (9, [.int ro, .int co, .int sl, .ref q3, .ref q4, .int sn, .ref q6, .ref q7, .ref q8, .ref q9, .int (nI tn), .int ra, .int rr, .int rw, .ref q14, .ref q15, .int rn, .ref q17, .ref q18, .ref q19, .int um, .int bs, .int bh, .ref q23, .ref q24, .ref q25, .int km]))] (fun (r : Int32) (u : Unit) => ((nI tn = r) ∧ (True))) (fun (u : Unit) => ([(q0, .inr (9, [.int ro, .int co, .int sl, .ref q3, .ref q4, .int sn, .ref q6, .ref q7, .ref q8, .ref q9, .int (nI 0), .int ra, .int rr, .int rw, .ref q14, .ref q15, .int rn, .ref q17, .ref q18, .ref q19, .int um, .int bs, .int bh, .ref q23, .ref q24, .ref q25, .int km]))] : va_W)) :=
  Ci.of (by decide) (Nat.le_of_ble_eq_true rfl) (fun _ _ _ => rfl) (fun X h hR => w_X9_wipe X h q0 q3 q4 q6 q7 q8 q9 q14 q15 q17 q18 q19 q23 q24 q25 ro co sl sn tn ra rr rw rn um bs bh km hR)
theorem yv_X9_wipe : YV yX9_wipe cX9_wipe 2 (some .int) 0 := ⟨no_X9_wipe, nv_X9_wipe, ni_X9, nk_X9_wipe, by decide +kernel⟩
set_option maxRecDepth 100000 in
set_option maxHeartbeats 4000000 in
theorem w_X9_slower (X : Cx) {cI cE : ClassId} (h : Ok X cX9_slower RX9 3 cI cE 0 0 0) (p0 : Int32) (p1 : Nat) (h0 : 0 ≤ p0.toInt ∧ p0.toInt ≤ 3) (hp1 : p1 ≤ 20) (hR : ∀ (r : Int32) (u : Unit), ((nI (spd p0 p1) = r) ∧ (True)) → RetI X cX9_slower 3 0 0 r []) : J X 3 0 0 0 [(0, .int p0), (1, .int (nI p1))] [] [] := by
  refine J_iload_n h (i := 0) dX9_slower_0 rfl 0 rfl ?_
  refine J_iconst h (v := nI 1) dX9_slower_1 (by decide) ?_
  refine T_icmp_ne h (A := (p0).toInt) (B := 1) 11 dX9_slower_2 (by decide) (rfl) (nI_toInt (by omega)) (fun c_2 => ?_) (fun c_2 => ?_)
  · skip
    refine J_iload_n h (i := 0) dX9_slower_11 rfl 0 rfl ?_
    refine J_iconst h (v := nI 2) dX9_slower_12 (by decide) ?_
    refine T_icmp_ne h (A := (p0).toInt) (B := 2) 22 dX9_slower_13 (by decide) (rfl) (nI_toInt (by omega)) (fun c_13 => ?_) (fun c_13 => ?_)
    · skip
      refine J_iload_n h (i := 1) dX9_slower_22 rfl 1 rfl ?_
      refine J_iconst h (v := nI 2) dX9_slower_23 (by decide) ?_
      refine J_isub h dX9_slower_24 ?_
      refine J_istore_n h (i := 2) (lv' := [(2, .int ((nI p1) - (nI 2))), (0, .int p0), (1, .int (nI p1))]) dX9_slower_25 rfl (by decide) rfl ?_
      refine J_iload_n h (i := 2) dX9_slower_26 rfl 0 rfl ?_
      refine T_if_ge h (A := ((p1 : Nat) : Int) - ((2 : Nat) : Int)) 34 dX9_slower_27 (by decide) (pk_sub_toInt (by omega) (by omega)) (fun c_27 => ?_) (fun c_27 => ?_)
      · skip
        refine J_eql (lv' := [(2, .int (nI (p1 - 2))), (0, .int p0), (1, .int (nI p1))]) (by rw [show nI p1 - nI 2 = nI (p1 - 2) from pk_sub (by omega)]) ?_
        refine J_iload_n h (i := 2) dX9_slower_34 rfl 0 rfl ?_
        refine J_bipush h (v := nI 20) dX9_slower_35 (by decide) ?_
        refine N_icmp_le h 45 dX9_slower_37 (by decide) (by omega) (by omega) (fun c_37 => ?_) (fun c_37 => ?_)
        · skip
          refine J_iload_n h (i := 0) dX9_slower_45 rfl 1 rfl ?_
          refine J_iconst h (v := nI 3) dX9_slower_46 (by decide) ?_
          refine T_icmp_ne h (A := (p0).toInt) (B := 3) 56 dX9_slower_47 (by decide) (rfl) (nI_toInt (by omega)) (fun c_47 => ?_) (fun c_47 => ?_)
          · skip
            refine J_iload_n h (i := 2) dX9_slower_56 rfl 0 rfl ?_
            exact hR (nI (p1 - 2)) () (⟨(by refine congrArg nI ?_; rw [spd_0 h0.1 h0.2]; (repeat' split) <;> omega), trivial⟩) 57 _ dX9_slower_57
          · skip
            refine J_iload_n h (i := 2) dX9_slower_50 rfl 0 rfl ?_
            refine J_iconst h (v := nI 2) dX9_slower_51 (by decide) ?_
            refine N_idiv h (by omega) (by omega) (by omega) dX9_slower_52 ?_
            refine J_goto h 57 dX9_slower_53 (by decide) ?_
            exact hR (nI ((p1 - 2) / 2)) () (⟨(by refine congrArg nI ?_; rw [spd_0 h0.1 h0.2]; (repeat' split) <;> omega), trivial⟩) 57 _ dX9_slower_57
        · skip
          refine J_bipush h (v := nI 20) dX9_slower_40 (by decide) ?_
          refine J_goto h 57 dX9_slower_42 (by decide) ?_
          exact hR (nI 20) () (⟨(by refine congrArg nI ?_; rw [spd_0 h0.1 h0.2]; (repeat' split) <;> omega), trivial⟩) 57 _ dX9_slower_57
      · skip
        refine J_iconst h (v := nI 0) dX9_slower_30 (by decide) ?_
        refine J_goto h 57 dX9_slower_31 (by decide) ?_
        exact hR (nI 0) () (⟨(by refine congrArg nI ?_; rw [spd_0 h0.1 h0.2]; (repeat' split) <;> omega), trivial⟩) 57 _ dX9_slower_57
    · skip
      refine J_iload_n h (i := 1) dX9_slower_16 rfl 1 rfl ?_
      refine J_iconst h (v := nI 5) dX9_slower_17 (by decide) ?_
      refine J_isub h dX9_slower_18 ?_
      refine J_goto h 25 dX9_slower_19 (by decide) ?_
      refine J_istore_n h (i := 2) (lv' := [(2, .int ((nI p1) - (nI 5))), (0, .int p0), (1, .int (nI p1))]) dX9_slower_25 rfl (by decide) rfl ?_
      refine J_iload_n h (i := 2) dX9_slower_26 rfl 0 rfl ?_
      refine T_if_ge h (A := ((p1 : Nat) : Int) - ((5 : Nat) : Int)) 34 dX9_slower_27 (by decide) (pk_sub_toInt (by omega) (by omega)) (fun c_27 => ?_) (fun c_27 => ?_)
      · skip
        refine J_eql (lv' := [(2, .int (nI (p1 - 5))), (0, .int p0), (1, .int (nI p1))]) (by rw [show nI p1 - nI 5 = nI (p1 - 5) from pk_sub (by omega)]) ?_
        refine J_iload_n h (i := 2) dX9_slower_34 rfl 0 rfl ?_
        refine J_bipush h (v := nI 20) dX9_slower_35 (by decide) ?_
        refine N_icmp_le h 45 dX9_slower_37 (by decide) (by omega) (by omega) (fun c_37 => ?_) (fun c_37 => ?_)
        · skip
          refine J_iload_n h (i := 0) dX9_slower_45 rfl 1 rfl ?_
          refine J_iconst h (v := nI 3) dX9_slower_46 (by decide) ?_
          refine T_icmp_ne h (A := (p0).toInt) (B := 3) 56 dX9_slower_47 (by decide) (rfl) (nI_toInt (by omega)) (fun c_47 => ?_) (fun c_47 => ?_)
          · skip
            refine J_iload_n h (i := 2) dX9_slower_56 rfl 0 rfl ?_
            exact hR (nI (p1 - 5)) () (⟨(by refine congrArg nI ?_; rw [spd_0 h0.1 h0.2]; (repeat' split) <;> omega), trivial⟩) 57 _ dX9_slower_57
          · skip
            refine J_iload_n h (i := 2) dX9_slower_50 rfl 0 rfl ?_
            refine J_iconst h (v := nI 2) dX9_slower_51 (by decide) ?_
            refine N_idiv h (by omega) (by omega) (by omega) dX9_slower_52 ?_
            refine J_goto h 57 dX9_slower_53 (by decide) ?_
            exact hR (nI ((p1 - 5) / 2)) () (⟨(by refine congrArg nI ?_; rw [spd_0 h0.1 h0.2]; (repeat' split) <;> omega), trivial⟩) 57 _ dX9_slower_57
        · skip
          refine J_bipush h (v := nI 20) dX9_slower_40 (by decide) ?_
          refine J_goto h 57 dX9_slower_42 (by decide) ?_
          exact hR (nI 20) () (⟨(by refine congrArg nI ?_; rw [spd_0 h0.1 h0.2]; (repeat' split) <;> omega), trivial⟩) 57 _ dX9_slower_57
      · skip
        refine J_iconst h (v := nI 0) dX9_slower_30 (by decide) ?_
        refine J_goto h 57 dX9_slower_31 (by decide) ?_
        exact hR (nI 0) () (⟨(by refine congrArg nI ?_; rw [spd_0 h0.1 h0.2]; (repeat' split) <;> omega), trivial⟩) 57 _ dX9_slower_57
  · skip
    refine J_iload_n h (i := 1) dX9_slower_5 rfl 1 rfl ?_
    refine J_iconst h (v := nI 1) dX9_slower_6 (by decide) ?_
    refine N_iadd h dX9_slower_7 ?_
    refine J_goto h 25 dX9_slower_8 (by decide) ?_
    refine J_istore_n h (i := 2) (lv' := [(2, .int (nI (p1 + 1))), (0, .int p0), (1, .int (nI p1))]) dX9_slower_25 rfl (by decide) rfl ?_
    refine J_iload_n h (i := 2) dX9_slower_26 rfl 0 rfl ?_
    refine N_if_ge h 34 dX9_slower_27 (by decide) (by omega) ?_
    refine J_iload_n h (i := 2) dX9_slower_34 rfl 0 rfl ?_
    refine J_bipush h (v := nI 20) dX9_slower_35 (by decide) ?_
    refine N_icmp_le h 45 dX9_slower_37 (by decide) (by omega) (by omega) (fun c_37 => ?_) (fun c_37 => ?_)
    · skip
      refine J_iload_n h (i := 0) dX9_slower_45 rfl 1 rfl ?_
      refine J_iconst h (v := nI 3) dX9_slower_46 (by decide) ?_
      refine T_icmp_ne h (A := (p0).toInt) (B := 3) 56 dX9_slower_47 (by decide) (rfl) (nI_toInt (by omega)) (fun c_47 => ?_) (fun c_47 => ?_)
      · skip
        refine J_iload_n h (i := 2) dX9_slower_56 rfl 0 rfl ?_
        exact hR (nI (p1 + 1)) () (⟨(by refine congrArg nI ?_; rw [spd_0 h0.1 h0.2]; (repeat' split) <;> omega), trivial⟩) 57 _ dX9_slower_57
      · skip
        refine J_iload_n h (i := 2) dX9_slower_50 rfl 0 rfl ?_
        refine J_iconst h (v := nI 2) dX9_slower_51 (by decide) ?_
        refine N_idiv h (by omega) (by omega) (by omega) dX9_slower_52 ?_
        refine J_goto h 57 dX9_slower_53 (by decide) ?_
        exact hR (nI ((p1 + 1) / 2)) () (⟨(by refine congrArg nI ?_; rw [spd_0 h0.1 h0.2]; (repeat' split) <;> omega), trivial⟩) 57 _ dX9_slower_57
    · skip
      refine J_bipush h (v := nI 20) dX9_slower_40 (by decide) ?_
      refine J_goto h 57 dX9_slower_42 (by decide) ?_
      exact hR (nI 20) () (⟨(by refine congrArg nI ?_; rw [spd_0 h0.1 h0.2]; (repeat' split) <;> omega), trivial⟩) 57 _ dX9_slower_57
theorem c_X9_slower (l : Launch) (D : va_G) (cI cE : ClassId) (p0 : Int32) (p1 : Nat) (h0 : 0 ≤ p0.toInt ∧ p0.toInt ≤ 3) (hp1 : p1 ≤ 20) : Ci l D cI cE yX9_slower cX9_slower 3 (some .int) 0 0 0 [.int p0, .int (nI p1)] [] (fun (r : Int32) (u : Unit) => ((nI (spd p0 p1) = r) ∧ (True))) (fun (u : Unit) => ([] : va_W)) :=
  Ci.of (by decide) (Nat.le_of_ble_eq_true rfl) (fun _ _ _ => rfl) (fun X h hR => w_X9_slower X h p0 p1 h0 hp1 hR)
theorem yv_X9_slower : YS yX9_slower cX9_slower 3 (some .int) 2 := ⟨ns_X9_slower, ni_X9, nk_X9_slower, by decide +kernel⟩
