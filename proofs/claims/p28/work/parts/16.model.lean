set_option maxRecDepth 100000 in
set_option maxHeartbeats 4000000 in
theorem w_X9_in (X : Cx) {cI cE : ClassId} (h : Ok X cX9_in RX9 3 cI cE 0 0 0) (p0 : Int32) (p1 : Int32) (p2 : Int32) (z : Int) (zl : Int) (zh : Int) (hz : p0.toInt = z) (hzl : p1.toInt = zl) (hzh : p2.toInt = zh) (hR : ∀ (r : Int32) (u : Unit), ((nI 1 = r) ∧ (zl ≤ z ∧ z ≤ zh) ∧ (True)) ∨ ((nI 0 = r) ∧ (¬ (zl ≤ z ∧ z ≤ zh)) ∧ (True)) → RetI X cX9_in 3 0 0 r []) : J X 3 0 0 0 [(0, .int p0), (1, .int p1), (2, .int p2)] [] [] := by
  refine J_iload_n h (i := 0) dX9_in_0 rfl 0 rfl ?_
  refine J_iload_n h (i := 1) dX9_in_1 rfl 1 rfl ?_
  refine T_icmp_lt h (A := z) (B := zl) 14 dX9_in_2 (by decide) (hz) (hzl) (fun c_2 => ?_) (fun c_2 => ?_)
  · skip
    refine J_iconst h (v := nI 0) dX9_in_14 (by decide) ?_
    exact hR (nI 0) () (Or.inr (⟨rfl, (by first | assumption | omega | rfl), trivial⟩)) 15 _ dX9_in_15
  · skip
    refine J_iload_n h (i := 0) dX9_in_5 rfl 0 rfl ?_
    refine J_iload_n h (i := 2) dX9_in_6 rfl 2 rfl ?_
    refine T_icmp_gt h (A := z) (B := zh) 14 dX9_in_7 (by decide) (hz) (hzh) (fun c_7 => ?_) (fun c_7 => ?_)
    · skip
      refine J_iconst h (v := nI 0) dX9_in_14 (by decide) ?_
      exact hR (nI 0) () (Or.inr (⟨rfl, (by first | assumption | omega | rfl), trivial⟩)) 15 _ dX9_in_15
    · skip
      refine J_iconst h (v := nI 1) dX9_in_10 (by decide) ?_
      refine J_goto h 15 dX9_in_11 (by decide) ?_
      exact hR (nI 1) () (Or.inl ⟨rfl, (by first | assumption | omega | rfl), trivial⟩) 15 _ dX9_in_15
theorem c_X9_in (l : Launch) (D : va_G) (cI cE : ClassId) (p0 : Int32) (p1 : Int32) (p2 : Int32) (z : Int) (zl : Int) (zh : Int) (hz : p0.toInt = z) (hzl : p1.toInt = zl) (hzh : p2.toInt = zh) : Ci l D cI cE yX9_in cX9_in 3 (some .boolean) 0 0 0 [.int p0, .int p1, .int p2] [] (fun (r : Int32) (u : Unit) => ((nI 1 = r) ∧ (zl ≤ z ∧ z ≤ zh) ∧ (True)) ∨ ((nI 0 = r) ∧ (¬ (zl ≤ z ∧ z ≤ zh)) ∧ (True))) (fun (u : Unit) => ([] : va_W)) :=
  Ci.of (by decide) (Nat.le_of_ble_eq_true rfl) (fun r u hp => by rcases hp with ⟨hp, _⟩ | ⟨hp, _⟩ <;> (rw [← hp]; rfl)) (fun X h hR => w_X9_in X h p0 p1 p2 z zl zh hz hzl hzh hR)
theorem yv_X9_in : YS yX9_in cX9_in 3 (some .boolean) 3 := ⟨ns_X9_in, ni_X9, nk_X9_in, by decide +kernel⟩
set_option maxRecDepth 100000 in
set_option maxHeartbeats 4000000 in
theorem w_X9_cells (X : Cx) {cI cE : ClassId} (h : Ok X cX9_cells RX9 1 cI cE 0 0 0) (q0 : Nat) (q3 : Nat) (q4 : Nat) (q6 : Nat) (q7 : Nat) (q8 : Nat) (q9 : Nat) (q14 : Nat) (q15 : Nat) (q17 : Nat) (q18 : Nat) (q19 : Nat) (q23 : Nat) (q24 : Nat) (q25 : Nat) (ro : Nat) (co : Nat) (sl : Int32) (sn : Int32) (ts : Int32) (ra : Int32) (rr : Int32) (rw : Int32) (rn : Int32) (um : Int32) (bs : Int32) (bh : Int32) (km : Int32)  (hR : ∀ (r : Int32) (u : Unit), ((nI (ro * co) = r) ∧ (True)) → RetI X cX9_cells 1 0 0 r [(q0, .inr (9, [.int (nI ro), .int (nI co), .int sl, .ref q3, .ref q4, .int sn, .ref q6, .ref q7, .ref q8, .ref q9, .int ts, .int ra, .int rr, .int rw, .ref q14, .ref q15, .int rn, .ref q17, .ref q18, .ref q19, .int um, .int bs, .int bh, .ref q23, .ref q24, .ref q25, .int km]))]) : J X 1 0 0 0 [(0, .ref q0)] [] [(q0, .inr (9, [.int (nI ro), .int (nI co), .int sl, .ref q3, .ref q4, .int sn, .ref q6, .ref q7, .ref q8, .ref q9, .int ts, .int ra, .int rr, .int rw, .ref q14, .ref q15, .int rn, .ref q17, .ref q18, .ref q19, .int um, .int bs, .int bh, .ref q23, .ref q24, .ref q25, .int km]))] := by
  refine J_aload_n h (i := 0) dX9_cells_0 rfl 0 rfl ?_
  refine J_get h inX9 rfl 0 0 (by decide) rfl rfl nf_X9_60 dX9_cells_1 ?_
  refine J_aload_n h (i := 0) dX9_cells_4 rfl 0 rfl ?_
  refine J_get h inX9 rfl 0 1 (by decide) rfl rfl nf_X9_52 dX9_cells_5 ?_
  refine N_imul h dX9_cells_8 ?_
  exact hR (nI (ro * co)) () (⟨rfl, trivial⟩) 9 _ dX9_cells_9
theorem c_X9_cells (l : Launch) (D : va_G) (cI cE : ClassId) (q0 : Nat) (q3 : Nat) (q4 : Nat) (q6 : Nat) (q7 : Nat) (q8 : Nat) (q9 : Nat) (q14 : Nat) (q15 : Nat) (q17 : Nat) (q18 : Nat) (q19 : Nat) (q23 : Nat) (q24 : Nat) (q25 : Nat) (ro : Nat) (co : Nat) (sl : Int32) (sn : Int32) (ts : Int32) (ra : Int32) (rr : Int32) (rw : Int32) (rn : Int32) (um : Int32) (bs : Int32) (bh : Int32) (km : Int32)  : Ci l D cI cE yX9_cells cX9_cells 1 (some .int) 0 0 0 [.ref q0] [(q0, .inr (9, [.int (nI ro), .int (nI co), .int sl, .ref q3, .ref q4, .int sn, .ref q6, .ref q7, .ref q8, .ref q9, .int ts, .int ra, .int rr, .int rw, .ref q14, .ref q15, .int rn, .ref q17, .ref q18, .ref q19, .int um, .int bs, .int bh, .ref q23, .ref q24, .ref q25, .int km]))] (fun (r : Int32) (u : Unit) => ((nI (ro * co) = r) ∧ (True))) (fun (u : Unit) => ([(q0, .inr (9, [.int (nI ro), .int (nI co), .int sl, .ref q3, .ref q4, .int sn, .ref q6, .ref q7, .ref q8, .ref q9, .int ts, .int ra, .int rr, .int rw, .ref q14, .ref q15, .int rn, .ref q17, .ref q18, .ref q19, .int um, .int bs, .int bh, .ref q23, .ref q24, .ref q25, .int km]))] : va_W)) :=
  Ci.of (by decide) (Nat.le_of_ble_eq_true rfl) (fun _ _ _ => rfl) (fun X h hR => w_X9_cells X h q0 q3 q4 q6 q7 q8 q9 q14 q15 q17 q18 q19 q23 q24 q25 ro co sl sn ts ra rr rw rn um bs bh km hR)
theorem yv_X9_cells : YV yX9_cells cX9_cells 1 (some .int) 0 := ⟨no_X9_cells, nv_X9_cells, ni_X9, nk_X9_cells, by decide +kernel⟩
set_option maxRecDepth 100000 in
set_option maxHeartbeats 4000000 in
theorem w_X9_isCellT (X : Cx) {cI cE : ClassId} (h : Ok X cX9_isCell RX9 2 cI cE 1 0 0) (q0 : Nat) (q3 : Nat) (q4 : Nat) (q6 : Nat) (q7 : Nat) (q8 : Nat) (q9 : Nat) (q14 : Nat) (q15 : Nat) (q17 : Nat) (q18 : Nat) (q19 : Nat) (q23 : Nat) (q24 : Nat) (q25 : Nat) (ro : Nat) (co : Nat) (sl : Int32) (sn : Int32) (ts : Int32) (ra : Int32) (rr : Int32) (rw : Int32) (rn : Int32) (um : Int32) (bs : Int32) (bh : Int32) (km : Int32) (p0 : Int32) (z : Int) (hrc : ro * co ≤ 48) (hz : p0.toInt = z) (hR : ∀ (r : Int32) (u : Unit), ((nI 1 = r) ∧ (0 ≤ z ∧ z < ((ro * co : Nat) : Int)) ∧ (True)) ∨ ((nI 0 = r) ∧ (¬ (0 ≤ z ∧ z < ((ro * co : Nat) : Int))) ∧ (True)) → RetI X cX9_isCell 2 0 0 r [(q0, .inr (9, [.int (nI ro), .int (nI co), .int sl, .ref q3, .ref q4, .int sn, .ref q6, .ref q7, .ref q8, .ref q9, .int ts, .int ra, .int rr, .int rw, .ref q14, .ref q15, .int rn, .ref q17, .ref q18, .ref q19, .int um, .int bs, .int bh, .ref q23, .ref q24, .ref q25, .int km]))]) : J X 2 0 0 0 [(0, .ref q0), (1, .int p0)] [] [(q0, .inr (9, [.int (nI ro), .int (nI co), .int sl, .ref q3, .ref q4, .int sn, .ref q6, .ref q7, .ref q8, .ref q9, .int ts, .int ra, .int rr, .int rw, .ref q14, .ref q15, .int rn, .ref q17, .ref q18, .ref q19, .int um, .int bs, .int bh, .ref q23, .ref q24, .ref q25, .int km]))] := by
  refine J_iload_n h (i := 1) dX9_isCell_0 rfl 1 rfl ?_
  refine J_iconst h (v := nI 0) dX9_isCell_1 (by decide) ?_
  refine J_aload_n h (i := 0) dX9_isCell_2 rfl 0 rfl ?_
  refine K_vi h (wr := []) (c_X9_cells (xl X) (xD X) cI cE q0 q3 q4 q6 q7 q8 q9 q14 q15 q17 q18 q19 q23 q24 q25 ro co sl sn ts ra rr rw rn um bs bh km ) yv_X9_cells nm_X9_63 (by decide) (by decide) rfl rfl 0 rfl rfl rfl rfl (Nat.le_of_ble_eq_true rfl) (Nat.le_refl _) (Nat.le_refl _) dX9_isCell_3 (fun r_3 u_3 p_3 => ?_)
  obtain ⟨rfl, -⟩ := p_3
  show J X 2 0 0 6 [(0, .ref q0), (1, .int p0)] [.int (nI (ro * co)), .int (nI 0), .int p0] [(q0, .inr (9, [.int (nI ro), .int (nI co), .int sl, .ref q3, .ref q4, .int sn, .ref q6, .ref q7, .ref q8, .ref q9, .int ts, .int ra, .int rr, .int rw, .ref q14, .ref q15, .int rn, .ref q17, .ref q18, .ref q19, .int um, .int bs, .int bh, .ref q23, .ref q24, .ref q25, .int km]))]
  refine J_iconst h (v := nI 1) dX9_isCell_6 (by decide) ?_
  refine J_isub h dX9_isCell_7 ?_
  refine K_si h (wr := [(q0, .inr (9, [.int (nI ro), .int (nI co), .int sl, .ref q3, .ref q4, .int sn, .ref q6, .ref q7, .ref q8, .ref q9, .int ts, .int ra, .int rr, .int rw, .ref q14, .ref q15, .int rn, .ref q17, .ref q18, .ref q19, .int um, .int bs, .int bh, .ref q23, .ref q24, .ref q25, .int km]))]) (c_X9_in (xl X) (xD X) cI cE p0 (nI 0) ((nI (ro * co)) - (nI 1)) ((p0).toInt) 0 (((ro * co : Nat) : Int) - ((1 : Nat) : Int)) (by exact rfl) (by exact nI_toInt (by omega)) (by exact pk_sub_toInt (by omega) (by omega))) yv_X9_in nm_X9_67 (by decide) (by decide) rfl rfl rfl (Nat.le_of_ble_eq_true rfl) (Nat.le_refl _) (Nat.le_refl _) dX9_isCell_8 (fun r_8 u_8 p_8 => ?_)
  rcases p_8 with p_8 | p_8
  · obtain ⟨rfl, f0_8, -⟩ := p_8
    show J X 2 0 0 11 [(0, .ref q0), (1, .int p0)] [.int (nI 1)] [(q0, .inr (9, [.int (nI ro), .int (nI co), .int sl, .ref q3, .ref q4, .int sn, .ref q6, .ref q7, .ref q8, .ref q9, .int ts, .int ra, .int rr, .int rw, .ref q14, .ref q15, .int rn, .ref q17, .ref q18, .ref q19, .int um, .int bs, .int bh, .ref q23, .ref q24, .ref q25, .int km]))]
    exact hR (nI 1) () (by first | exact Or.inl ⟨rfl, by omega, trivial⟩ | exact Or.inr ⟨rfl, by omega, trivial⟩) 11 _ dX9_isCell_11
  · obtain ⟨rfl, f0_8, -⟩ := p_8
    show J X 2 0 0 11 [(0, .ref q0), (1, .int p0)] [.int (nI 0)] [(q0, .inr (9, [.int (nI ro), .int (nI co), .int sl, .ref q3, .ref q4, .int sn, .ref q6, .ref q7, .ref q8, .ref q9, .int ts, .int ra, .int rr, .int rw, .ref q14, .ref q15, .int rn, .ref q17, .ref q18, .ref q19, .int um, .int bs, .int bh, .ref q23, .ref q24, .ref q25, .int km]))]
    exact hR (nI 0) () (by first | exact Or.inl ⟨rfl, by omega, trivial⟩ | exact Or.inr ⟨rfl, by omega, trivial⟩) 11 _ dX9_isCell_11
theorem c_X9_isCellT (l : Launch) (D : va_G) (cI cE : ClassId) (q0 : Nat) (q3 : Nat) (q4 : Nat) (q6 : Nat) (q7 : Nat) (q8 : Nat) (q9 : Nat) (q14 : Nat) (q15 : Nat) (q17 : Nat) (q18 : Nat) (q19 : Nat) (q23 : Nat) (q24 : Nat) (q25 : Nat) (ro : Nat) (co : Nat) (sl : Int32) (sn : Int32) (ts : Int32) (ra : Int32) (rr : Int32) (rw : Int32) (rn : Int32) (um : Int32) (bs : Int32) (bh : Int32) (km : Int32) (p0 : Int32) (z : Int) (hrc : ro * co ≤ 48) (hz : p0.toInt = z) : Ci l D cI cE yX9_isCell cX9_isCell 2 (some .boolean) 1 0 0 [.ref q0, .int p0] [(q0, .inr (9, [.int (nI ro), .int (nI co), .int sl, .ref q3, .ref q4, .int sn, .ref q6, .ref q7, .ref q8, .ref q9, .int ts, .int ra, .int rr, .int rw, .ref q14, .ref q15, .int rn, .ref q17, .ref q18, .ref q19, .int um, .int bs, .int bh, .ref q23, .ref q24, .ref q25, .int km]))] (fun (r : Int32) (u : Unit) => ((nI 1 = r) ∧ (0 ≤ z ∧ z < ((ro * co : Nat) : Int)) ∧ (True)) ∨ ((nI 0 = r) ∧ (¬ (0 ≤ z ∧ z < ((ro * co : Nat) : Int))) ∧ (True))) (fun (u : Unit) => ([(q0, .inr (9, [.int (nI ro), .int (nI co), .int sl, .ref q3, .ref q4, .int sn, .ref q6, .ref q7, .ref q8, .ref q9, .int ts, .int ra, .int rr, .int rw, .ref q14, .ref q15, .int rn, .ref q17, .ref q18, .ref q19, .int um, .int bs, .int bh, .ref q23, .ref q24, .ref q25, .int km]))] : va_W)) :=
  Ci.of (by decide) (Nat.le_of_ble_eq_true rfl) (fun r u hp => by rcases hp with ⟨hp, _⟩ | ⟨hp, _⟩ <;> (rw [← hp]; rfl)) (fun X h hR => w_X9_isCellT X h q0 q3 q4 q6 q7 q8 q9 q14 q15 q17 q18 q19 q23 q24 q25 ro co sl sn ts ra rr rw rn um bs bh km p0 z hrc hz hR)
theorem yv_X9_isCell : YV yX9_isCell cX9_isCell 2 (some .boolean) 1 := ⟨no_X9_isCell, nv_X9_isCell, ni_X9, nk_X9_isCell, by decide +kernel⟩
set_option maxRecDepth 100000 in
set_option maxHeartbeats 4000000 in
theorem w_X9_isCell (X : Cx) {cI cE : ClassId} (h : Ok X cX9_isCell RX9 2 cI cE 1 0 0) (q0 : Nat) (q3 : Nat) (q4 : Nat) (q6 : Nat) (q7 : Nat) (q8 : Nat) (q9 : Nat) (q14 : Nat) (q15 : Nat) (q17 : Nat) (q18 : Nat) (q19 : Nat) (q23 : Nat) (q24 : Nat) (q25 : Nat) (ro : Nat) (co : Nat) (sl : Int32) (sn : Int32) (ts : Int32) (ra : Int32) (rr : Int32) (rw : Int32) (rn : Int32) (um : Int32) (bs : Int32) (bh : Int32) (km : Int32) (p0 : Int32) (hrc : ro * co ≤ 48) (hR : ∀ (r : Int32) (u : Unit), (∃ (j : Nat), (nI 1 = r) ∧ (j < ro * co) ∧ (p0 = nI j) ∧ (True)) ∨ ((nI 0 = r) ∧ (¬ (0 ≤ p0.toInt ∧ p0.toInt < ((ro * co : Nat) : Int))) ∧ (True)) → RetI X cX9_isCell 2 0 0 r [(q0, .inr (9, [.int (nI ro), .int (nI co), .int sl, .ref q3, .ref q4, .int sn, .ref q6, .ref q7, .ref q8, .ref q9, .int ts, .int ra, .int rr, .int rw, .ref q14, .ref q15, .int rn, .ref q17, .ref q18, .ref q19, .int um, .int bs, .int bh, .ref q23, .ref q24, .ref q25, .int km]))]) : J X 2 0 0 0 [(0, .ref q0), (1, .int p0)] [] [(q0, .inr (9, [.int (nI ro), .int (nI co), .int sl, .ref q3, .ref q4, .int sn, .ref q6, .ref q7, .ref q8, .ref q9, .int ts, .int ra, .int rr, .int rw, .ref q14, .ref q15, .int rn, .ref q17, .ref q18, .ref q19, .int um, .int bs, .int bh, .ref q23, .ref q24, .ref q25, .int km]))] := by
  refine J_iload_n h (i := 1) dX9_isCell_0 rfl 1 rfl ?_
  refine J_iconst h (v := nI 0) dX9_isCell_1 (by decide) ?_
  refine J_aload_n h (i := 0) dX9_isCell_2 rfl 0 rfl ?_
  refine K_vi h (wr := []) (c_X9_cells (xl X) (xD X) cI cE q0 q3 q4 q6 q7 q8 q9 q14 q15 q17 q18 q19 q23 q24 q25 ro co sl sn ts ra rr rw rn um bs bh km ) yv_X9_cells nm_X9_63 (by decide) (by decide) rfl rfl 0 rfl rfl rfl rfl (Nat.le_of_ble_eq_true rfl) (Nat.le_refl _) (Nat.le_refl _) dX9_isCell_3 (fun r_3 u_3 p_3 => ?_)
  obtain ⟨rfl, -⟩ := p_3
  show J X 2 0 0 6 [(0, .ref q0), (1, .int p0)] [.int (nI (ro * co)), .int (nI 0), .int p0] [(q0, .inr (9, [.int (nI ro), .int (nI co), .int sl, .ref q3, .ref q4, .int sn, .ref q6, .ref q7, .ref q8, .ref q9, .int ts, .int ra, .int rr, .int rw, .ref q14, .ref q15, .int rn, .ref q17, .ref q18, .ref q19, .int um, .int bs, .int bh, .ref q23, .ref q24, .ref q25, .int km]))]
  refine J_iconst h (v := nI 1) dX9_isCell_6 (by decide) ?_
  refine J_isub h dX9_isCell_7 ?_
  refine K_si h (wr := [(q0, .inr (9, [.int (nI ro), .int (nI co), .int sl, .ref q3, .ref q4, .int sn, .ref q6, .ref q7, .ref q8, .ref q9, .int ts, .int ra, .int rr, .int rw, .ref q14, .ref q15, .int rn, .ref q17, .ref q18, .ref q19, .int um, .int bs, .int bh, .ref q23, .ref q24, .ref q25, .int km]))]) (c_X9_in (xl X) (xD X) cI cE p0 (nI 0) ((nI (ro * co)) - (nI 1)) ((p0).toInt) 0 (((ro * co : Nat) : Int) - ((1 : Nat) : Int)) (by exact rfl) (by exact nI_toInt (by omega)) (by exact pk_sub_toInt (by omega) (by omega))) yv_X9_in nm_X9_67 (by decide) (by decide) rfl rfl rfl (Nat.le_of_ble_eq_true rfl) (Nat.le_refl _) (Nat.le_refl _) dX9_isCell_8 (fun r_8 u_8 p_8 => ?_)
  rcases p_8 with p_8 | p_8
  · obtain ⟨rfl, f0_8, -⟩ := p_8
    show J X 2 0 0 11 [(0, .ref q0), (1, .int p0)] [.int (nI 1)] [(q0, .inr (9, [.int (nI ro), .int (nI co), .int sl, .ref q3, .ref q4, .int sn, .ref q6, .ref q7, .ref q8, .ref q9, .int ts, .int ra, .int rr, .int rw, .ref q14, .ref q15, .int rn, .ref q17, .ref q18, .ref q19, .int um, .int bs, .int bh, .ref q23, .ref q24, .ref q25, .int km]))]
    exact hR (nI 1) () (by first | (obtain ⟨j, h1, h2⟩ := toNI (x := p0) (n := ro * co) (by omega) (by omega); exact Or.inl ⟨j, rfl, h1, h2, trivial⟩) | exact Or.inr ⟨rfl, by omega, trivial⟩) 11 _ dX9_isCell_11
  · obtain ⟨rfl, f0_8, -⟩ := p_8
    show J X 2 0 0 11 [(0, .ref q0), (1, .int p0)] [.int (nI 0)] [(q0, .inr (9, [.int (nI ro), .int (nI co), .int sl, .ref q3, .ref q4, .int sn, .ref q6, .ref q7, .ref q8, .ref q9, .int ts, .int ra, .int rr, .int rw, .ref q14, .ref q15, .int rn, .ref q17, .ref q18, .ref q19, .int um, .int bs, .int bh, .ref q23, .ref q24, .ref q25, .int km]))]
    exact hR (nI 0) () (by first | (obtain ⟨j, h1, h2⟩ := toNI (x := p0) (n := ro * co) (by omega) (by omega); exact Or.inl ⟨j, rfl, h1, h2, trivial⟩) | exact Or.inr ⟨rfl, by omega, trivial⟩) 11 _ dX9_isCell_11
theorem c_X9_isCell (l : Launch) (D : va_G) (cI cE : ClassId) (q0 : Nat) (q3 : Nat) (q4 : Nat) (q6 : Nat) (q7 : Nat) (q8 : Nat) (q9 : Nat) (q14 : Nat) (q15 : Nat) (q17 : Nat) (q18 : Nat) (q19 : Nat) (q23 : Nat) (q24 : Nat) (q25 : Nat) (ro : Nat) (co : Nat) (sl : Int32) (sn : Int32) (ts : Int32) (ra : Int32) (rr : Int32) (rw : Int32) (rn : Int32) (um : Int32) (bs : Int32) (bh : Int32) (km : Int32) (p0 : Int32) (hrc : ro * co ≤ 48) : Ci l D cI cE yX9_isCell cX9_isCell 2 (some .boolean) 1 0 0 [.ref q0, .int p0] [(q0, .inr (9, [.int (nI ro), .int (nI co), .int sl, .ref q3, .ref q4, .int sn, .ref q6, .ref q7, .ref q8, .ref q9, .int ts, .int ra, .int rr, .int rw, .ref q14, .ref q15, .int rn, .ref q17, .ref q18, .ref q19, .int um, .int bs, .int bh, .ref q23, .ref q24, .ref q25, .int km]))] (fun (r : Int32) (u : Unit) => (∃ (j : Nat), (nI 1 = r) ∧ (j < ro * co) ∧ (p0 = nI j) ∧ (True)) ∨ ((nI 0 = r) ∧ (¬ (0 ≤ p0.toInt ∧ p0.toInt < ((ro * co : Nat) : Int))) ∧ (True))) (fun (u : Unit) => ([(q0, .inr (9, [.int (nI ro), .int (nI co), .int sl, .ref q3, .ref q4, .int sn, .ref q6, .ref q7, .ref q8, .ref q9, .int ts, .int ra, .int rr, .int rw, .ref q14, .ref q15, .int rn, .ref q17, .ref q18, .ref q19, .int um, .int bs, .int bh, .ref q23, .ref q24, .ref q25, .int km]))] : va_W)) :=
  Ci.of (by decide) (Nat.le_of_ble_eq_true rfl) (fun r u hp => by rcases hp with ⟨_, hp, _⟩ | ⟨hp, _⟩ <;> (rw [← hp]; rfl)) (fun X h hR => w_X9_isCell X h q0 q3 q4 q6 q7 q8 q9 q14 q15 q17 q18 q19 q23 q24 q25 ro co sl sn ts ra rr rw rn um bs bh km p0 hrc hR)
set_option maxRecDepth 100000 in
set_option maxHeartbeats 4000000 in
theorem w_X9_isColumnT (X : Cx) {cI cE : ClassId} (h : Ok X cX9_isColumn RX9 2 cI cE 1 0 0) (q0 : Nat) (q3 : Nat) (q4 : Nat) (q6 : Nat) (q7 : Nat) (q8 : Nat) (q9 : Nat) (q14 : Nat) (q15 : Nat) (q17 : Nat) (q18 : Nat) (q19 : Nat) (q23 : Nat) (q24 : Nat) (q25 : Nat) (ro : Nat) (co : Nat) (sl : Int32) (sn : Int32) (ts : Int32) (ra : Int32) (rr : Int32) (rw : Int32) (rn : Int32) (um : Int32) (bs : Int32) (bh : Int32) (km : Int32) (p0 : Int32) (z : Int) (hco : co ≤ 6) (hz : p0.toInt = z) (hR : ∀ (r : Int32) (u : Unit), ((nI 1 = r) ∧ (0 ≤ z ∧ z < ((co : Nat) : Int)) ∧ (True)) ∨ ((nI 0 = r) ∧ (¬ (0 ≤ z ∧ z < ((co : Nat) : Int))) ∧ (True)) → RetI X cX9_isColumn 2 0 0 r [(q0, .inr (9, [.int (nI ro), .int (nI co), .int sl, .ref q3, .ref q4, .int sn, .ref q6, .ref q7, .ref q8, .ref q9, .int ts, .int ra, .int rr, .int rw, .ref q14, .ref q15, .int rn, .ref q17, .ref q18, .ref q19, .int um, .int bs, .int bh, .ref q23, .ref q24, .ref q25, .int km]))]) : J X 2 0 0 0 [(0, .ref q0), (1, .int p0)] [] [(q0, .inr (9, [.int (nI ro), .int (nI co), .int sl, .ref q3, .ref q4, .int sn, .ref q6, .ref q7, .ref q8, .ref q9, .int ts, .int ra, .int rr, .int rw, .ref q14, .ref q15, .int rn, .ref q17, .ref q18, .ref q19, .int um, .int bs, .int bh, .ref q23, .ref q24, .ref q25, .int km]))] := by
  refine J_iload_n h (i := 1) dX9_isColumn_0 rfl 1 rfl ?_
  refine J_iconst h (v := nI 0) dX9_isColumn_1 (by decide) ?_
  refine J_aload_n h (i := 0) dX9_isColumn_2 rfl 0 rfl ?_
  refine J_get h inX9 rfl 0 1 (by decide) rfl rfl nf_X9_52 dX9_isColumn_3 ?_
  refine J_iconst h (v := nI 1) dX9_isColumn_6 (by decide) ?_
  refine J_isub h dX9_isColumn_7 ?_
  refine K_si h (wr := [(q0, .inr (9, [.int (nI ro), .int (nI co), .int sl, .ref q3, .ref q4, .int sn, .ref q6, .ref q7, .ref q8, .ref q9, .int ts, .int ra, .int rr, .int rw, .ref q14, .ref q15, .int rn, .ref q17, .ref q18, .ref q19, .int um, .int bs, .int bh, .ref q23, .ref q24, .ref q25, .int km]))]) (c_X9_in (xl X) (xD X) cI cE p0 (nI 0) ((nI co) - (nI 1)) ((p0).toInt) 0 (((co : Nat) : Int) - ((1 : Nat) : Int)) (by exact rfl) (by exact nI_toInt (by omega)) (by exact pk_sub_toInt (by omega) (by omega))) yv_X9_in nm_X9_67 (by decide) (by decide) rfl rfl rfl (Nat.le_of_ble_eq_true rfl) (Nat.le_refl _) (Nat.le_refl _) dX9_isColumn_8 (fun r_8 u_8 p_8 => ?_)
  rcases p_8 with p_8 | p_8
  · obtain ⟨rfl, f0_8, -⟩ := p_8
    show J X 2 0 0 11 [(0, .ref q0), (1, .int p0)] [.int (nI 1)] [(q0, .inr (9, [.int (nI ro), .int (nI co), .int sl, .ref q3, .ref q4, .int sn, .ref q6, .ref q7, .ref q8, .ref q9, .int ts, .int ra, .int rr, .int rw, .ref q14, .ref q15, .int rn, .ref q17, .ref q18, .ref q19, .int um, .int bs, .int bh, .ref q23, .ref q24, .ref q25, .int km]))]
    exact hR (nI 1) () (by first | exact Or.inl ⟨rfl, by omega, trivial⟩ | exact Or.inr ⟨rfl, by omega, trivial⟩) 11 _ dX9_isColumn_11
  · obtain ⟨rfl, f0_8, -⟩ := p_8
    show J X 2 0 0 11 [(0, .ref q0), (1, .int p0)] [.int (nI 0)] [(q0, .inr (9, [.int (nI ro), .int (nI co), .int sl, .ref q3, .ref q4, .int sn, .ref q6, .ref q7, .ref q8, .ref q9, .int ts, .int ra, .int rr, .int rw, .ref q14, .ref q15, .int rn, .ref q17, .ref q18, .ref q19, .int um, .int bs, .int bh, .ref q23, .ref q24, .ref q25, .int km]))]
    exact hR (nI 0) () (by first | exact Or.inl ⟨rfl, by omega, trivial⟩ | exact Or.inr ⟨rfl, by omega, trivial⟩) 11 _ dX9_isColumn_11
theorem c_X9_isColumnT (l : Launch) (D : va_G) (cI cE : ClassId) (q0 : Nat) (q3 : Nat) (q4 : Nat) (q6 : Nat) (q7 : Nat) (q8 : Nat) (q9 : Nat) (q14 : Nat) (q15 : Nat) (q17 : Nat) (q18 : Nat) (q19 : Nat) (q23 : Nat) (q24 : Nat) (q25 : Nat) (ro : Nat) (co : Nat) (sl : Int32) (sn : Int32) (ts : Int32) (ra : Int32) (rr : Int32) (rw : Int32) (rn : Int32) (um : Int32) (bs : Int32) (bh : Int32) (km : Int32) (p0 : Int32) (z : Int) (hco : co ≤ 6) (hz : p0.toInt = z) : Ci l D cI cE yX9_isColumn cX9_isColumn 2 (some .boolean) 1 0 0 [.ref q0, .int p0] [(q0, .inr (9, [.int (nI ro), .int (nI co), .int sl, .ref q3, .ref q4, .int sn, .ref q6, .ref q7, .ref q8, .ref q9, .int ts, .int ra, .int rr, .int rw, .ref q14, .ref q15, .int rn, .ref q17, .ref q18, .ref q19, .int um, .int bs, .int bh, .ref q23, .ref q24, .ref q25, .int km]))] (fun (r : Int32) (u : Unit) => ((nI 1 = r) ∧ (0 ≤ z ∧ z < ((co : Nat) : Int)) ∧ (True)) ∨ ((nI 0 = r) ∧ (¬ (0 ≤ z ∧ z < ((co : Nat) : Int))) ∧ (True))) (fun (u : Unit) => ([(q0, .inr (9, [.int (nI ro), .int (nI co), .int sl, .ref q3, .ref q4, .int sn, .ref q6, .ref q7, .ref q8, .ref q9, .int ts, .int ra, .int rr, .int rw, .ref q14, .ref q15, .int rn, .ref q17, .ref q18, .ref q19, .int um, .int bs, .int bh, .ref q23, .ref q24, .ref q25, .int km]))] : va_W)) :=
  Ci.of (by decide) (Nat.le_of_ble_eq_true rfl) (fun r u hp => by rcases hp with ⟨hp, _⟩ | ⟨hp, _⟩ <;> (rw [← hp]; rfl)) (fun X h hR => w_X9_isColumnT X h q0 q3 q4 q6 q7 q8 q9 q14 q15 q17 q18 q19 q23 q24 q25 ro co sl sn ts ra rr rw rn um bs bh km p0 z hco hz hR)
theorem yv_X9_isColumn : YV yX9_isColumn cX9_isColumn 2 (some .boolean) 1 := ⟨no_X9_isColumn, nv_X9_isColumn, ni_X9, nk_X9_isColumn, by decide +kernel⟩
set_option maxRecDepth 100000 in
set_option maxHeartbeats 4000000 in
theorem w_X9_isColumn (X : Cx) {cI cE : ClassId} (h : Ok X cX9_isColumn RX9 2 cI cE 1 0 0) (q0 : Nat) (q3 : Nat) (q4 : Nat) (q6 : Nat) (q7 : Nat) (q8 : Nat) (q9 : Nat) (q14 : Nat) (q15 : Nat) (q17 : Nat) (q18 : Nat) (q19 : Nat) (q23 : Nat) (q24 : Nat) (q25 : Nat) (ro : Nat) (co : Nat) (sl : Int32) (sn : Int32) (ts : Int32) (ra : Int32) (rr : Int32) (rw : Int32) (rn : Int32) (um : Int32) (bs : Int32) (bh : Int32) (km : Int32) (p0 : Int32) (hco : co ≤ 6) (hR : ∀ (r : Int32) (u : Unit), (∃ (j : Nat), (nI 1 = r) ∧ (j < co) ∧ (p0 = nI j) ∧ (True)) ∨ ((nI 0 = r) ∧ (¬ (0 ≤ p0.toInt ∧ p0.toInt < ((co : Nat) : Int))) ∧ (True)) → RetI X cX9_isColumn 2 0 0 r [(q0, .inr (9, [.int (nI ro), .int (nI co), .int sl, .ref q3, .ref q4, .int sn, .ref q6, .ref q7, .ref q8, .ref q9, .int ts, .int ra, .int rr, .int rw, .ref q14, .ref q15, .int rn, .ref q17, .ref q18, .ref q19, .int um, .int bs, .int bh, .ref q23, .ref q24, .ref q25, .int km]))]) : J X 2 0 0 0 [(0, .ref q0), (1, .int p0)] [] [(q0, .inr (9, [.int (nI ro), .int (nI co), .int sl, .ref q3, .ref q4, .int sn, .ref q6, .ref q7, .ref q8, .ref q9, .int ts, .int ra, .int rr, .int rw, .ref q14, .ref q15, .int rn, .ref q17, .ref q18, .ref q19, .int um, .int bs, .int bh, .ref q23, .ref q24, .ref q25, .int km]))] := by
  refine J_iload_n h (i := 1) dX9_isColumn_0 rfl 1 rfl ?_
  refine J_iconst h (v := nI 0) dX9_isColumn_1 (by decide) ?_
  refine J_aload_n h (i := 0) dX9_isColumn_2 rfl 0 rfl ?_
  refine J_get h inX9 rfl 0 1 (by decide) rfl rfl nf_X9_52 dX9_isColumn_3 ?_
  refine J_iconst h (v := nI 1) dX9_isColumn_6 (by decide) ?_
  refine J_isub h dX9_isColumn_7 ?_
  refine K_si h (wr := [(q0, .inr (9, [.int (nI ro), .int (nI co), .int sl, .ref q3, .ref q4, .int sn, .ref q6, .ref q7, .ref q8, .ref q9, .int ts, .int ra, .int rr, .int rw, .ref q14, .ref q15, .int rn, .ref q17, .ref q18, .ref q19, .int um, .int bs, .int bh, .ref q23, .ref q24, .ref q25, .int km]))]) (c_X9_in (xl X) (xD X) cI cE p0 (nI 0) ((nI co) - (nI 1)) ((p0).toInt) 0 (((co : Nat) : Int) - ((1 : Nat) : Int)) (by exact rfl) (by exact nI_toInt (by omega)) (by exact pk_sub_toInt (by omega) (by omega))) yv_X9_in nm_X9_67 (by decide) (by decide) rfl rfl rfl (Nat.le_of_ble_eq_true rfl) (Nat.le_refl _) (Nat.le_refl _) dX9_isColumn_8 (fun r_8 u_8 p_8 => ?_)
  rcases p_8 with p_8 | p_8
  · obtain ⟨rfl, f0_8, -⟩ := p_8
    show J X 2 0 0 11 [(0, .ref q0), (1, .int p0)] [.int (nI 1)] [(q0, .inr (9, [.int (nI ro), .int (nI co), .int sl, .ref q3, .ref q4, .int sn, .ref q6, .ref q7, .ref q8, .ref q9, .int ts, .int ra, .int rr, .int rw, .ref q14, .ref q15, .int rn, .ref q17, .ref q18, .ref q19, .int um, .int bs, .int bh, .ref q23, .ref q24, .ref q25, .int km]))]
    exact hR (nI 1) () (by first | (obtain ⟨j, h1, h2⟩ := toNI (x := p0) (n := co) (by omega) (by omega); exact Or.inl ⟨j, rfl, h1, h2, trivial⟩) | exact Or.inr ⟨rfl, by omega, trivial⟩) 11 _ dX9_isColumn_11
  · obtain ⟨rfl, f0_8, -⟩ := p_8
    show J X 2 0 0 11 [(0, .ref q0), (1, .int p0)] [.int (nI 0)] [(q0, .inr (9, [.int (nI ro), .int (nI co), .int sl, .ref q3, .ref q4, .int sn, .ref q6, .ref q7, .ref q8, .ref q9, .int ts, .int ra, .int rr, .int rw, .ref q14, .ref q15, .int rn, .ref q17, .ref q18, .ref q19, .int um, .int bs, .int bh, .ref q23, .ref q24, .ref q25, .int km]))]
    exact hR (nI 0) () (by first | (obtain ⟨j, h1, h2⟩ := toNI (x := p0) (n := co) (by omega) (by omega); exact Or.inl ⟨j, rfl, h1, h2, trivial⟩) | exact Or.inr ⟨rfl, by omega, trivial⟩) 11 _ dX9_isColumn_11
theorem c_X9_isColumn (l : Launch) (D : va_G) (cI cE : ClassId) (q0 : Nat) (q3 : Nat) (q4 : Nat) (q6 : Nat) (q7 : Nat) (q8 : Nat) (q9 : Nat) (q14 : Nat) (q15 : Nat) (q17 : Nat) (q18 : Nat) (q19 : Nat) (q23 : Nat) (q24 : Nat) (q25 : Nat) (ro : Nat) (co : Nat) (sl : Int32) (sn : Int32) (ts : Int32) (ra : Int32) (rr : Int32) (rw : Int32) (rn : Int32) (um : Int32) (bs : Int32) (bh : Int32) (km : Int32) (p0 : Int32) (hco : co ≤ 6) : Ci l D cI cE yX9_isColumn cX9_isColumn 2 (some .boolean) 1 0 0 [.ref q0, .int p0] [(q0, .inr (9, [.int (nI ro), .int (nI co), .int sl, .ref q3, .ref q4, .int sn, .ref q6, .ref q7, .ref q8, .ref q9, .int ts, .int ra, .int rr, .int rw, .ref q14, .ref q15, .int rn, .ref q17, .ref q18, .ref q19, .int um, .int bs, .int bh, .ref q23, .ref q24, .ref q25, .int km]))] (fun (r : Int32) (u : Unit) => (∃ (j : Nat), (nI 1 = r) ∧ (j < co) ∧ (p0 = nI j) ∧ (True)) ∨ ((nI 0 = r) ∧ (¬ (0 ≤ p0.toInt ∧ p0.toInt < ((co : Nat) : Int))) ∧ (True))) (fun (u : Unit) => ([(q0, .inr (9, [.int (nI ro), .int (nI co), .int sl, .ref q3, .ref q4, .int sn, .ref q6, .ref q7, .ref q8, .ref q9, .int ts, .int ra, .int rr, .int rw, .ref q14, .ref q15, .int rn, .ref q17, .ref q18, .ref q19, .int um, .int bs, .int bh, .ref q23, .ref q24, .ref q25, .int km]))] : va_W)) :=
  Ci.of (by decide) (Nat.le_of_ble_eq_true rfl) (fun r u hp => by rcases hp with ⟨_, hp, _⟩ | ⟨hp, _⟩ <;> (rw [← hp]; rfl)) (fun X h hR => w_X9_isColumn X h q0 q3 q4 q6 q7 q8 q9 q14 q15 q17 q18 q19 q23 q24 q25 ro co sl sn ts ra rr rw rn um bs bh km p0 hco hR)
set_option maxRecDepth 100000 in
set_option maxHeartbeats 4000000 in
theorem w_X9_isSide (X : Cx) {cI cE : ClassId} (h : Ok X cX9_isSide RX9 1 cI cE 1 0 0) (p0 : Int32) (z : Int) (hz : p0.toInt = z) (hR : ∀ (r : Int32) (u : Unit), ((nI 1 = r) ∧ (0 ≤ z ∧ z < 4) ∧ (True)) ∨ ((nI 0 = r) ∧ (¬ (0 ≤ z ∧ z < 4)) ∧ (True)) → RetI X cX9_isSide 1 0 0 r []) : J X 1 0 0 0 [(0, .int p0)] [] [] := by
  refine J_iload_n h (i := 0) dX9_isSide_0 rfl 0 rfl ?_
  refine J_iconst h (v := nI 0) dX9_isSide_1 (by decide) ?_
  refine J_iconst h (v := nI 3) dX9_isSide_2 (by decide) ?_
  refine K_si h (wr := []) (c_X9_in (xl X) (xD X) cI cE p0 (nI 0) (nI 3) ((p0).toInt) 0 3 (by exact rfl) (by exact nI_toInt (by omega)) (by exact nI_toInt (by omega))) yv_X9_in nm_X9_67 (by decide) (by decide) rfl rfl rfl (Nat.le_of_ble_eq_true rfl) (Nat.le_refl _) (Nat.le_refl _) dX9_isSide_3 (fun r_3 u_3 p_3 => ?_)
  rcases p_3 with p_3 | p_3
  · obtain ⟨rfl, f0_3, -⟩ := p_3
    show J X 1 0 0 6 [(0, .int p0)] [.int (nI 1)] []
    exact hR (nI 1) () (by first | exact Or.inl ⟨rfl, by omega, trivial⟩ | exact Or.inr ⟨rfl, by omega, trivial⟩) 6 _ dX9_isSide_6
  · obtain ⟨rfl, f0_3, -⟩ := p_3
    show J X 1 0 0 6 [(0, .int p0)] [.int (nI 0)] []
    exact hR (nI 0) () (by first | exact Or.inl ⟨rfl, by omega, trivial⟩ | exact Or.inr ⟨rfl, by omega, trivial⟩) 6 _ dX9_isSide_6
theorem c_X9_isSide (l : Launch) (D : va_G) (cI cE : ClassId) (p0 : Int32) (z : Int) (hz : p0.toInt = z) : Ci l D cI cE yX9_isSide cX9_isSide 1 (some .boolean) 1 0 0 [.int p0] [] (fun (r : Int32) (u : Unit) => ((nI 1 = r) ∧ (0 ≤ z ∧ z < 4) ∧ (True)) ∨ ((nI 0 = r) ∧ (¬ (0 ≤ z ∧ z < 4)) ∧ (True))) (fun (u : Unit) => ([] : va_W)) :=
  Ci.of (by decide) (Nat.le_of_ble_eq_true rfl) (fun r u hp => by rcases hp with ⟨hp, _⟩ | ⟨hp, _⟩ <;> (rw [← hp]; rfl)) (fun X h hR => w_X9_isSide X h p0 z hz hR)
theorem yv_X9_isSide : YS yX9_isSide cX9_isSide 1 (some .boolean) 1 := ⟨ns_X9_isSide, ni_X9, nk_X9_isSide, by decide +kernel⟩
set_option maxRecDepth 100000 in
set_option maxHeartbeats 4000000 in
theorem w_X9_isHeels (X : Cx) {cI cE : ClassId} (h : Ok X cX9_isHeels RX9 1 cI cE 1 0 0) (p0 : Int32) (z : Int) (hz : p0.toInt = z) (hR : ∀ (r : Int32) (u : Unit), ((nI 1 = r) ∧ ((0 ≤ z ∧ z ≤ 8) ∨ (11 ≤ z ∧ z ≤ 18)) ∧ (True)) ∨ ((nI 0 = r) ∧ (¬ ((0 ≤ z ∧ z ≤ 8) ∨ (11 ≤ z ∧ z ≤ 18))) ∧ (True)) → RetI X cX9_isHeels 1 0 0 r []) : J X 1 0 0 0 [(0, .int p0)] [] [] := by
  refine J_iload_n h (i := 0) dX9_isHeels_0 rfl 0 rfl ?_
  refine J_iconst h (v := nI 0) dX9_isHeels_1 (by decide) ?_
  refine J_bipush h (v := nI 8) dX9_isHeels_2 (by decide) ?_
  refine K_si h (wr := []) (c_X9_in (xl X) (xD X) cI cE p0 (nI 0) (nI 8) ((p0).toInt) 0 8 (by exact rfl) (by exact nI_toInt (by omega)) (by exact nI_toInt (by omega))) yv_X9_in nm_X9_67 (by decide) (by decide) rfl rfl rfl (Nat.le_of_ble_eq_true rfl) (Nat.le_refl _) (Nat.le_refl _) dX9_isHeels_4 (fun r_4 u_4 p_4 => ?_)
  rcases p_4 with p_4 | p_4
  · obtain ⟨rfl, f0_4, -⟩ := p_4
    show J X 1 0 0 7 [(0, .int p0)] [.int (nI 1)] []
    refine J_if_ne h 21 dX9_isHeels_7 (by decide) (fun _ => ?_) (fun z => absurd z (by decide))
    refine J_iconst h (v := nI 1) dX9_isHeels_21 (by decide) ?_
    refine J_goto h 26 dX9_isHeels_22 (by decide) ?_
    exact hR (nI 1) () (by first | exact Or.inl ⟨rfl, by omega, trivial⟩ | exact Or.inr ⟨rfl, by omega, trivial⟩) 26 _ dX9_isHeels_26
  · obtain ⟨rfl, f0_4, -⟩ := p_4
    show J X 1 0 0 7 [(0, .int p0)] [.int (nI 0)] []
    refine J_if_ne h 21 dX9_isHeels_7 (by decide) (fun z => absurd z (by decide)) (fun _ => ?_)
    refine J_iload_n h (i := 0) dX9_isHeels_10 rfl 0 rfl ?_
    refine J_bipush h (v := nI 11) dX9_isHeels_11 (by decide) ?_
    refine J_bipush h (v := nI 18) dX9_isHeels_13 (by decide) ?_
    refine K_si h (wr := []) (c_X9_in (xl X) (xD X) cI cE p0 (nI 11) (nI 18) ((p0).toInt) 11 18 (by exact rfl) (by exact nI_toInt (by omega)) (by exact nI_toInt (by omega))) yv_X9_in nm_X9_67 (by decide) (by decide) rfl rfl rfl (Nat.le_of_ble_eq_true rfl) (Nat.le_refl _) (Nat.le_refl _) dX9_isHeels_15 (fun r_15 u_15 p_15 => ?_)
    rcases p_15 with p_15 | p_15
    · obtain ⟨rfl, f0_15, -⟩ := p_15
      show J X 1 0 0 18 [(0, .int p0)] [.int (nI 1)] []
      refine J_if_eq h 25 dX9_isHeels_18 (by decide) (fun z => absurd z (by decide)) (fun _ => ?_)
      refine J_iconst h (v := nI 1) dX9_isHeels_21 (by decide) ?_
      refine J_goto h 26 dX9_isHeels_22 (by decide) ?_
      exact hR (nI 1) () (by first | exact Or.inl ⟨rfl, by omega, trivial⟩ | exact Or.inr ⟨rfl, by omega, trivial⟩) 26 _ dX9_isHeels_26
    · obtain ⟨rfl, f0_15, -⟩ := p_15
      show J X 1 0 0 18 [(0, .int p0)] [.int (nI 0)] []
      refine J_if_eq h 25 dX9_isHeels_18 (by decide) (fun _ => ?_) (fun z => absurd z (by decide))
      refine J_iconst h (v := nI 0) dX9_isHeels_25 (by decide) ?_
      exact hR (nI 0) () (by first | exact Or.inl ⟨rfl, by omega, trivial⟩ | exact Or.inr ⟨rfl, by omega, trivial⟩) 26 _ dX9_isHeels_26
theorem c_X9_isHeels (l : Launch) (D : va_G) (cI cE : ClassId) (p0 : Int32) (z : Int) (hz : p0.toInt = z) : Ci l D cI cE yX9_isHeels cX9_isHeels 1 (some .boolean) 1 0 0 [.int p0] [] (fun (r : Int32) (u : Unit) => ((nI 1 = r) ∧ ((0 ≤ z ∧ z ≤ 8) ∨ (11 ≤ z ∧ z ≤ 18)) ∧ (True)) ∨ ((nI 0 = r) ∧ (¬ ((0 ≤ z ∧ z ≤ 8) ∨ (11 ≤ z ∧ z ≤ 18))) ∧ (True))) (fun (u : Unit) => ([] : va_W)) :=
  Ci.of (by decide) (Nat.le_of_ble_eq_true rfl) (fun r u hp => by rcases hp with ⟨hp, _⟩ | ⟨hp, _⟩ <;> (rw [← hp]; rfl)) (fun X h hR => w_X9_isHeels X h p0 z hz hR)
theorem yv_X9_isHeels : YS yX9_isHeels cX9_isHeels 1 (some .boolean) 1 := ⟨ns_X9_isHeels, ni_X9, nk_X9_isHeels, by decide +kernel⟩
set_option maxRecDepth 100000 in
set_option maxHeartbeats 4000000 in
theorem w_X9_isSlide (X : Cx) {cI cE : ClassId} (h : Ok X cX9_isSlide RX9 4 cI cE 2 0 0) (q0 : Nat) (q3 : Nat) (q4 : Nat) (q6 : Nat) (q7 : Nat) (q8 : Nat) (q9 : Nat) (q14 : Nat) (q15 : Nat) (q17 : Nat) (q18 : Nat) (q19 : Nat) (q23 : Nat) (q24 : Nat) (q25 : Nat) (ro : Nat) (co : Nat) (sl : Int32) (sn : Int32) (ts : Int32) (ra : Int32) (rr : Int32) (rw : Int32) (rn : Int32) (um : Int32) (bs : Int32) (bh : Int32) (km : Int32) (p0 : Int32) (p1 : Int32) (p2 : Int32) (hco : co ≤ 6) (hR : ∀ (r : Int32) (u : Unit), (∃ (jx : Nat) (jw : Nat) (jh : Nat), (nI 1 = r) ∧ (jx < co) ∧ (1 ≤ jw) ∧ (jw ≤ 20) ∧ (jh ≤ 18) ∧ (vRide co p0 p1 p2) ∧ (p0 = nI jx) ∧ (p1 = nI jw) ∧ (p2 = nI jh) ∧ (True)) ∨ ((nI 0 = r) ∧ (¬ vRide co p0 p1 p2) ∧ (True)) → RetI X cX9_isSlide 4 0 0 r [(q0, .inr (9, [.int (nI ro), .int (nI co), .int sl, .ref q3, .ref q4, .int sn, .ref q6, .ref q7, .ref q8, .ref q9, .int ts, .int ra, .int rr, .int rw, .ref q14, .ref q15, .int rn, .ref q17, .ref q18, .ref q19, .int um, .int bs, .int bh, .ref q23, .ref q24, .ref q25, .int km]))]) : J X 4 0 0 0 [(0, .ref q0), (1, .int p0), (2, .int p1), (3, .int p2)] [] [(q0, .inr (9, [.int (nI ro), .int (nI co), .int sl, .ref q3, .ref q4, .int sn, .ref q6, .ref q7, .ref q8, .ref q9, .int ts, .int ra, .int rr, .int rw, .ref q14, .ref q15, .int rn, .ref q17, .ref q18, .ref q19, .int um, .int bs, .int bh, .ref q23, .ref q24, .ref q25, .int km]))] := by
  refine J_aload_n h (i := 0) dX9_isSlide_0 rfl 0 rfl ?_
  refine J_iload_n h (i := 1) dX9_isSlide_1 rfl 1 rfl ?_
  refine K_vi h (wr := []) (c_X9_isColumnT (xl X) (xD X) cI cE q0 q3 q4 q6 q7 q8 q9 q14 q15 q17 q18 q19 q23 q24 q25 ro co sl sn ts ra rr rw rn um bs bh km p0 ((p0).toInt) (by first | exact hco |  assumption | omega | rfl) (by exact rfl)) yv_X9_isColumn nm_X9_71 (by decide) (by decide) rfl rfl 0 rfl rfl rfl rfl (Nat.le_of_ble_eq_true rfl) (Nat.le_refl _) (Nat.le_refl _) dX9_isSlide_2 (fun r_2 u_2 p_2 => ?_)
  rcases p_2 with p_2 | p_2
  · obtain ⟨rfl, f0_2, -⟩ := p_2
    show J X 4 0 0 5 [(0, .ref q0), (1, .int p0), (2, .int p1), (3, .int p2)] [.int (nI 1)] [(q0, .inr (9, [.int (nI ro), .int (nI co), .int sl, .ref q3, .ref q4, .int sn, .ref q6, .ref q7, .ref q8, .ref q9, .int ts, .int ra, .int rr, .int rw, .ref q14, .ref q15, .int rn, .ref q17, .ref q18, .ref q19, .int um, .int bs, .int bh, .ref q23, .ref q24, .ref q25, .int km]))]
    refine J_if_eq h 29 dX9_isSlide_5 (by decide) (fun z => absurd z (by decide)) (fun _ => ?_)
    refine J_iload_n h (i := 2) dX9_isSlide_8 rfl 2 rfl ?_
    refine J_iconst h (v := nI 1) dX9_isSlide_9 (by decide) ?_
    refine J_bipush h (v := nI 20) dX9_isSlide_10 (by decide) ?_
    refine K_si h (wr := [(q0, .inr (9, [.int (nI ro), .int (nI co), .int sl, .ref q3, .ref q4, .int sn, .ref q6, .ref q7, .ref q8, .ref q9, .int ts, .int ra, .int rr, .int rw, .ref q14, .ref q15, .int rn, .ref q17, .ref q18, .ref q19, .int um, .int bs, .int bh, .ref q23, .ref q24, .ref q25, .int km]))]) (c_X9_in (xl X) (xD X) cI cE p1 (nI 1) (nI 20) ((p1).toInt) 1 20 (by exact rfl) (by exact nI_toInt (by omega)) (by exact nI_toInt (by omega))) yv_X9_in nm_X9_67 (by decide) (by decide) rfl rfl rfl (Nat.le_of_ble_eq_true rfl) (Nat.le_refl _) (Nat.le_refl _) dX9_isSlide_12 (fun r_12 u_12 p_12 => ?_)
    rcases p_12 with p_12 | p_12
    · obtain ⟨rfl, f0_12, -⟩ := p_12
      show J X 4 0 0 15 [(0, .ref q0), (1, .int p0), (2, .int p1), (3, .int p2)] [.int (nI 1)] [(q0, .inr (9, [.int (nI ro), .int (nI co), .int sl, .ref q3, .ref q4, .int sn, .ref q6, .ref q7, .ref q8, .ref q9, .int ts, .int ra, .int rr, .int rw, .ref q14, .ref q15, .int rn, .ref q17, .ref q18, .ref q19, .int um, .int bs, .int bh, .ref q23, .ref q24, .ref q25, .int km]))]
      refine J_if_eq h 29 dX9_isSlide_15 (by decide) (fun z => absurd z (by decide)) (fun _ => ?_)
      refine J_iload_n h (i := 3) dX9_isSlide_18 rfl 3 rfl ?_
      refine K_si h (wr := [(q0, .inr (9, [.int (nI ro), .int (nI co), .int sl, .ref q3, .ref q4, .int sn, .ref q6, .ref q7, .ref q8, .ref q9, .int ts, .int ra, .int rr, .int rw, .ref q14, .ref q15, .int rn, .ref q17, .ref q18, .ref q19, .int um, .int bs, .int bh, .ref q23, .ref q24, .ref q25, .int km]))]) (c_X9_isHeels (xl X) (xD X) cI cE p2 ((p2).toInt) (by exact rfl)) yv_X9_isHeels nm_X9_75 (by decide) (by decide) rfl rfl rfl (Nat.le_of_ble_eq_true rfl) (Nat.le_refl _) (Nat.le_refl _) dX9_isSlide_19 (fun r_19 u_19 p_19 => ?_)
      rcases p_19 with p_19 | p_19
      · obtain ⟨rfl, f0_19, -⟩ := p_19
        show J X 4 0 0 22 [(0, .ref q0), (1, .int p0), (2, .int p1), (3, .int p2)] [.int (nI 1)] [(q0, .inr (9, [.int (nI ro), .int (nI co), .int sl, .ref q3, .ref q4, .int sn, .ref q6, .ref q7, .ref q8, .ref q9, .int ts, .int ra, .int rr, .int rw, .ref q14, .ref q15, .int rn, .ref q17, .ref q18, .ref q19, .int um, .int bs, .int bh, .ref q23, .ref q24, .ref q25, .int km]))]
        refine J_if_eq h 29 dX9_isSlide_22 (by decide) (fun z => absurd z (by decide)) (fun _ => ?_)
        refine J_iconst h (v := nI 1) dX9_isSlide_25 (by decide) ?_
        refine J_goto h 30 dX9_isSlide_26 (by decide) ?_
        exact hR (nI 1) () (by first | (obtain ⟨jx, hx1, rfl⟩ := toNI (x := p0) (n := co) (by omega) (by omega); obtain ⟨jw, hw1, rfl⟩ := toNI (x := p1) (n := 21) (by omega) (by omega); obtain ⟨jh, hh1, rfl⟩ := toNI (x := p2) (n := 19) (by omega) (by omega); have hw2 := tiI (j := jw) (by omega); exact Or.inl ⟨jx, jw, jh, rfl, hx1, by omega, by omega, by omega, by omega, rfl, rfl, rfl, trivial⟩) | exact Or.inr ⟨rfl, by omega, trivial⟩) 30 _ dX9_isSlide_30
      · obtain ⟨rfl, f0_19, -⟩ := p_19
        show J X 4 0 0 22 [(0, .ref q0), (1, .int p0), (2, .int p1), (3, .int p2)] [.int (nI 0)] [(q0, .inr (9, [.int (nI ro), .int (nI co), .int sl, .ref q3, .ref q4, .int sn, .ref q6, .ref q7, .ref q8, .ref q9, .int ts, .int ra, .int rr, .int rw, .ref q14, .ref q15, .int rn, .ref q17, .ref q18, .ref q19, .int um, .int bs, .int bh, .ref q23, .ref q24, .ref q25, .int km]))]
        refine J_if_eq h 29 dX9_isSlide_22 (by decide) (fun _ => ?_) (fun z => absurd z (by decide))
        refine J_iconst h (v := nI 0) dX9_isSlide_29 (by decide) ?_
        exact hR (nI 0) () (by first | (obtain ⟨jx, hx1, rfl⟩ := toNI (x := p0) (n := co) (by omega) (by omega); obtain ⟨jw, hw1, rfl⟩ := toNI (x := p1) (n := 21) (by omega) (by omega); obtain ⟨jh, hh1, rfl⟩ := toNI (x := p2) (n := 19) (by omega) (by omega); have hw2 := tiI (j := jw) (by omega); exact Or.inl ⟨jx, jw, jh, rfl, hx1, by omega, by omega, by omega, by omega, rfl, rfl, rfl, trivial⟩) | exact Or.inr ⟨rfl, by omega, trivial⟩) 30 _ dX9_isSlide_30
    · obtain ⟨rfl, f0_12, -⟩ := p_12
      show J X 4 0 0 15 [(0, .ref q0), (1, .int p0), (2, .int p1), (3, .int p2)] [.int (nI 0)] [(q0, .inr (9, [.int (nI ro), .int (nI co), .int sl, .ref q3, .ref q4, .int sn, .ref q6, .ref q7, .ref q8, .ref q9, .int ts, .int ra, .int rr, .int rw, .ref q14, .ref q15, .int rn, .ref q17, .ref q18, .ref q19, .int um, .int bs, .int bh, .ref q23, .ref q24, .ref q25, .int km]))]
      refine J_if_eq h 29 dX9_isSlide_15 (by decide) (fun _ => ?_) (fun z => absurd z (by decide))
      refine J_iconst h (v := nI 0) dX9_isSlide_29 (by decide) ?_
      exact hR (nI 0) () (by first | (obtain ⟨jx, hx1, rfl⟩ := toNI (x := p0) (n := co) (by omega) (by omega); obtain ⟨jw, hw1, rfl⟩ := toNI (x := p1) (n := 21) (by omega) (by omega); obtain ⟨jh, hh1, rfl⟩ := toNI (x := p2) (n := 19) (by omega) (by omega); have hw2 := tiI (j := jw) (by omega); exact Or.inl ⟨jx, jw, jh, rfl, hx1, by omega, by omega, by omega, by omega, rfl, rfl, rfl, trivial⟩) | exact Or.inr ⟨rfl, by omega, trivial⟩) 30 _ dX9_isSlide_30
  · obtain ⟨rfl, f0_2, -⟩ := p_2
    show J X 4 0 0 5 [(0, .ref q0), (1, .int p0), (2, .int p1), (3, .int p2)] [.int (nI 0)] [(q0, .inr (9, [.int (nI ro), .int (nI co), .int sl, .ref q3, .ref q4, .int sn, .ref q6, .ref q7, .ref q8, .ref q9, .int ts, .int ra, .int rr, .int rw, .ref q14, .ref q15, .int rn, .ref q17, .ref q18, .ref q19, .int um, .int bs, .int bh, .ref q23, .ref q24, .ref q25, .int km]))]
    refine J_if_eq h 29 dX9_isSlide_5 (by decide) (fun _ => ?_) (fun z => absurd z (by decide))
    refine J_iconst h (v := nI 0) dX9_isSlide_29 (by decide) ?_
    exact hR (nI 0) () (by first | (obtain ⟨jx, hx1, rfl⟩ := toNI (x := p0) (n := co) (by omega) (by omega); obtain ⟨jw, hw1, rfl⟩ := toNI (x := p1) (n := 21) (by omega) (by omega); obtain ⟨jh, hh1, rfl⟩ := toNI (x := p2) (n := 19) (by omega) (by omega); have hw2 := tiI (j := jw) (by omega); exact Or.inl ⟨jx, jw, jh, rfl, hx1, by omega, by omega, by omega, by omega, rfl, rfl, rfl, trivial⟩) | exact Or.inr ⟨rfl, by omega, trivial⟩) 30 _ dX9_isSlide_30
theorem c_X9_isSlide (l : Launch) (D : va_G) (cI cE : ClassId) (q0 : Nat) (q3 : Nat) (q4 : Nat) (q6 : Nat) (q7 : Nat) (q8 : Nat) (q9 : Nat) (q14 : Nat) (q15 : Nat) (q17 : Nat) (q18 : Nat) (q19 : Nat) (q23 : Nat) (q24 : Nat) (q25 : Nat) (ro : Nat) (co : Nat) (sl : Int32) (sn : Int32) (ts : Int32) (ra : Int32) (rr : Int32) (rw : Int32) (rn : Int32) (um : Int32) (bs : Int32) (bh : Int32) (km : Int32) (p0 : Int32) (p1 : Int32) (p2 : Int32) (hco : co ≤ 6) : Ci l D cI cE yX9_isSlide cX9_isSlide 4 (some .boolean) 2 0 0 [.ref q0, .int p0, .int p1, .int p2] [(q0, .inr (9, [.int (nI ro), .int (nI co), .int sl, .ref q3, .ref q4, .int sn, .ref q6, .ref q7, .ref q8, .ref q9, .int ts, .int ra, .int rr, .int rw, .ref q14, .ref q15, .int rn, .ref q17, .ref q18, .ref q19, .int um, .int bs, .int bh, .ref q23, .ref q24, .ref q25, .int km]))] (fun (r : Int32) (u : Unit) => (∃ (jx : Nat) (jw : Nat) (jh : Nat), (nI 1 = r) ∧ (jx < co) ∧ (1 ≤ jw) ∧ (jw ≤ 20) ∧ (jh ≤ 18) ∧ (vRide co p0 p1 p2) ∧ (p0 = nI jx) ∧ (p1 = nI jw) ∧ (p2 = nI jh) ∧ (True)) ∨ ((nI 0 = r) ∧ (¬ vRide co p0 p1 p2) ∧ (True))) (fun (u : Unit) => ([(q0, .inr (9, [.int (nI ro), .int (nI co), .int sl, .ref q3, .ref q4, .int sn, .ref q6, .ref q7, .ref q8, .ref q9, .int ts, .int ra, .int rr, .int rw, .ref q14, .ref q15, .int rn, .ref q17, .ref q18, .ref q19, .int um, .int bs, .int bh, .ref q23, .ref q24, .ref q25, .int km]))] : va_W)) :=
  Ci.of (by decide) (Nat.le_of_ble_eq_true rfl) (fun r u hp => by rcases hp with ⟨_, _, _, hp, _⟩ | ⟨hp, _⟩ <;> (rw [← hp]; rfl)) (fun X h hR => w_X9_isSlide X h q0 q3 q4 q6 q7 q8 q9 q14 q15 q17 q18 q19 q23 q24 q25 ro co sl sn ts ra rr rw rn um bs bh km p0 p1 p2 hco hR)
theorem yv_X9_isSlide : YV yX9_isSlide cX9_isSlide 4 (some .boolean) 3 := ⟨no_X9_isSlide, nv_X9_isSlide, ni_X9, nk_X9_isSlide, by decide +kernel⟩
set_option maxRecDepth 100000 in
set_option maxHeartbeats 4000000 in
theorem w_X9_isSlideN (X : Cx) {cI cE : ClassId} (h : Ok X cX9_isSlide RX9 4 cI cE 2 0 0) (q0 : Nat) (q3 : Nat) (q4 : Nat) (q6 : Nat) (q7 : Nat) (q8 : Nat) (q9 : Nat) (q14 : Nat) (q15 : Nat) (q17 : Nat) (q18 : Nat) (q19 : Nat) (q23 : Nat) (q24 : Nat) (q25 : Nat) (ro : Nat) (co : Nat) (sl : Int32) (sn : Int32) (ts : Int32) (ra : Int32) (rr : Int32) (rw : Int32) (rn : Int32) (um : Int32) (bs : Int32) (bh : Int32) (km : Int32) (jx : Nat) (jw : Nat) (jh : Nat) (hco : co ≤ 6) (hjx : jx < 100) (hjw : jw < 100) (hjh : jh < 100) (hR : ∀ (r : Int32) (u : Unit), ((nI 1 = r) ∧ (jx < co ∧ (1 ≤ jw ∧ jw ≤ 20) ∧ (jh ≤ 8 ∨ (11 ≤ jh ∧ jh ≤ 18))) ∧ (True)) ∨ ((nI 0 = r) ∧ (¬ (jx < co ∧ (1 ≤ jw ∧ jw ≤ 20) ∧ (jh ≤ 8 ∨ (11 ≤ jh ∧ jh ≤ 18)))) ∧ (True)) → RetI X cX9_isSlide 4 0 0 r [(q0, .inr (9, [.int (nI ro), .int (nI co), .int sl, .ref q3, .ref q4, .int sn, .ref q6, .ref q7, .ref q8, .ref q9, .int ts, .int ra, .int rr, .int rw, .ref q14, .ref q15, .int rn, .ref q17, .ref q18, .ref q19, .int um, .int bs, .int bh, .ref q23, .ref q24, .ref q25, .int km]))]) : J X 4 0 0 0 [(0, .ref q0), (1, .int (nI jx)), (2, .int (nI jw)), (3, .int (nI jh))] [] [(q0, .inr (9, [.int (nI ro), .int (nI co), .int sl, .ref q3, .ref q4, .int sn, .ref q6, .ref q7, .ref q8, .ref q9, .int ts, .int ra, .int rr, .int rw, .ref q14, .ref q15, .int rn, .ref q17, .ref q18, .ref q19, .int um, .int bs, .int bh, .ref q23, .ref q24, .ref q25, .int km]))] := by
  refine J_aload_n h (i := 0) dX9_isSlide_0 rfl 0 rfl ?_
  refine J_iload_n h (i := 1) dX9_isSlide_1 rfl 1 rfl ?_
  refine K_vi h (wr := []) (c_X9_isColumnT (xl X) (xD X) cI cE q0 q3 q4 q6 q7 q8 q9 q14 q15 q17 q18 q19 q23 q24 q25 ro co sl sn ts ra rr rw rn um bs bh km (nI jx) (((jx : Nat) : Int)) (by first | exact hco |  assumption | omega | rfl) (by exact nI_toInt (by omega))) yv_X9_isColumn nm_X9_71 (by decide) (by decide) rfl rfl 0 rfl rfl rfl rfl (Nat.le_of_ble_eq_true rfl) (Nat.le_refl _) (Nat.le_refl _) dX9_isSlide_2 (fun r_2 u_2 p_2 => ?_)
  rcases p_2 with p_2 | p_2
  · obtain ⟨rfl, f0_2, -⟩ := p_2
    show J X 4 0 0 5 [(0, .ref q0), (1, .int (nI jx)), (2, .int (nI jw)), (3, .int (nI jh))] [.int (nI 1)] [(q0, .inr (9, [.int (nI ro), .int (nI co), .int sl, .ref q3, .ref q4, .int sn, .ref q6, .ref q7, .ref q8, .ref q9, .int ts, .int ra, .int rr, .int rw, .ref q14, .ref q15, .int rn, .ref q17, .ref q18, .ref q19, .int um, .int bs, .int bh, .ref q23, .ref q24, .ref q25, .int km]))]
    refine J_if_eq h 29 dX9_isSlide_5 (by decide) (fun z => absurd z (by decide)) (fun _ => ?_)
    refine J_iload_n h (i := 2) dX9_isSlide_8 rfl 2 rfl ?_
    refine J_iconst h (v := nI 1) dX9_isSlide_9 (by decide) ?_
    refine J_bipush h (v := nI 20) dX9_isSlide_10 (by decide) ?_
    refine K_si h (wr := [(q0, .inr (9, [.int (nI ro), .int (nI co), .int sl, .ref q3, .ref q4, .int sn, .ref q6, .ref q7, .ref q8, .ref q9, .int ts, .int ra, .int rr, .int rw, .ref q14, .ref q15, .int rn, .ref q17, .ref q18, .ref q19, .int um, .int bs, .int bh, .ref q23, .ref q24, .ref q25, .int km]))]) (c_X9_in (xl X) (xD X) cI cE (nI jw) (nI 1) (nI 20) (((jw : Nat) : Int)) 1 20 (by exact nI_toInt (by omega)) (by exact nI_toInt (by omega)) (by exact nI_toInt (by omega))) yv_X9_in nm_X9_67 (by decide) (by decide) rfl rfl rfl (Nat.le_of_ble_eq_true rfl) (Nat.le_refl _) (Nat.le_refl _) dX9_isSlide_12 (fun r_12 u_12 p_12 => ?_)
    rcases p_12 with p_12 | p_12
    · obtain ⟨rfl, f0_12, -⟩ := p_12
      show J X 4 0 0 15 [(0, .ref q0), (1, .int (nI jx)), (2, .int (nI jw)), (3, .int (nI jh))] [.int (nI 1)] [(q0, .inr (9, [.int (nI ro), .int (nI co), .int sl, .ref q3, .ref q4, .int sn, .ref q6, .ref q7, .ref q8, .ref q9, .int ts, .int ra, .int rr, .int rw, .ref q14, .ref q15, .int rn, .ref q17, .ref q18, .ref q19, .int um, .int bs, .int bh, .ref q23, .ref q24, .ref q25, .int km]))]
      refine J_if_eq h 29 dX9_isSlide_15 (by decide) (fun z => absurd z (by decide)) (fun _ => ?_)
      refine J_iload_n h (i := 3) dX9_isSlide_18 rfl 3 rfl ?_
      refine K_si h (wr := [(q0, .inr (9, [.int (nI ro), .int (nI co), .int sl, .ref q3, .ref q4, .int sn, .ref q6, .ref q7, .ref q8, .ref q9, .int ts, .int ra, .int rr, .int rw, .ref q14, .ref q15, .int rn, .ref q17, .ref q18, .ref q19, .int um, .int bs, .int bh, .ref q23, .ref q24, .ref q25, .int km]))]) (c_X9_isHeels (xl X) (xD X) cI cE (nI jh) (((jh : Nat) : Int)) (by exact nI_toInt (by omega))) yv_X9_isHeels nm_X9_75 (by decide) (by decide) rfl rfl rfl (Nat.le_of_ble_eq_true rfl) (Nat.le_refl _) (Nat.le_refl _) dX9_isSlide_19 (fun r_19 u_19 p_19 => ?_)
      rcases p_19 with p_19 | p_19
      · obtain ⟨rfl, f0_19, -⟩ := p_19
        show J X 4 0 0 22 [(0, .ref q0), (1, .int (nI jx)), (2, .int (nI jw)), (3, .int (nI jh))] [.int (nI 1)] [(q0, .inr (9, [.int (nI ro), .int (nI co), .int sl, .ref q3, .ref q4, .int sn, .ref q6, .ref q7, .ref q8, .ref q9, .int ts, .int ra, .int rr, .int rw, .ref q14, .ref q15, .int rn, .ref q17, .ref q18, .ref q19, .int um, .int bs, .int bh, .ref q23, .ref q24, .ref q25, .int km]))]
        refine J_if_eq h 29 dX9_isSlide_22 (by decide) (fun z => absurd z (by decide)) (fun _ => ?_)
        refine J_iconst h (v := nI 1) dX9_isSlide_25 (by decide) ?_
        refine J_goto h 30 dX9_isSlide_26 (by decide) ?_
        exact hR (nI 1) () (by first | exact Or.inl ⟨rfl, by omega, trivial⟩ | exact Or.inr ⟨rfl, by omega, trivial⟩) 30 _ dX9_isSlide_30
      · obtain ⟨rfl, f0_19, -⟩ := p_19
        show J X 4 0 0 22 [(0, .ref q0), (1, .int (nI jx)), (2, .int (nI jw)), (3, .int (nI jh))] [.int (nI 0)] [(q0, .inr (9, [.int (nI ro), .int (nI co), .int sl, .ref q3, .ref q4, .int sn, .ref q6, .ref q7, .ref q8, .ref q9, .int ts, .int ra, .int rr, .int rw, .ref q14, .ref q15, .int rn, .ref q17, .ref q18, .ref q19, .int um, .int bs, .int bh, .ref q23, .ref q24, .ref q25, .int km]))]
        refine J_if_eq h 29 dX9_isSlide_22 (by decide) (fun _ => ?_) (fun z => absurd z (by decide))
        refine J_iconst h (v := nI 0) dX9_isSlide_29 (by decide) ?_
        exact hR (nI 0) () (by first | exact Or.inl ⟨rfl, by omega, trivial⟩ | exact Or.inr ⟨rfl, by omega, trivial⟩) 30 _ dX9_isSlide_30
    · obtain ⟨rfl, f0_12, -⟩ := p_12
      show J X 4 0 0 15 [(0, .ref q0), (1, .int (nI jx)), (2, .int (nI jw)), (3, .int (nI jh))] [.int (nI 0)] [(q0, .inr (9, [.int (nI ro), .int (nI co), .int sl, .ref q3, .ref q4, .int sn, .ref q6, .ref q7, .ref q8, .ref q9, .int ts, .int ra, .int rr, .int rw, .ref q14, .ref q15, .int rn, .ref q17, .ref q18, .ref q19, .int um, .int bs, .int bh, .ref q23, .ref q24, .ref q25, .int km]))]
      refine J_if_eq h 29 dX9_isSlide_15 (by decide) (fun _ => ?_) (fun z => absurd z (by decide))
      refine J_iconst h (v := nI 0) dX9_isSlide_29 (by decide) ?_
      exact hR (nI 0) () (by first | exact Or.inl ⟨rfl, by omega, trivial⟩ | exact Or.inr ⟨rfl, by omega, trivial⟩) 30 _ dX9_isSlide_30
  · obtain ⟨rfl, f0_2, -⟩ := p_2
    show J X 4 0 0 5 [(0, .ref q0), (1, .int (nI jx)), (2, .int (nI jw)), (3, .int (nI jh))] [.int (nI 0)] [(q0, .inr (9, [.int (nI ro), .int (nI co), .int sl, .ref q3, .ref q4, .int sn, .ref q6, .ref q7, .ref q8, .ref q9, .int ts, .int ra, .int rr, .int rw, .ref q14, .ref q15, .int rn, .ref q17, .ref q18, .ref q19, .int um, .int bs, .int bh, .ref q23, .ref q24, .ref q25, .int km]))]
    refine J_if_eq h 29 dX9_isSlide_5 (by decide) (fun _ => ?_) (fun z => absurd z (by decide))
    refine J_iconst h (v := nI 0) dX9_isSlide_29 (by decide) ?_
    exact hR (nI 0) () (by first | exact Or.inl ⟨rfl, by omega, trivial⟩ | exact Or.inr ⟨rfl, by omega, trivial⟩) 30 _ dX9_isSlide_30
theorem c_X9_isSlideN (l : Launch) (D : va_G) (cI cE : ClassId) (q0 : Nat) (q3 : Nat) (q4 : Nat) (q6 : Nat) (q7 : Nat) (q8 : Nat) (q9 : Nat) (q14 : Nat) (q15 : Nat) (q17 : Nat) (q18 : Nat) (q19 : Nat) (q23 : Nat) (q24 : Nat) (q25 : Nat) (ro : Nat) (co : Nat) (sl : Int32) (sn : Int32) (ts : Int32) (ra : Int32) (rr : Int32) (rw : Int32) (rn : Int32) (um : Int32) (bs : Int32) (bh : Int32) (km : Int32) (jx : Nat) (jw : Nat) (jh : Nat) (hco : co ≤ 6) (hjx : jx < 100) (hjw : jw < 100) (hjh : jh < 100) : Ci l D cI cE yX9_isSlide cX9_isSlide 4 (some .boolean) 2 0 0 [.ref q0, .int (nI jx), .int (nI jw), .int (nI jh)] [(q0, .inr (9, [.int (nI ro), .int (nI co), .int sl, .ref q3, .ref q4, .int sn, .ref q6, .ref q7, .ref q8, .ref q9, .int ts, .int ra, .int rr, .int rw, .ref q14, .ref q15, .int rn, .ref q17, .ref q18, .ref q19, .int um, .int bs, .int bh, .ref q23, .ref q24, .ref q25, .int km]))] (fun (r : Int32) (u : Unit) => ((nI 1 = r) ∧ (jx < co ∧ (1 ≤ jw ∧ jw ≤ 20) ∧ (jh ≤ 8 ∨ (11 ≤ jh ∧ jh ≤ 18))) ∧ (True)) ∨ ((nI 0 = r) ∧ (¬ (jx < co ∧ (1 ≤ jw ∧ jw ≤ 20) ∧ (jh ≤ 8 ∨ (11 ≤ jh ∧ jh ≤ 18)))) ∧ (True))) (fun (u : Unit) => ([(q0, .inr (9, [.int (nI ro), .int (nI co), .int sl, .ref q3, .ref q4, .int sn, .ref q6, .ref q7, .ref q8, .ref q9, .int ts, .int ra, .int rr, .int rw, .ref q14, .ref q15, .int rn, .ref q17, .ref q18, .ref q19, .int um, .int bs, .int bh, .ref q23, .ref q24, .ref q25, .int km]))] : va_W)) :=
  Ci.of (by decide) (Nat.le_of_ble_eq_true rfl) (fun r u hp => by rcases hp with ⟨hp, _⟩ | ⟨hp, _⟩ <;> (rw [← hp]; rfl)) (fun X h hR => w_X9_isSlideN X h q0 q3 q4 q6 q7 q8 q9 q14 q15 q17 q18 q19 q23 q24 q25 ro co sl sn ts ra rr rw rn um bs bh km jx jw jh hco hjx hjw hjh hR)
set_option maxRecDepth 100000 in
set_option maxHeartbeats 4000000 in
theorem w_X9_isEnd (X : Cx) {cI cE : ClassId} (h : Ok X cX9_isEnd RX9 2 cI cE 2 0 0) (q0 : Nat) (q3 : Nat) (q4 : Nat) (q6 : Nat) (q7 : Nat) (q8 : Nat) (q9 : Nat) (q14 : Nat) (q15 : Nat) (q17 : Nat) (q18 : Nat) (q19 : Nat) (q23 : Nat) (q24 : Nat) (q25 : Nat) (ro : Nat) (co : Nat) (sl : Int32) (sn : Int32) (ts : Int32) (ra : Int32) (rr : Int32) (rw : Int32) (rn : Int32) (um : Int32) (bs : Int32) (bh : Int32) (km : Int32) (p0 : Int32) (hrc : ro * co ≤ 48) (hR : ∀ (r : Int32) (u : Unit), (∃ (jc : Nat), (nI 1 = r) ∧ (jc = 99 ∨ jc < ro * co) ∧ (vEnd (ro * co) p0) ∧ (p0 = nI jc) ∧ (True)) ∨ ((nI 0 = r) ∧ (¬ vEnd (ro * co) p0) ∧ (True)) → RetI X cX9_isEnd 2 0 0 r [(q0, .inr (9, [.int (nI ro), .int (nI co), .int sl, .ref q3, .ref q4, .int sn, .ref q6, .ref q7, .ref q8, .ref q9, .int ts, .int ra, .int rr, .int rw, .ref q14, .ref q15, .int rn, .ref q17, .ref q18, .ref q19, .int um, .int bs, .int bh, .ref q23, .ref q24, .ref q25, .int km]))]) : J X 2 0 0 0 [(0, .ref q0), (1, .int p0)] [] [(q0, .inr (9, [.int (nI ro), .int (nI co), .int sl, .ref q3, .ref q4, .int sn, .ref q6, .ref q7, .ref q8, .ref q9, .int ts, .int ra, .int rr, .int rw, .ref q14, .ref q15, .int rn, .ref q17, .ref q18, .ref q19, .int um, .int bs, .int bh, .ref q23, .ref q24, .ref q25, .int km]))] := by
  refine J_aload_n h (i := 0) dX9_isEnd_0 rfl 0 rfl ?_
  refine J_iload_n h (i := 1) dX9_isEnd_1 rfl 1 rfl ?_
  refine K_vi h (wr := []) (c_X9_isCellT (xl X) (xD X) cI cE q0 q3 q4 q6 q7 q8 q9 q14 q15 q17 q18 q19 q23 q24 q25 ro co sl sn ts ra rr rw rn um bs bh km p0 ((p0).toInt) (by first | exact hrc |  assumption | omega | rfl) (by exact rfl)) yv_X9_isCell nm_X9_131 (by decide) (by decide) rfl rfl 0 rfl rfl rfl rfl (Nat.le_of_ble_eq_true rfl) (Nat.le_refl _) (Nat.le_refl _) dX9_isEnd_2 (fun r_2 u_2 p_2 => ?_)
  rcases p_2 with p_2 | p_2
  · obtain ⟨rfl, f0_2, -⟩ := p_2
    show J X 2 0 0 5 [(0, .ref q0), (1, .int p0)] [.int (nI 1)] [(q0, .inr (9, [.int (nI ro), .int (nI co), .int sl, .ref q3, .ref q4, .int sn, .ref q6, .ref q7, .ref q8, .ref q9, .int ts, .int ra, .int rr, .int rw, .ref q14, .ref q15, .int rn, .ref q17, .ref q18, .ref q19, .int um, .int bs, .int bh, .ref q23, .ref q24, .ref q25, .int km]))]
    refine J_if_ne h 14 dX9_isEnd_5 (by decide) (fun _ => ?_) (fun z => absurd z (by decide))
    refine J_iconst h (v := nI 1) dX9_isEnd_14 (by decide) ?_
    refine J_goto h 19 dX9_isEnd_15 (by decide) ?_
    exact hR (nI 1) () (by first | (obtain ⟨jc, hc1, rfl⟩ := toNI (x := p0) (n := 100) (by omega) (by omega); have hc2 := tiI (j := jc) (by omega); exact Or.inl ⟨jc, rfl, by omega, by omega, rfl, trivial⟩) | exact Or.inr ⟨rfl, by omega, trivial⟩) 19 _ dX9_isEnd_19
  · obtain ⟨rfl, f0_2, -⟩ := p_2
    show J X 2 0 0 5 [(0, .ref q0), (1, .int p0)] [.int (nI 0)] [(q0, .inr (9, [.int (nI ro), .int (nI co), .int sl, .ref q3, .ref q4, .int sn, .ref q6, .ref q7, .ref q8, .ref q9, .int ts, .int ra, .int rr, .int rw, .ref q14, .ref q15, .int rn, .ref q17, .ref q18, .ref q19, .int um, .int bs, .int bh, .ref q23, .ref q24, .ref q25, .int km]))]
    refine J_if_ne h 14 dX9_isEnd_5 (by decide) (fun z => absurd z (by decide)) (fun _ => ?_)
    refine J_iload_n h (i := 1) dX9_isEnd_8 rfl 1 rfl ?_
    refine J_bipush h (v := nI 99) dX9_isEnd_9 (by decide) ?_
    refine T_icmp_ne h (A := (p0).toInt) (B := 99) 18 dX9_isEnd_11 (by decide) (rfl) (nI_toInt (by omega)) (fun c_11 => ?_) (fun c_11 => ?_)
    · skip
      refine J_iconst h (v := nI 0) dX9_isEnd_18 (by decide) ?_
      exact hR (nI 0) () (by first | (obtain ⟨jc, hc1, rfl⟩ := toNI (x := p0) (n := 100) (by omega) (by omega); have hc2 := tiI (j := jc) (by omega); exact Or.inl ⟨jc, rfl, by omega, by omega, rfl, trivial⟩) | exact Or.inr ⟨rfl, by omega, trivial⟩) 19 _ dX9_isEnd_19
    · skip
      refine J_iconst h (v := nI 1) dX9_isEnd_14 (by decide) ?_
      refine J_goto h 19 dX9_isEnd_15 (by decide) ?_
      exact hR (nI 1) () (by first | (obtain ⟨jc, hc1, rfl⟩ := toNI (x := p0) (n := 100) (by omega) (by omega); have hc2 := tiI (j := jc) (by omega); exact Or.inl ⟨jc, rfl, by omega, by omega, rfl, trivial⟩) | exact Or.inr ⟨rfl, by omega, trivial⟩) 19 _ dX9_isEnd_19
theorem c_X9_isEnd (l : Launch) (D : va_G) (cI cE : ClassId) (q0 : Nat) (q3 : Nat) (q4 : Nat) (q6 : Nat) (q7 : Nat) (q8 : Nat) (q9 : Nat) (q14 : Nat) (q15 : Nat) (q17 : Nat) (q18 : Nat) (q19 : Nat) (q23 : Nat) (q24 : Nat) (q25 : Nat) (ro : Nat) (co : Nat) (sl : Int32) (sn : Int32) (ts : Int32) (ra : Int32) (rr : Int32) (rw : Int32) (rn : Int32) (um : Int32) (bs : Int32) (bh : Int32) (km : Int32) (p0 : Int32) (hrc : ro * co ≤ 48) : Ci l D cI cE yX9_isEnd cX9_isEnd 2 (some .boolean) 2 0 0 [.ref q0, .int p0] [(q0, .inr (9, [.int (nI ro), .int (nI co), .int sl, .ref q3, .ref q4, .int sn, .ref q6, .ref q7, .ref q8, .ref q9, .int ts, .int ra, .int rr, .int rw, .ref q14, .ref q15, .int rn, .ref q17, .ref q18, .ref q19, .int um, .int bs, .int bh, .ref q23, .ref q24, .ref q25, .int km]))] (fun (r : Int32) (u : Unit) => (∃ (jc : Nat), (nI 1 = r) ∧ (jc = 99 ∨ jc < ro * co) ∧ (vEnd (ro * co) p0) ∧ (p0 = nI jc) ∧ (True)) ∨ ((nI 0 = r) ∧ (¬ vEnd (ro * co) p0) ∧ (True))) (fun (u : Unit) => ([(q0, .inr (9, [.int (nI ro), .int (nI co), .int sl, .ref q3, .ref q4, .int sn, .ref q6, .ref q7, .ref q8, .ref q9, .int ts, .int ra, .int rr, .int rw, .ref q14, .ref q15, .int rn, .ref q17, .ref q18, .ref q19, .int um, .int bs, .int bh, .ref q23, .ref q24, .ref q25, .int km]))] : va_W)) :=
  Ci.of (by decide) (Nat.le_of_ble_eq_true rfl) (fun r u hp => by rcases hp with ⟨_, hp, _⟩ | ⟨hp, _⟩ <;> (rw [← hp]; rfl)) (fun X h hR => w_X9_isEnd X h q0 q3 q4 q6 q7 q8 q9 q14 q15 q17 q18 q19 q23 q24 q25 ro co sl sn ts ra rr rw rn um bs bh km p0 hrc hR)
theorem yv_X9_isEnd : YV yX9_isEnd cX9_isEnd 2 (some .boolean) 1 := ⟨no_X9_isEnd, nv_X9_isEnd, ni_X9, nk_X9_isEnd, by decide +kernel⟩
set_option maxRecDepth 100000 in
set_option maxHeartbeats 4000000 in
theorem w_X9_write (X : Cx) {cI cE : ClassId} (h : Ok X cX9_write RX9 2 cI cE 1 0 0) (q0 : Nat) (q3 : Nat) (q4 : Nat) (q6 : Nat) (q7 : Nat) (q8 : Nat) (q9 : Nat) (q14 : Nat) (q15 : Nat) (q17 : Nat) (q18 : Nat) (q19 : Nat) (q23 : Nat) (q24 : Nat) (q25 : Nat) (ro : Int32) (co : Int32) (sl : Int32) (sn : Int32) (ts : Nat) (ra : Int32) (rr : Int32) (rw : Int32) (rn : Int32) (um : Int32) (bs : Int32) (bh : Int32) (km : Int32) (lx : Nat → Nat) (p0 : Int32) (htn : ts ≤ 200) (hR : ∀ (r : Int32) (u : (Nat → Nat) × (Nat)), ((nI (ts + 1) = r) ∧ (32 ≤ p0.toInt ∧ p0.toInt ≤ 126) ∧ (ts < 200) ∧ ((va_up lx ts (ton p0)) = u.1) ∧ ((ts + 1) = u.2) ∧ (True)) ∨ (((-3) = r) ∧ (32 ≤ p0.toInt ∧ p0.toInt ≤ 126) ∧ (ts = 200) ∧ ((lx) = u.1) ∧ ((ts) = u.2) ∧ (True)) ∨ (((-1) = r) ∧ (¬ (32 ≤ p0.toInt ∧ p0.toInt ≤ 126)) ∧ ((lx) = u.1) ∧ ((ts) = u.2) ∧ (True)) → RetI X cX9_write 2 0 0 r [(q0, .inr (9, [.int ro, .int co, .int sl, .ref q3, .ref q4, .int sn, .ref q6, .ref q7, .ref q8, .ref q9, .int (nI u.2), .int ra, .int rr, .int rw, .ref q14, .ref q15, .int rn, .ref q17, .ref q18, .ref q19, .int um, .int bs, .int bh, .ref q23, .ref q24, .ref q25, .int km])), (q9, .inl (cI, 200, .inl (nA u.1)))]) : J X 2 0 0 0 [(0, .ref q0), (1, .int p0)] [] [(q0, .inr (9, [.int ro, .int co, .int sl, .ref q3, .ref q4, .int sn, .ref q6, .ref q7, .ref q8, .ref q9, .int (nI ts), .int ra, .int rr, .int rw, .ref q14, .ref q15, .int rn, .ref q17, .ref q18, .ref q19, .int um, .int bs, .int bh, .ref q23, .ref q24, .ref q25, .int km])), (q9, .inl (cI, 200, .inl (nA lx)))] := by
  refine J_iload_n h (i := 1) dX9_write_0 rfl 1 rfl ?_
  refine J_bipush h (v := nI 32) dX9_write_1 (by decide) ?_
  refine J_bipush h (v := nI 126) dX9_write_3 (by decide) ?_
  refine K_si h (wr := [(q0, .inr (9, [.int ro, .int co, .int sl, .ref q3, .ref q4, .int sn, .ref q6, .ref q7, .ref q8, .ref q9, .int (nI ts), .int ra, .int rr, .int rw, .ref q14, .ref q15, .int rn, .ref q17, .ref q18, .ref q19, .int um, .int bs, .int bh, .ref q23, .ref q24, .ref q25, .int km])), (q9, .inl (cI, 200, .inl (nA lx)))]) (c_X9_in (xl X) (xD X) cI cE p0 (nI 32) (nI 126) ((p0).toInt) 32 126 (by exact rfl) (by exact nI_toInt (by omega)) (by exact nI_toInt (by omega))) yv_X9_in nm_X9_67 (by decide) (by decide) rfl rfl rfl (Nat.le_of_ble_eq_true rfl) (Nat.le_refl _) (Nat.le_refl _) dX9_write_5 (fun r_5 u_5 p_5 => ?_)
  rcases p_5 with p_5 | p_5
  · obtain ⟨rfl, f0_5, -⟩ := p_5
    show J X 2 0 0 8 [(0, .ref q0), (1, .int p0)] [.int (nI 1)] [(q0, .inr (9, [.int ro, .int co, .int sl, .ref q3, .ref q4, .int sn, .ref q6, .ref q7, .ref q8, .ref q9, .int (nI ts), .int ra, .int rr, .int rw, .ref q14, .ref q15, .int rn, .ref q17, .ref q18, .ref q19, .int um, .int bs, .int bh, .ref q23, .ref q24, .ref q25, .int km])), (q9, .inl (cI, 200, .inl (nA lx)))]
    refine J_if_ne h 13 dX9_write_8 (by decide) (fun _ => ?_) (fun z => absurd z (by decide))
    refine J_aload_n h (i := 0) dX9_write_13 rfl 0 rfl ?_
    refine J_get h inX9 rfl 0 10 (by decide) rfl rfl nf_X9_78 dX9_write_14 ?_
    refine J_sipush h (v := nI 200) dX9_write_17 (by decide) ?_
    refine N_icmp_ne h 26 dX9_write_20 (by decide) (by omega) (by omega) (fun c_20 => ?_) (fun c_20 => ?_)
    · skip
      obtain ⟨j, hj, rfl⟩ := toNI (x := p0) (n := 127) (by omega) (by omega)
      have htj := tiI (j := j) (by omega)
      refine J_aload_n h (i := 0) dX9_write_26 rfl 0 rfl ?_
      refine J_get h inX9 rfl 0 9 (by decide) rfl rfl nf_X9_25 dX9_write_27 ?_
      refine J_aload_n h (i := 0) dX9_write_30 rfl 0 rfl ?_
      refine J_get h inX9 rfl 0 10 (by decide) rfl rfl nf_X9_78 dX9_write_31 ?_
      refine J_iload_n h (i := 1) dX9_write_34 rfl 1 rfl ?_
      refine N_iast h (ws' := [(q0, .inr (9, [.int ro, .int co, .int sl, .ref q3, .ref q4, .int sn, .ref q6, .ref q7, .ref q8, .ref q9, .int (nI ts), .int ra, .int rr, .int rw, .ref q14, .ref q15, .int rn, .ref q17, .ref q18, .ref q19, .int um, .int bs, .int bh, .ref q23, .ref q24, .ref q25, .int km])), (q9, .inl (cI, 200, .inl (upd (nA lx) ts (nI j))))]) 1 rfl (by decide) (by omega) dX9_write_35 rfl ?_
      refine J_eqw (ws' := [(q0, .inr (9, [.int ro, .int co, .int sl, .ref q3, .ref q4, .int sn, .ref q6, .ref q7, .ref q8, .ref q9, .int (nI ts), .int ra, .int rr, .int rw, .ref q14, .ref q15, .int rn, .ref q17, .ref q18, .ref q19, .int um, .int bs, .int bh, .ref q23, .ref q24, .ref q25, .int km])), (q9, .inl (cI, 200, .inl (nA (va_up lx ts j))))]) (by rw [upd_nA]) ?_
      refine J_aload_n h (i := 0) dX9_write_36 rfl 0 rfl ?_
      refine J_dup h dX9_write_37 rfl ?_
      refine J_get h inX9 rfl 0 10 (by decide) rfl rfl nf_X9_78 dX9_write_38 ?_
      refine J_iconst h (v := nI 1) dX9_write_41 (by decide) ?_
      refine N_iadd h dX9_write_42 ?_
      refine J_put h (ws' := [(q0, .inr (9, [.int ro, .int co, .int sl, .ref q3, .ref q4, .int sn, .ref q6, .ref q7, .ref q8, .ref q9, .int (nI (ts + 1)), .int ra, .int rr, .int rw, .ref q14, .ref q15, .int rn, .ref q17, .ref q18, .ref q19, .int um, .int bs, .int bh, .ref q23, .ref q24, .ref q25, .int km])), (q9, .inl (cI, 200, .inl (nA (va_up lx ts j))))]) inX9 tyX9 tyX9_ok nmX9 rfl 0 10 (by decide) rfl nf_X9_78 rfl rfl rfl rfl (Nat.le_of_ble_eq_true rfl) dX9_write_43 rfl ?_
      refine J_aload_n h (i := 0) dX9_write_46 rfl 0 rfl ?_
      refine J_get h inX9 rfl 0 10 (by decide) rfl rfl nf_X9_78 dX9_write_47 ?_
      exact hR (nI (ts + 1)) (va_up lx ts j, ts + 1) (by exact Or.inl ⟨rfl, by omega, by omega, by rw [show ton (nI j) = j from nI_clamp (by omega)], rfl, trivial⟩) 50 _ dX9_write_50
    · skip
      refine J_bipush h (v := (-3)) dX9_write_23 (by decide) ?_
      exact hR ((-3)) (lx, ts) (by exact Or.inr (Or.inl ⟨rfl, by omega, by omega, rfl, rfl, trivial⟩)) 25 _ dX9_write_25
  · obtain ⟨rfl, f0_5, -⟩ := p_5
    show J X 2 0 0 8 [(0, .ref q0), (1, .int p0)] [.int (nI 0)] [(q0, .inr (9, [.int ro, .int co, .int sl, .ref q3, .ref q4, .int sn, .ref q6, .ref q7, .ref q8, .ref q9, .int (nI ts), .int ra, .int rr, .int rw, .ref q14, .ref q15, .int rn, .ref q17, .ref q18, .ref q19, .int um, .int bs, .int bh, .ref q23, .ref q24, .ref q25, .int km])), (q9, .inl (cI, 200, .inl (nA lx)))]
    refine J_if_ne h 13 dX9_write_8 (by decide) (fun z => absurd z (by decide)) (fun _ => ?_)
    refine J_iconst h (v := (-1)) dX9_write_11 (by decide) ?_
    exact hR ((-1)) (lx, ts) (by exact Or.inr (Or.inr ⟨rfl, by omega, rfl, rfl, trivial⟩)) 12 _ dX9_write_12
theorem c_X9_write (l : Launch) (D : va_G) (cI cE : ClassId) (q0 : Nat) (q3 : Nat) (q4 : Nat) (q6 : Nat) (q7 : Nat) (q8 : Nat) (q9 : Nat) (q14 : Nat) (q15 : Nat) (q17 : Nat) (q18 : Nat) (q19 : Nat) (q23 : Nat) (q24 : Nat) (q25 : Nat) (ro : Int32) (co : Int32) (sl : Int32) (sn : Int32) (ts : Nat) (ra : Int32) (rr : Int32) (rw : Int32) (rn : Int32) (um : Int32) (bs : Int32) (bh : Int32) (km : Int32) (lx : Nat → Nat) (p0 : Int32) (htn : ts ≤ 200) : Ci l D cI cE yX9_write cX9_write 2 (some .int) 1 0 0 [.ref q0, .int p0] [(q0, .inr (9, [.int ro, .int co, .int sl, .ref q3, .ref q4, .int sn, .ref q6, .ref q7, .ref q8, .ref q9, .int (nI ts), .int ra, .int rr, .int rw, .ref q14, .ref q15, .int rn, .ref q17, .ref q18, .ref q19, .int um, .int bs, .int bh, .ref q23, .ref q24, .ref q25, .int km])), (q9, .inl (cI, 200, .inl (nA lx)))] (fun (r : Int32) (u : (Nat → Nat) × (Nat)) => ((nI (ts + 1) = r) ∧ (32 ≤ p0.toInt ∧ p0.toInt ≤ 126) ∧ (ts < 200) ∧ ((va_up lx ts (ton p0)) = u.1) ∧ ((ts + 1) = u.2) ∧ (True)) ∨ (((-3) = r) ∧ (32 ≤ p0.toInt ∧ p0.toInt ≤ 126) ∧ (ts = 200) ∧ ((lx) = u.1) ∧ ((ts) = u.2) ∧ (True)) ∨ (((-1) = r) ∧ (¬ (32 ≤ p0.toInt ∧ p0.toInt ≤ 126)) ∧ ((lx) = u.1) ∧ ((ts) = u.2) ∧ (True))) (fun (u : (Nat → Nat) × (Nat)) => ([(q0, .inr (9, [.int ro, .int co, .int sl, .ref q3, .ref q4, .int sn, .ref q6, .ref q7, .ref q8, .ref q9, .int (nI u.2), .int ra, .int rr, .int rw, .ref q14, .ref q15, .int rn, .ref q17, .ref q18, .ref q19, .int um, .int bs, .int bh, .ref q23, .ref q24, .ref q25, .int km])), (q9, .inl (cI, 200, .inl (nA u.1)))] : va_W)) :=
  Ci.of (by decide) (Nat.le_of_ble_eq_true rfl) (fun _ _ _ => rfl) (fun X h hR => w_X9_write X h q0 q3 q4 q6 q7 q8 q9 q14 q15 q17 q18 q19 q23 q24 q25 ro co sl sn ts ra rr rw rn um bs bh km lx p0 htn hR)
theorem yv_X9_write : YV yX9_write cX9_write 2 (some .int) 1 := ⟨no_X9_write, nv_X9_write, ni_X9, nk_X9_write, by decide +kernel⟩
set_option maxRecDepth 100000 in
set_option maxHeartbeats 4000000 in
theorem w_X9_wipe (X : Cx) {cI cE : ClassId} (h : Ok X cX9_wipe RX9 2 cI cE 0 0 0) (q0 : Nat) (q3 : Nat) (q4 : Nat) (q6 : Nat) (q7 : Nat) (q8 : Nat) (q9 : Nat) (q14 : Nat) (q15 : Nat) (q17 : Nat) (q18 : Nat) (q19 : Nat) (q23 : Nat) (q24 : Nat) (q25 : Nat) (ro : Int32) (co : Int32) (sl : Int32) (sn : Int32) (ts : Nat) (ra : Int32) (rr : Int32) (rw : Int32) (rn : Int32) (um : Int32) (bs : Int32) (bh : Int32) (km : Int32)  (hR : ∀ (r : Int32) (u : Unit), ((nI ts = r) ∧ (True)) → RetI X cX9_wipe 2 0 0 r [(q0, .inr (9, [.int ro, .int co, .int sl, .ref q3, .ref q4, .int sn, .ref q6, .ref q7, .ref q8, .ref q9, .int (nI 0), .int ra, .int rr, .int rw, .ref q14, .ref q15, .int rn, .ref q17, .ref q18, .ref q19, .int um, .int bs, .int bh, .ref q23, .ref q24, .ref q25, .int km]))]) : J X 2 0 0 0 [(0, .ref q0)] [] [(q0, .inr (9, [.int ro, .int co, .int sl, .ref q3, .ref q4, .int sn, .ref q6, .ref q7, .ref q8, .ref q9, .int (nI ts), .int ra, .int rr, .int rw, .ref q14, .ref q15, .int rn, .ref q17, .ref q18, .ref q19, .int um, .int bs, .int bh, .ref q23, .ref q24, .ref q25, .int km]))] := by
  refine J_aload_n h (i := 0) dX9_wipe_0 rfl 0 rfl ?_
  refine J_get h inX9 rfl 0 10 (by decide) rfl rfl nf_X9_78 dX9_wipe_1 ?_
  refine J_istore_n h (i := 1) (lv' := [(1, .int (nI ts)), (0, .ref q0)]) dX9_wipe_4 rfl (by decide) rfl ?_
  refine J_aload_n h (i := 0) dX9_wipe_5 rfl 1 rfl ?_
  refine J_iconst h (v := nI 0) dX9_wipe_6 (by decide) ?_
  refine J_put h (ws' := [(q0, .inr (9, [.int ro, .int co, .int sl, .ref q3, .ref q4, .int sn, .ref q6, .ref q7, .ref q8, .ref q9, .int (nI 0), .int ra, .int rr, .int rw, .ref q14, .ref q15, .int rn, .ref q17, .ref q18, .ref q19, .int um, .int bs, .int bh, .ref q23, .ref q24, .ref q25, .int km]))]) inX9 tyX9 tyX9_ok nmX9 rfl 0 10 (by decide) rfl nf_X9_78 rfl rfl rfl rfl (Nat.le_of_ble_eq_true rfl) dX9_wipe_7 rfl ?_
  refine J_iload_n h (i := 1) dX9_wipe_10 rfl 0 rfl ?_
  exact hR (nI ts) () (⟨rfl, trivial⟩) 11 _ dX9_wipe_11
theorem c_X9_wipe (l : Launch) (D : va_G) (cI cE : ClassId) (q0 : Nat) (q3 : Nat) (q4 : Nat) (q6 : Nat) (q7 : Nat) (q8 : Nat) (q9 : Nat) (q14 : Nat) (q15 : Nat) (q17 : Nat) (q18 : Nat) (q19 : Nat) (q23 : Nat) (q24 : Nat) (q25 : Nat) (ro : Int32) (co : Int32) (sl : Int32) (sn : Int32) (ts : Nat) (ra : Int32) (rr : Int32) (rw : Int32) (rn : Int32) (um : Int32) (bs : Int32) (bh : Int32) (km : Int32)  : Ci l D cI cE yX9_wipe cX9_wipe 2 (some .int) 0 0 0 [.ref q0] [(q0, .inr (9, [.int ro, .int co, .int sl, .ref q3, .ref q4, .int sn, .ref q6, .ref q7, .ref q8, .ref q9, .int (nI ts), .int ra, .int rr, .int rw, .ref q14, .ref q15, .int rn, .ref q17, .ref q18, .ref q19, .int um, .int bs, .int bh, .ref q23, .ref q24, .ref q25, .int km]))] (fun (r : Int32) (u : Unit) => ((nI ts = r) ∧ (True))) (fun (u : Unit) => ([(q0, .inr (9, [.int ro, .int co, .int sl, .ref q3, .ref q4, .int sn, .ref q6, .ref q7, .ref q8, .ref q9, .int (nI 0), .int ra, .int rr, .int rw, .ref q14, .ref q15, .int rn, .ref q17, .ref q18, .ref q19, .int um, .int bs, .int bh, .ref q23, .ref q24, .ref q25, .int km]))] : va_W)) :=
  Ci.of (by decide) (Nat.le_of_ble_eq_true rfl) (fun _ _ _ => rfl) (fun X h hR => w_X9_wipe X h q0 q3 q4 q6 q7 q8 q9 q14 q15 q17 q18 q19 q23 q24 q25 ro co sl sn ts ra rr rw rn um bs bh km hR)
theorem yv_X9_wipe : YV yX9_wipe cX9_wipe 2 (some .int) 0 := ⟨no_X9_wipe, nv_X9_wipe, ni_X9, nk_X9_wipe, by decide +kernel⟩
set_option maxRecDepth 100000 in
set_option maxHeartbeats 4000000 in
theorem w_X9_slower (X : Cx) {cI cE : ClassId} (h : Ok X cX9_slower RX9 3 cI cE 0 0 0) (p0 : Int32) (p1 : Nat) (h0 : 0 ≤ p0.toInt ∧ p0.toInt ≤ 3) (hp1 : p1 ≤ 20) (hR : ∀ (r : Int32) (u : Unit), ((nI (spd p0 p1) = r) ∧ (True)) → RetI X cX9_slower 3 0 0 r []) : J X 3 0 0 0 [(0, .int p0), (1, .int (nI p1))] [] [] := by
  refine J_iload_n h (i := 0) dX9_slower_0 rfl 0 rfl ?_
  refine J_iconst h (v := nI 1) dX9_slower_1 (by decide) ?_
  refine T_icmp_ne h (A := (p0).toInt) (B := 1) 11 dX9_slower_2 (by decide) (rfl) (nI_toInt (by omega)) (fun c_2 => ?_) (fun c_2 => ?_)
  · skip
    refine J_iload_n h (i := 0) dX9_slower_11 rfl 0 rfl ?_
    refine J_iconst h (v := nI 2) dX9_slower_12 (by decide) ?_
    refine T_icmp_ne h (A := (p0).toInt) (B := 2) 22 dX9_slower_13 (by decide) (rfl) (nI_toInt (by omega)) (fun c_13 => ?_) (fun c_13 => ?_)
    · skip
      refine J_iload_n h (i := 1) dX9_slower_22 rfl 1 rfl ?_
      refine J_iconst h (v := nI 2) dX9_slower_23 (by decide) ?_
      refine J_isub h dX9_slower_24 ?_
      refine J_istore_n h (i := 2) (lv' := [(2, .int ((nI p1) - (nI 2))), (0, .int p0), (1, .int (nI p1))]) dX9_slower_25 rfl (by decide) rfl ?_
      refine J_iload_n h (i := 2) dX9_slower_26 rfl 0 rfl ?_
      refine T_if_ge h (A := ((p1 : Nat) : Int) - ((2 : Nat) : Int)) 34 dX9_slower_27 (by decide) (pk_sub_toInt (by omega) (by omega)) (fun c_27 => ?_) (fun c_27 => ?_)
      · skip
        refine J_eql (lv' := [(2, .int (nI (p1 - 2))), (0, .int p0), (1, .int (nI p1))]) (by rw [show nI p1 - nI 2 = nI (p1 - 2) from pk_sub (by omega)]) ?_
        refine J_iload_n h (i := 2) dX9_slower_34 rfl 0 rfl ?_
        refine J_bipush h (v := nI 20) dX9_slower_35 (by decide) ?_
        refine N_icmp_le h 45 dX9_slower_37 (by decide) (by omega) (by omega) (fun c_37 => ?_) (fun c_37 => ?_)
        · skip
          refine J_iload_n h (i := 0) dX9_slower_45 rfl 1 rfl ?_
          refine J_iconst h (v := nI 3) dX9_slower_46 (by decide) ?_
          refine T_icmp_ne h (A := (p0).toInt) (B := 3) 56 dX9_slower_47 (by decide) (rfl) (nI_toInt (by omega)) (fun c_47 => ?_) (fun c_47 => ?_)
          · skip
            refine J_iload_n h (i := 2) dX9_slower_56 rfl 0 rfl ?_
            exact hR (nI (p1 - 2)) () (⟨(by refine congrArg nI ?_; rw [spd_0 h0.1 h0.2]; (repeat' split) <;> omega), trivial⟩) 57 _ dX9_slower_57
          · skip
            refine J_iload_n h (i := 2) dX9_slower_50 rfl 0 rfl ?_
            refine J_iconst h (v := nI 2) dX9_slower_51 (by decide) ?_
            refine N_idiv h (by omega) (by omega) (by omega) dX9_slower_52 ?_
            refine J_goto h 57 dX9_slower_53 (by decide) ?_
            exact hR (nI ((p1 - 2) / 2)) () (⟨(by refine congrArg nI ?_; rw [spd_0 h0.1 h0.2]; (repeat' split) <;> omega), trivial⟩) 57 _ dX9_slower_57
        · skip
          refine J_bipush h (v := nI 20) dX9_slower_40 (by decide) ?_
          refine J_goto h 57 dX9_slower_42 (by decide) ?_
          exact hR (nI 20) () (⟨(by refine congrArg nI ?_; rw [spd_0 h0.1 h0.2]; (repeat' split) <;> omega), trivial⟩) 57 _ dX9_slower_57
      · skip
        refine J_iconst h (v := nI 0) dX9_slower_30 (by decide) ?_
        refine J_goto h 57 dX9_slower_31 (by decide) ?_
        exact hR (nI 0) () (⟨(by refine congrArg nI ?_; rw [spd_0 h0.1 h0.2]; (repeat' split) <;> omega), trivial⟩) 57 _ dX9_slower_57
    · skip
      refine J_iload_n h (i := 1) dX9_slower_16 rfl 1 rfl ?_
      refine J_iconst h (v := nI 5) dX9_slower_17 (by decide) ?_
      refine J_isub h dX9_slower_18 ?_
      refine J_goto h 25 dX9_slower_19 (by decide) ?_
      refine J_istore_n h (i := 2) (lv' := [(2, .int ((nI p1) - (nI 5))), (0, .int p0), (1, .int (nI p1))]) dX9_slower_25 rfl (by decide) rfl ?_
      refine J_iload_n h (i := 2) dX9_slower_26 rfl 0 rfl ?_
      refine T_if_ge h (A := ((p1 : Nat) : Int) - ((5 : Nat) : Int)) 34 dX9_slower_27 (by decide) (pk_sub_toInt (by omega) (by omega)) (fun c_27 => ?_) (fun c_27 => ?_)
      · skip
        refine J_eql (lv' := [(2, .int (nI (p1 - 5))), (0, .int p0), (1, .int (nI p1))]) (by rw [show nI p1 - nI 5 = nI (p1 - 5) from pk_sub (by omega)]) ?_
        refine J_iload_n h (i := 2) dX9_slower_34 rfl 0 rfl ?_
        refine J_bipush h (v := nI 20) dX9_slower_35 (by decide) ?_
        refine N_icmp_le h 45 dX9_slower_37 (by decide) (by omega) (by omega) (fun c_37 => ?_) (fun c_37 => ?_)
        · skip
          refine J_iload_n h (i := 0) dX9_slower_45 rfl 1 rfl ?_
          refine J_iconst h (v := nI 3) dX9_slower_46 (by decide) ?_
          refine T_icmp_ne h (A := (p0).toInt) (B := 3) 56 dX9_slower_47 (by decide) (rfl) (nI_toInt (by omega)) (fun c_47 => ?_) (fun c_47 => ?_)
          · skip
            refine J_iload_n h (i := 2) dX9_slower_56 rfl 0 rfl ?_
            exact hR (nI (p1 - 5)) () (⟨(by refine congrArg nI ?_; rw [spd_0 h0.1 h0.2]; (repeat' split) <;> omega), trivial⟩) 57 _ dX9_slower_57
          · skip
            refine J_iload_n h (i := 2) dX9_slower_50 rfl 0 rfl ?_
            refine J_iconst h (v := nI 2) dX9_slower_51 (by decide) ?_
            refine N_idiv h (by omega) (by omega) (by omega) dX9_slower_52 ?_
            refine J_goto h 57 dX9_slower_53 (by decide) ?_
            exact hR (nI ((p1 - 5) / 2)) () (⟨(by refine congrArg nI ?_; rw [spd_0 h0.1 h0.2]; (repeat' split) <;> omega), trivial⟩) 57 _ dX9_slower_57
        · skip
          refine J_bipush h (v := nI 20) dX9_slower_40 (by decide) ?_
          refine J_goto h 57 dX9_slower_42 (by decide) ?_
          exact hR (nI 20) () (⟨(by refine congrArg nI ?_; rw [spd_0 h0.1 h0.2]; (repeat' split) <;> omega), trivial⟩) 57 _ dX9_slower_57
      · skip
        refine J_iconst h (v := nI 0) dX9_slower_30 (by decide) ?_
        refine J_goto h 57 dX9_slower_31 (by decide) ?_
        exact hR (nI 0) () (⟨(by refine congrArg nI ?_; rw [spd_0 h0.1 h0.2]; (repeat' split) <;> omega), trivial⟩) 57 _ dX9_slower_57
  · skip
    refine J_iload_n h (i := 1) dX9_slower_5 rfl 1 rfl ?_
    refine J_iconst h (v := nI 1) dX9_slower_6 (by decide) ?_
    refine N_iadd h dX9_slower_7 ?_
    refine J_goto h 25 dX9_slower_8 (by decide) ?_
    refine J_istore_n h (i := 2) (lv' := [(2, .int (nI (p1 + 1))), (0, .int p0), (1, .int (nI p1))]) dX9_slower_25 rfl (by decide) rfl ?_
    refine J_iload_n h (i := 2) dX9_slower_26 rfl 0 rfl ?_
    refine N_if_ge h 34 dX9_slower_27 (by decide) (by omega) ?_
    refine J_iload_n h (i := 2) dX9_slower_34 rfl 0 rfl ?_
    refine J_bipush h (v := nI 20) dX9_slower_35 (by decide) ?_
    refine N_icmp_le h 45 dX9_slower_37 (by decide) (by omega) (by omega) (fun c_37 => ?_) (fun c_37 => ?_)
    · skip
      refine J_iload_n h (i := 0) dX9_slower_45 rfl 1 rfl ?_
      refine J_iconst h (v := nI 3) dX9_slower_46 (by decide) ?_
      refine T_icmp_ne h (A := (p0).toInt) (B := 3) 56 dX9_slower_47 (by decide) (rfl) (nI_toInt (by omega)) (fun c_47 => ?_) (fun c_47 => ?_)
      · skip
        refine J_iload_n h (i := 2) dX9_slower_56 rfl 0 rfl ?_
        exact hR (nI (p1 + 1)) () (⟨(by refine congrArg nI ?_; rw [spd_0 h0.1 h0.2]; (repeat' split) <;> omega), trivial⟩) 57 _ dX9_slower_57
      · skip
        refine J_iload_n h (i := 2) dX9_slower_50 rfl 0 rfl ?_
        refine J_iconst h (v := nI 2) dX9_slower_51 (by decide) ?_
        refine N_idiv h (by omega) (by omega) (by omega) dX9_slower_52 ?_
        refine J_goto h 57 dX9_slower_53 (by decide) ?_
        exact hR (nI ((p1 + 1) / 2)) () (⟨(by refine congrArg nI ?_; rw [spd_0 h0.1 h0.2]; (repeat' split) <;> omega), trivial⟩) 57 _ dX9_slower_57
    · skip
      refine J_bipush h (v := nI 20) dX9_slower_40 (by decide) ?_
      refine J_goto h 57 dX9_slower_42 (by decide) ?_
      exact hR (nI 20) () (⟨(by refine congrArg nI ?_; rw [spd_0 h0.1 h0.2]; (repeat' split) <;> omega), trivial⟩) 57 _ dX9_slower_57
theorem c_X9_slower (l : Launch) (D : va_G) (cI cE : ClassId) (p0 : Int32) (p1 : Nat) (h0 : 0 ≤ p0.toInt ∧ p0.toInt ≤ 3) (hp1 : p1 ≤ 20) : Ci l D cI cE yX9_slower cX9_slower 3 (some .int) 0 0 0 [.int p0, .int (nI p1)] [] (fun (r : Int32) (u : Unit) => ((nI (spd p0 p1) = r) ∧ (True))) (fun (u : Unit) => ([] : va_W)) :=
  Ci.of (by decide) (Nat.le_of_ble_eq_true rfl) (fun _ _ _ => rfl) (fun X h hR => w_X9_slower X h p0 p1 h0 hp1 hR)
theorem yv_X9_slower : YS yX9_slower cX9_slower 3 (some .int) 2 := ⟨ns_X9_slower, ni_X9, nk_X9_slower, by decide +kernel⟩
set_option maxRecDepth 100000 in
set_option maxHeartbeats 4000000 in
theorem w_X9_goes_130 (X : Cx) {cI cE : ClassId} (h : Ok X cX9_goes RX9 11 cI cE 2 0 0) (q0 : Nat) (q3 : Nat) (q4 : Nat) (q6 : Nat) (q7 : Nat) (q8 : Nat) (q9 : Nat) (q14 : Nat) (q15 : Nat) (q17 : Nat) (q18 : Nat) (q19 : Nat) (q23 : Nat) (q24 : Nat) (q25 : Nat) (ro : Nat) (co : Nat) (sl : Int32) (sn : Int32) (ts : Int32) (ra : Int32) (rr : Int32) (rw : Int32) (rn : Int32) (um : Int32) (bs : Int32) (bh : Int32) (km : Int32) (th : Nat → Int32) (ce : Nat → Int32) (se : Nat → Int32) (cth : Nat → Int32) (x : Nat) (w : Nat) (hh : Nat) (hrc : ro * co ≤ 48) (hco : co ≤ 6) (hro : ro ≤ 8) (hx : x < co) (hw : w ≤ 20) (hhh : hh ≤ 18) (hth : relT (ro * co) th cth) (hR : ∀ (r : Int32) (u : (Nat → Int32) × (Nat → Int32)), ((nI (ren cth co ro hh x w) = r) ∧ (∀ k, k < rln cth co ro hh x w → u.1 k = nI (rcl cth co hh x w k)) ∧ (∀ k, k < rln cth co ro hh x w → u.2 k = nI (rst cth co hh x w (k + 1)).2) ∧ (∀ k, rln cth co ro hh x w ≤ k → k < 8 → u.1 k = (-4)) ∧ (∀ k, rln cth co ro hh x w ≤ k → k < 8 → u.2 k = (-4)) ∧ (True)) → RetI X cX9_goes 11 0 0 r [(q0, .inr (9, [.int (nI ro), .int (nI co), .int sl, .ref q3, .ref q4, .int sn, .ref q6, .ref q7, .ref q8, .ref q9, .int ts, .int ra, .int rr, .int rw, .ref q14, .ref q15, .int rn, .ref q17, .ref q18, .ref q19, .int um, .int bs, .int bh, .ref q23, .ref q24, .ref q25, .int km])), (q3, .inl (cI, 48, .inl th)), (q17, .inl (cI, 8, .inl u.1)), (q18, .inl (cI, 8, .inl u.2))]) (n_61 : Nat) (ih_61 : ∀ (r : Nat) (x1 : Nat) (v1 : Nat) (ce1 : Nat → Int32) (se1 : Nat → Int32) (dg : Int32), (r ≤ ro) → (x1 = (rst cth co hh x w r).1) → (v1 = (rst cth co hh x w r).2) → (∀ k, k < r → (rst cth co hh x w (k + 1)).2 ≠ 0) → (∀ k, k < r → ce1 k = nI (rcl cth co hh x w k)) → (∀ k, k < r → se1 k = nI (rst cth co hh x w (k + 1)).2) → (∀ k, r ≤ k → k < 8 → ce1 k = (-4)) → (∀ k, r ≤ k → k < 8 → se1 k = (-4)) → (dg.toInt = (hrow hh : Int) - 1) → ro - r < n_61 → J X 11 0 0 61 [(0, .ref q0), (3, .int (nI hh)), (4, .int (nI x1)), (6, .int dg), (7, .int (nI r)), (5, .int (nI v1))] [] [(q0, .inr (9, [.int (nI ro), .int (nI co), .int sl, .ref q3, .ref q4, .int sn, .ref q6, .ref q7, .ref q8, .ref q9, .int ts, .int ra, .int rr, .int rw, .ref q14, .ref q15, .int rn, .ref q17, .ref q18, .ref q19, .int um, .int bs, .int bh, .ref q23, .ref q24, .ref q25, .int km])), (q3, .inl (cI, 48, .inl th)), (q17, .inl (cI, 8, .inl ce1)), (q18, .inl (cI, 8, .inl se1))]) : ∀ (r : Nat) (x1 : Nat) (v1 : Nat) (v2 : Nat) (tf : Nat) (ce1 : Nat → Int32) (se1 : Nat → Int32) (dg : Int32), (r < ro) → (x1 = (rst cth co hh x w r).1) → (v1 = (rst cth co hh x w r).2) → (∀ k, k < r → (rst cth co hh x w (k + 1)).2 ≠ 0) → (∀ k, k < r → ce1 k = nI (rcl cth co hh x w k)) → (∀ k, k < r → se1 k = nI (rst cth co hh x w (k + 1)).2) → (∀ k, r ≤ k → k < 8 → ce1 k = (-4)) → (∀ k, r ≤ k → k < 8 → se1 k = (-4)) → (dg.toInt = (hrow hh : Int) - 1) → (v2 = (rst cth co hh x w (r + 1)).2) → ((tf = 1 ∧ 0 < spd (cth (r * co + x1)) v1 ∧ r + 1 = hrow hh) ∨ (tf = 0 ∧ ¬ (0 < spd (cth (r * co + x1)) v1 ∧ r + 1 = hrow hh))) → (ro - r < n_61 + 1) → J X 11 0 0 130 [(0, .ref q0), (3, .int (nI hh)), (4, .int (nI x1)), (6, .int dg), (7, .int (nI r)), (5, .int (nI v2)), (8, .int (nI (r * co + x1))), (9, .int (nI tf))] [] [(q0, .inr (9, [.int (nI ro), .int (nI co), .int sl, .ref q3, .ref q4, .int sn, .ref q6, .ref q7, .ref q8, .ref q9, .int ts, .int ra, .int rr, .int rw, .ref q14, .ref q15, .int rn, .ref q17, .ref q18, .ref q19, .int um, .int bs, .int bh, .ref q23, .ref q24, .ref q25, .int km])), (q3, .inl (cI, 48, .inl th)), (q17, .inl (cI, 8, .inl ce1)), (q18, .inl (cI, 8, .inl se1))] := by
  intro r x1 v1 v2 tf ce1 se1 dg hr ex ev hnot hce hse hcn hsn hq ev2 htf hm
  have hin := rst_in cth (hh := hh) hx hw r
  have hin2 := rst_in cth (hh := hh) hx hw (r + 1)
  rw [← ex] at hin
  rw [← ev2] at hin2
  refine J_aload_n h (i := 0) dX9_goes_130 rfl 0 rfl ?_
  refine J_get h inX9 rfl 0 17 (by decide) rfl rfl nf_X9_34 dX9_goes_131 ?_
  refine J_iload h dX9_goes_134 4 rfl ?_
  refine J_iload h dX9_goes_136 6 rfl ?_
  refine N_iast h (ws' := [(q0, .inr (9, [.int (nI ro), .int (nI co), .int sl, .ref q3, .ref q4, .int sn, .ref q6, .ref q7, .ref q8, .ref q9, .int ts, .int ra, .int rr, .int rw, .ref q14, .ref q15, .int rn, .ref q17, .ref q18, .ref q19, .int um, .int bs, .int bh, .ref q23, .ref q24, .ref q25, .int km])), (q3, .inl (cI, 48, .inl th)), (q17, .inl (cI, 8, .inl (upd ce1 r (nI (r * co + x1))))), (q18, .inl (cI, 8, .inl se1))]) 2 rfl (by decide) (by omega) dX9_goes_138 rfl ?_
  refine J_aload_n h (i := 0) dX9_goes_139 rfl 0 rfl ?_
  refine J_get h inX9 rfl 0 18 (by decide) rfl rfl nf_X9_37 dX9_goes_140 ?_
  refine J_iload h dX9_goes_143 4 rfl ?_
  refine J_iload h dX9_goes_145 5 rfl ?_
  refine N_iast h (ws' := [(q0, .inr (9, [.int (nI ro), .int (nI co), .int sl, .ref q3, .ref q4, .int sn, .ref q6, .ref q7, .ref q8, .ref q9, .int ts, .int ra, .int rr, .int rw, .ref q14, .ref q15, .int rn, .ref q17, .ref q18, .ref q19, .int um, .int bs, .int bh, .ref q23, .ref q24, .ref q25, .int km])), (q3, .inl (cI, 48, .inl th)), (q17, .inl (cI, 8, .inl (upd ce1 r (nI (r * co + x1))))), (q18, .inl (cI, 8, .inl (upd se1 r (nI v2))))]) 3 rfl (by decide) (by omega) dX9_goes_147 rfl ?_
  refine J_iload h dX9_goes_148 5 rfl ?_
  refine N_if_ne h 156 dX9_goes_150 (by decide) (by omega) (fun c_150 => ?_) (fun c_150 => ?_)
  · skip
    refine J_iload_n h (i := 3) dX9_goes_156 rfl 1 rfl ?_
    refine J_bipush h (v := nI 10) dX9_goes_157 (by decide) ?_
    refine N_icmp_le h 169 dX9_goes_159 (by decide) (by omega) (by omega) (fun c_159 => ?_) (fun c_159 => ?_)
    · skip
      refine J_iload h dX9_goes_169 2 rfl ?_
      refine J_iconst h (v := nI 1) dX9_goes_171 (by decide) ?_
      refine J_isub h dX9_goes_172 ?_
      refine J_istore h (lv' := [(10, .int ((nI x1) - (nI 1))), (0, .ref q0), (3, .int (nI hh)), (4, .int (nI x1)), (6, .int dg), (7, .int (nI r)), (5, .int (nI v2)), (8, .int (nI (r * co + x1))), (9, .int (nI tf))]) dX9_goes_173 (by decide) rfl ?_
      refine J_iload h dX9_goes_175 8 rfl ?_
      refine N_if_eq h 194 dX9_goes_177 (by decide) (by omega) (fun c_177 => ?_) (fun c_177 => ?_)
      · skip
        refine J_iload h dX9_goes_194 3 rfl ?_
        refine J_istore h (lv' := [(4, .int (nI x1)), (10, .int ((nI x1) - (nI 1))), (0, .ref q0), (3, .int (nI hh)), (6, .int dg), (7, .int (nI r)), (5, .int (nI v2)), (8, .int (nI (r * co + x1))), (9, .int (nI tf))]) dX9_goes_196 (by decide) rfl ?_
        refine J_iinc h (v := nI (r + 1)) (lv' := [(7, .int (nI (r + 1))), (4, .int (nI x1)), (10, .int ((nI x1) - (nI 1))), (0, .ref q0), (3, .int (nI hh)), (6, .int dg), (5, .int (nI v2)), (8, .int (nI (r * co + x1))), (9, .int (nI tf))]) dX9_goes_198 5 rfl (inc_ok _ 1) (by decide) rfl ?_
        refine J_goto h 61 dX9_goes_201 (by decide) ?_
        refine J.loc [3, 4, 1, 5, 0, 6] (lv' := [(0, .ref q0), (3, .int (nI hh)), (4, .int (nI x1)), (6, .int dg), (7, .int (nI (r + 1))), (5, .int (nI v2))]) rfl ?_
        exact ih_61 (r + 1) x1 v2 (upd ce1 r (nI (r * co + x1))) (upd se1 r (nI v2)) dg (by first | exact hr |  assumption | omega | rfl) (by rw [rst_s, ← ex, ← ev]; first | (rw [if_pos ⟨by omega, by omega⟩]; show _ = mvx co hh x1; unfold mvx; (repeat' split) <;> omega) | (rw [if_neg (by omega)])) (by exact ev2) (by exact lt_s hnot (by rw [← ev2]; omega)) (by exact upd_extN hce (by rw [ex]; rfl)) (by exact upd_extN hse (by rw [ev2])) (by exact upd_up hcn) (by exact upd_up hsn) (by first | exact hq |  assumption | omega | rfl) (by omega)
      · skip
        refine J_aload_n h (i := 0) dX9_goes_180 rfl 1 rfl ?_
        refine J_iload h dX9_goes_181 0 rfl ?_
        refine K_vi h (wr := [(q3, .inl (cI, 48, .inl th)), (q17, .inl (cI, 8, .inl (upd ce1 r (nI (r * co + x1))))), (q18, .inl (cI, 8, .inl (upd se1 r (nI v2))))]) (c_X9_isColumnT (xl X) (xD X) cI cE q0 q3 q4 q6 q7 q8 q9 q14 q15 q17 q18 q19 q23 q24 q25 ro co sl sn ts ra rr rw rn um bs bh km ((nI x1) - (nI 1)) (((x1 : Nat) : Int) - ((1 : Nat) : Int)) (by first | exact hco |  assumption | omega | rfl) (by exact pk_sub_toInt (by omega) (by omega))) yv_X9_isColumn nm_X9_71 (by decide) (by decide) rfl rfl 0 rfl rfl rfl rfl (Nat.le_of_ble_eq_true rfl) (Nat.le_refl _) (Nat.le_refl _) dX9_goes_183 (fun r_183 u_183 p_183 => ?_)
        rcases p_183 with p_183 | p_183
        · obtain ⟨rfl, f0_183, -⟩ := p_183
          show J X 11 0 0 186 [(10, .int ((nI x1) - (nI 1))), (0, .ref q0), (3, .int (nI hh)), (4, .int (nI x1)), (6, .int dg), (7, .int (nI r)), (5, .int (nI v2)), (8, .int (nI (r * co + x1))), (9, .int (nI tf))] [.int (nI 1)] [(q0, .inr (9, [.int (nI ro), .int (nI co), .int sl, .ref q3, .ref q4, .int sn, .ref q6, .ref q7, .ref q8, .ref q9, .int ts, .int ra, .int rr, .int rw, .ref q14, .ref q15, .int rn, .ref q17, .ref q18, .ref q19, .int um, .int bs, .int bh, .ref q23, .ref q24, .ref q25, .int km])), (q3, .inl (cI, 48, .inl th)), (q17, .inl (cI, 8, .inl (upd ce1 r (nI (r * co + x1))))), (q18, .inl (cI, 8, .inl (upd se1 r (nI v2))))]
          refine J_if_eq h 194 dX9_goes_186 (by decide) (fun z => absurd z (by decide)) (fun _ => ?_)
          refine J_iload h dX9_goes_189 0 rfl ?_
          refine J_goto h 196 dX9_goes_191 (by decide) ?_
          refine J_eqs (st' := [.int (nI (x1 - 1))]) (by rw [show nI x1 - nI 1 = nI (x1 - 1) from pk_sub (by omega)]) ?_
          refine J_istore h (lv' := [(4, .int (nI (x1 - 1))), (10, .int ((nI x1) - (nI 1))), (0, .ref q0), (3, .int (nI hh)), (6, .int dg), (7, .int (nI r)), (5, .int (nI v2)), (8, .int (nI (r * co + x1))), (9, .int (nI tf))]) dX9_goes_196 (by decide) rfl ?_
          refine J_iinc h (v := nI (r + 1)) (lv' := [(7, .int (nI (r + 1))), (4, .int (nI (x1 - 1))), (10, .int ((nI x1) - (nI 1))), (0, .ref q0), (3, .int (nI hh)), (6, .int dg), (5, .int (nI v2)), (8, .int (nI (r * co + x1))), (9, .int (nI tf))]) dX9_goes_198 5 rfl (inc_ok _ 1) (by decide) rfl ?_
          refine J_goto h 61 dX9_goes_201 (by decide) ?_
          refine J.loc [3, 4, 1, 5, 0, 6] (lv' := [(0, .ref q0), (3, .int (nI hh)), (4, .int (nI (x1 - 1))), (6, .int dg), (7, .int (nI (r + 1))), (5, .int (nI v2))]) rfl ?_
          exact ih_61 (r + 1) (x1 - 1) v2 (upd ce1 r (nI (r * co + x1))) (upd se1 r (nI v2)) dg (by first | exact hr |  assumption | omega | rfl) (by rw [rst_s, ← ex, ← ev]; first | (rw [if_pos ⟨by omega, by omega⟩]; show _ = mvx co hh x1; unfold mvx; (repeat' split) <;> omega) | (rw [if_neg (by omega)])) (by exact ev2) (by exact lt_s hnot (by rw [← ev2]; omega)) (by exact upd_extN hce (by rw [ex]; rfl)) (by exact upd_extN hse (by rw [ev2])) (by exact upd_up hcn) (by exact upd_up hsn) (by first | exact hq |  assumption | omega | rfl) (by omega)
        · obtain ⟨rfl, f0_183, -⟩ := p_183
          show J X 11 0 0 186 [(10, .int ((nI x1) - (nI 1))), (0, .ref q0), (3, .int (nI hh)), (4, .int (nI x1)), (6, .int dg), (7, .int (nI r)), (5, .int (nI v2)), (8, .int (nI (r * co + x1))), (9, .int (nI tf))] [.int (nI 0)] [(q0, .inr (9, [.int (nI ro), .int (nI co), .int sl, .ref q3, .ref q4, .int sn, .ref q6, .ref q7, .ref q8, .ref q9, .int ts, .int ra, .int rr, .int rw, .ref q14, .ref q15, .int rn, .ref q17, .ref q18, .ref q19, .int um, .int bs, .int bh, .ref q23, .ref q24, .ref q25, .int km])), (q3, .inl (cI, 48, .inl th)), (q17, .inl (cI, 8, .inl (upd ce1 r (nI (r * co + x1))))), (q18, .inl (cI, 8, .inl (upd se1 r (nI v2))))]
          refine J_if_eq h 194 dX9_goes_186 (by decide) (fun _ => ?_) (fun z => absurd z (by decide))
          refine J_iload h dX9_goes_194 3 rfl ?_
          refine J_istore h (lv' := [(4, .int (nI x1)), (10, .int ((nI x1) - (nI 1))), (0, .ref q0), (3, .int (nI hh)), (6, .int dg), (7, .int (nI r)), (5, .int (nI v2)), (8, .int (nI (r * co + x1))), (9, .int (nI tf))]) dX9_goes_196 (by decide) rfl ?_
          refine J_iinc h (v := nI (r + 1)) (lv' := [(7, .int (nI (r + 1))), (4, .int (nI x1)), (10, .int ((nI x1) - (nI 1))), (0, .ref q0), (3, .int (nI hh)), (6, .int dg), (5, .int (nI v2)), (8, .int (nI (r * co + x1))), (9, .int (nI tf))]) dX9_goes_198 5 rfl (inc_ok _ 1) (by decide) rfl ?_
          refine J_goto h 61 dX9_goes_201 (by decide) ?_
          refine J.loc [3, 4, 1, 5, 0, 6] (lv' := [(0, .ref q0), (3, .int (nI hh)), (4, .int (nI x1)), (6, .int dg), (7, .int (nI (r + 1))), (5, .int (nI v2))]) rfl ?_
          exact ih_61 (r + 1) x1 v2 (upd ce1 r (nI (r * co + x1))) (upd se1 r (nI v2)) dg (by first | exact hr |  assumption | omega | rfl) (by rw [rst_s, ← ex, ← ev]; first | (rw [if_pos ⟨by omega, by omega⟩]; show _ = mvx co hh x1; unfold mvx; (repeat' split) <;> omega) | (rw [if_neg (by omega)])) (by exact ev2) (by exact lt_s hnot (by rw [← ev2]; omega)) (by exact upd_extN hce (by rw [ex]; rfl)) (by exact upd_extN hse (by rw [ev2])) (by exact upd_up hcn) (by exact upd_up hsn) (by first | exact hq |  assumption | omega | rfl) (by omega)
    · skip
      refine J_iload h dX9_goes_162 2 rfl ?_
      refine J_iconst h (v := nI 1) dX9_goes_164 (by decide) ?_
      refine N_iadd h dX9_goes_165 ?_
      refine J_goto h 173 dX9_goes_166 (by decide) ?_
      refine J_istore h (lv' := [(10, .int (nI (x1 + 1))), (0, .ref q0), (3, .int (nI hh)), (4, .int (nI x1)), (6, .int dg), (7, .int (nI r)), (5, .int (nI v2)), (8, .int (nI (r * co + x1))), (9, .int (nI tf))]) dX9_goes_173 (by decide) rfl ?_
      refine J_iload h dX9_goes_175 8 rfl ?_
      refine N_if_eq h 194 dX9_goes_177 (by decide) (by omega) (fun c_177 => ?_) (fun c_177 => ?_)
      · skip
        refine J_iload h dX9_goes_194 3 rfl ?_
        refine J_istore h (lv' := [(4, .int (nI x1)), (10, .int (nI (x1 + 1))), (0, .ref q0), (3, .int (nI hh)), (6, .int dg), (7, .int (nI r)), (5, .int (nI v2)), (8, .int (nI (r * co + x1))), (9, .int (nI tf))]) dX9_goes_196 (by decide) rfl ?_
        refine J_iinc h (v := nI (r + 1)) (lv' := [(7, .int (nI (r + 1))), (4, .int (nI x1)), (10, .int (nI (x1 + 1))), (0, .ref q0), (3, .int (nI hh)), (6, .int dg), (5, .int (nI v2)), (8, .int (nI (r * co + x1))), (9, .int (nI tf))]) dX9_goes_198 5 rfl (inc_ok _ 1) (by decide) rfl ?_
        refine J_goto h 61 dX9_goes_201 (by decide) ?_
        refine J.loc [3, 4, 1, 5, 0, 6] (lv' := [(0, .ref q0), (3, .int (nI hh)), (4, .int (nI x1)), (6, .int dg), (7, .int (nI (r + 1))), (5, .int (nI v2))]) rfl ?_
        exact ih_61 (r + 1) x1 v2 (upd ce1 r (nI (r * co + x1))) (upd se1 r (nI v2)) dg (by first | exact hr |  assumption | omega | rfl) (by rw [rst_s, ← ex, ← ev]; first | (rw [if_pos ⟨by omega, by omega⟩]; show _ = mvx co hh x1; unfold mvx; (repeat' split) <;> omega) | (rw [if_neg (by omega)])) (by exact ev2) (by exact lt_s hnot (by rw [← ev2]; omega)) (by exact upd_extN hce (by rw [ex]; rfl)) (by exact upd_extN hse (by rw [ev2])) (by exact upd_up hcn) (by exact upd_up hsn) (by first | exact hq |  assumption | omega | rfl) (by omega)
      · skip
        refine J_aload_n h (i := 0) dX9_goes_180 rfl 1 rfl ?_
        refine J_iload h dX9_goes_181 0 rfl ?_
        refine K_vi h (wr := [(q3, .inl (cI, 48, .inl th)), (q17, .inl (cI, 8, .inl (upd ce1 r (nI (r * co + x1))))), (q18, .inl (cI, 8, .inl (upd se1 r (nI v2))))]) (c_X9_isColumnT (xl X) (xD X) cI cE q0 q3 q4 q6 q7 q8 q9 q14 q15 q17 q18 q19 q23 q24 q25 ro co sl sn ts ra rr rw rn um bs bh km (nI (x1 + 1)) (((x1 + 1 : Nat) : Int)) (by first | exact hco |  assumption | omega | rfl) (by exact nI_toInt (by omega))) yv_X9_isColumn nm_X9_71 (by decide) (by decide) rfl rfl 0 rfl rfl rfl rfl (Nat.le_of_ble_eq_true rfl) (Nat.le_refl _) (Nat.le_refl _) dX9_goes_183 (fun r_183 u_183 p_183 => ?_)
        rcases p_183 with p_183 | p_183
        · obtain ⟨rfl, f0_183, -⟩ := p_183
          show J X 11 0 0 186 [(10, .int (nI (x1 + 1))), (0, .ref q0), (3, .int (nI hh)), (4, .int (nI x1)), (6, .int dg), (7, .int (nI r)), (5, .int (nI v2)), (8, .int (nI (r * co + x1))), (9, .int (nI tf))] [.int (nI 1)] [(q0, .inr (9, [.int (nI ro), .int (nI co), .int sl, .ref q3, .ref q4, .int sn, .ref q6, .ref q7, .ref q8, .ref q9, .int ts, .int ra, .int rr, .int rw, .ref q14, .ref q15, .int rn, .ref q17, .ref q18, .ref q19, .int um, .int bs, .int bh, .ref q23, .ref q24, .ref q25, .int km])), (q3, .inl (cI, 48, .inl th)), (q17, .inl (cI, 8, .inl (upd ce1 r (nI (r * co + x1))))), (q18, .inl (cI, 8, .inl (upd se1 r (nI v2))))]
          refine J_if_eq h 194 dX9_goes_186 (by decide) (fun z => absurd z (by decide)) (fun _ => ?_)
          refine J_iload h dX9_goes_189 0 rfl ?_
          refine J_goto h 196 dX9_goes_191 (by decide) ?_
          refine J_istore h (lv' := [(4, .int (nI (x1 + 1))), (10, .int (nI (x1 + 1))), (0, .ref q0), (3, .int (nI hh)), (6, .int dg), (7, .int (nI r)), (5, .int (nI v2)), (8, .int (nI (r * co + x1))), (9, .int (nI tf))]) dX9_goes_196 (by decide) rfl ?_
          refine J_iinc h (v := nI (r + 1)) (lv' := [(7, .int (nI (r + 1))), (4, .int (nI (x1 + 1))), (10, .int (nI (x1 + 1))), (0, .ref q0), (3, .int (nI hh)), (6, .int dg), (5, .int (nI v2)), (8, .int (nI (r * co + x1))), (9, .int (nI tf))]) dX9_goes_198 5 rfl (inc_ok _ 1) (by decide) rfl ?_
          refine J_goto h 61 dX9_goes_201 (by decide) ?_
          refine J.loc [3, 4, 1, 5, 0, 6] (lv' := [(0, .ref q0), (3, .int (nI hh)), (4, .int (nI (x1 + 1))), (6, .int dg), (7, .int (nI (r + 1))), (5, .int (nI v2))]) rfl ?_
          exact ih_61 (r + 1) (x1 + 1) v2 (upd ce1 r (nI (r * co + x1))) (upd se1 r (nI v2)) dg (by first | exact hr |  assumption | omega | rfl) (by rw [rst_s, ← ex, ← ev]; first | (rw [if_pos ⟨by omega, by omega⟩]; show _ = mvx co hh x1; unfold mvx; (repeat' split) <;> omega) | (rw [if_neg (by omega)])) (by exact ev2) (by exact lt_s hnot (by rw [← ev2]; omega)) (by exact upd_extN hce (by rw [ex]; rfl)) (by exact upd_extN hse (by rw [ev2])) (by exact upd_up hcn) (by exact upd_up hsn) (by first | exact hq |  assumption | omega | rfl) (by omega)
        · obtain ⟨rfl, f0_183, -⟩ := p_183
          show J X 11 0 0 186 [(10, .int (nI (x1 + 1))), (0, .ref q0), (3, .int (nI hh)), (4, .int (nI x1)), (6, .int dg), (7, .int (nI r)), (5, .int (nI v2)), (8, .int (nI (r * co + x1))), (9, .int (nI tf))] [.int (nI 0)] [(q0, .inr (9, [.int (nI ro), .int (nI co), .int sl, .ref q3, .ref q4, .int sn, .ref q6, .ref q7, .ref q8, .ref q9, .int ts, .int ra, .int rr, .int rw, .ref q14, .ref q15, .int rn, .ref q17, .ref q18, .ref q19, .int um, .int bs, .int bh, .ref q23, .ref q24, .ref q25, .int km])), (q3, .inl (cI, 48, .inl th)), (q17, .inl (cI, 8, .inl (upd ce1 r (nI (r * co + x1))))), (q18, .inl (cI, 8, .inl (upd se1 r (nI v2))))]
          refine J_if_eq h 194 dX9_goes_186 (by decide) (fun _ => ?_) (fun z => absurd z (by decide))
          refine J_iload h dX9_goes_194 3 rfl ?_
          refine J_istore h (lv' := [(4, .int (nI x1)), (10, .int (nI (x1 + 1))), (0, .ref q0), (3, .int (nI hh)), (6, .int dg), (7, .int (nI r)), (5, .int (nI v2)), (8, .int (nI (r * co + x1))), (9, .int (nI tf))]) dX9_goes_196 (by decide) rfl ?_
          refine J_iinc h (v := nI (r + 1)) (lv' := [(7, .int (nI (r + 1))), (4, .int (nI x1)), (10, .int (nI (x1 + 1))), (0, .ref q0), (3, .int (nI hh)), (6, .int dg), (5, .int (nI v2)), (8, .int (nI (r * co + x1))), (9, .int (nI tf))]) dX9_goes_198 5 rfl (inc_ok _ 1) (by decide) rfl ?_
          refine J_goto h 61 dX9_goes_201 (by decide) ?_
          refine J.loc [3, 4, 1, 5, 0, 6] (lv' := [(0, .ref q0), (3, .int (nI hh)), (4, .int (nI x1)), (6, .int dg), (7, .int (nI (r + 1))), (5, .int (nI v2))]) rfl ?_
          exact ih_61 (r + 1) x1 v2 (upd ce1 r (nI (r * co + x1))) (upd se1 r (nI v2)) dg (by first | exact hr |  assumption | omega | rfl) (by rw [rst_s, ← ex, ← ev]; first | (rw [if_pos ⟨by omega, by omega⟩]; show _ = mvx co hh x1; unfold mvx; (repeat' split) <;> omega) | (rw [if_neg (by omega)])) (by exact ev2) (by exact lt_s hnot (by rw [← ev2]; omega)) (by exact upd_extN hce (by rw [ex]; rfl)) (by exact upd_extN hse (by rw [ev2])) (by exact upd_up hcn) (by exact upd_up hsn) (by first | exact hq |  assumption | omega | rfl) (by omega)
  · skip
    obtain ⟨hst1, hst2⟩ := r_stop hnot (show (rst cth co hh x w (r + 1)).2 = 0 by omega) hr
    refine J_iload h dX9_goes_153 6 rfl ?_
    exact hR (nI (r * co + x1)) (upd ce1 r (nI (r * co + x1)), upd se1 r (nI v2)) (⟨(by rw [hst2, ex]; rfl), (by rw [hst1]; exact upd_extN hce (by rw [ex]; rfl)), (by rw [hst1]; exact upd_extN hse (by rw [ev2])), (by rw [hst1]; exact upd_up hcn), (by rw [hst1]; exact upd_up hsn), trivial⟩) 155 _ dX9_goes_155
set_option maxRecDepth 100000 in
set_option maxHeartbeats 4000000 in
theorem w_X9_goes_61 (X : Cx) {cI cE : ClassId} (h : Ok X cX9_goes RX9 11 cI cE 2 0 0) (q0 : Nat) (q3 : Nat) (q4 : Nat) (q6 : Nat) (q7 : Nat) (q8 : Nat) (q9 : Nat) (q14 : Nat) (q15 : Nat) (q17 : Nat) (q18 : Nat) (q19 : Nat) (q23 : Nat) (q24 : Nat) (q25 : Nat) (ro : Nat) (co : Nat) (sl : Int32) (sn : Int32) (ts : Int32) (ra : Int32) (rr : Int32) (rw : Int32) (rn : Int32) (um : Int32) (bs : Int32) (bh : Int32) (km : Int32) (th : Nat → Int32) (ce : Nat → Int32) (se : Nat → Int32) (cth : Nat → Int32) (x : Nat) (w : Nat) (hh : Nat) (hrc : ro * co ≤ 48) (hco : co ≤ 6) (hro : ro ≤ 8) (hx : x < co) (hw : w ≤ 20) (hhh : hh ≤ 18) (hth : relT (ro * co) th cth) (hR : ∀ (r : Int32) (u : (Nat → Int32) × (Nat → Int32)), ((nI (ren cth co ro hh x w) = r) ∧ (∀ k, k < rln cth co ro hh x w → u.1 k = nI (rcl cth co hh x w k)) ∧ (∀ k, k < rln cth co ro hh x w → u.2 k = nI (rst cth co hh x w (k + 1)).2) ∧ (∀ k, rln cth co ro hh x w ≤ k → k < 8 → u.1 k = (-4)) ∧ (∀ k, rln cth co ro hh x w ≤ k → k < 8 → u.2 k = (-4)) ∧ (True)) → RetI X cX9_goes 11 0 0 r [(q0, .inr (9, [.int (nI ro), .int (nI co), .int sl, .ref q3, .ref q4, .int sn, .ref q6, .ref q7, .ref q8, .ref q9, .int ts, .int ra, .int rr, .int rw, .ref q14, .ref q15, .int rn, .ref q17, .ref q18, .ref q19, .int um, .int bs, .int bh, .ref q23, .ref q24, .ref q25, .int km])), (q3, .inl (cI, 48, .inl th)), (q17, .inl (cI, 8, .inl u.1)), (q18, .inl (cI, 8, .inl u.2))]) : ∀ (n_61 : Nat) (r : Nat) (x1 : Nat) (v1 : Nat) (ce1 : Nat → Int32) (se1 : Nat → Int32) (dg : Int32), (r ≤ ro) → (x1 = (rst cth co hh x w r).1) → (v1 = (rst cth co hh x w r).2) → (∀ k, k < r → (rst cth co hh x w (k + 1)).2 ≠ 0) → (∀ k, k < r → ce1 k = nI (rcl cth co hh x w k)) → (∀ k, k < r → se1 k = nI (rst cth co hh x w (k + 1)).2) → (∀ k, r ≤ k → k < 8 → ce1 k = (-4)) → (∀ k, r ≤ k → k < 8 → se1 k = (-4)) → (dg.toInt = (hrow hh : Int) - 1) → ro - r < n_61 → J X 11 0 0 61 [(0, .ref q0), (3, .int (nI hh)), (4, .int (nI x1)), (6, .int dg), (7, .int (nI r)), (5, .int (nI v1))] [] [(q0, .inr (9, [.int (nI ro), .int (nI co), .int sl, .ref q3, .ref q4, .int sn, .ref q6, .ref q7, .ref q8, .ref q9, .int ts, .int ra, .int rr, .int rw, .ref q14, .ref q15, .int rn, .ref q17, .ref q18, .ref q19, .int um, .int bs, .int bh, .ref q23, .ref q24, .ref q25, .int km])), (q3, .inl (cI, 48, .inl th)), (q17, .inl (cI, 8, .inl ce1)), (q18, .inl (cI, 8, .inl se1))] := by
  intro n_61
  induction n_61 with
  | zero => intro r x1 v1 ce1 se1 dg hr ex ev hnot hce hse hcn hsn hq hn_; exact absurd hn_ (Nat.not_lt_zero _)
  | succ n_61 ih_61 =>
    intro r x1 v1 ce1 se1 dg hr ex ev hnot hce hse hcn hsn hq hn_61
    have hin := rst_in cth (hh := hh) hx hw r
    refine J_iload h dX9_goes_61 4 rfl ?_
    refine J_aload_n h (i := 0) dX9_goes_63 rfl 0 rfl ?_
    refine J_get h inX9 rfl 0 0 (by decide) rfl rfl nf_X9_60 dX9_goes_64 ?_
    refine N_icmp_ge h 204 dX9_goes_67 (by decide) (by omega) (by omega) (fun c_67 => ?_) (fun c_67 => ?_)
    · skip
      obtain ⟨hst1, hst2⟩ := r_sea (fun k hk => hnot k (by omega) : ∀ k, k < ro → (rst cth co hh x w (k + 1)).2 ≠ 0)
      refine J_bipush h (v := nI 99) dX9_goes_204 (by decide) ?_
      exact hR (nI 99) (ce1, se1) (⟨(by rw [hst2]), (by rw [hst1, show ro = r by omega]; exact hce), (by rw [hst1, show ro = r by omega]; exact hse), (by rw [hst1, show ro = r by omega]; exact hcn), (by rw [hst1, show ro = r by omega]; exact hsn), trivial⟩) 206 _ dX9_goes_206
    · skip
      refine J_aload_n h (i := 0) dX9_goes_70 rfl 0 rfl ?_
      refine J_get h inX9 rfl 0 1 (by decide) rfl rfl nf_X9_52 dX9_goes_71 ?_
      refine J_iload h dX9_goes_74 4 rfl ?_
      refine N_imul h dX9_goes_76 ?_
      refine J_iload h dX9_goes_77 2 rfl ?_
      refine N_iadd h dX9_goes_79 ?_
      refine J_eqs (st' := [.int (nI (r * co + x1))]) (by rw [Nat.mul_comm co r]) ?_
      have hcl : r * co + x1 < ro * co := by rw [ex]; exact rcl_lt cth hx hw (by omega)
      refine J_istore h (lv' := [(8, .int (nI (r * co + x1))), (0, .ref q0), (3, .int (nI hh)), (4, .int (nI x1)), (6, .int dg), (7, .int (nI r)), (5, .int (nI v1))]) dX9_goes_80 (by decide) rfl ?_
      refine J_aload_n h (i := 0) dX9_goes_82 rfl 1 rfl ?_
      refine J_get h inX9 rfl 0 3 (by decide) rfl rfl nf_X9_7 dX9_goes_83 ?_
      refine J_iload h dX9_goes_86 0 rfl ?_
      refine N_iald h 1 rfl (by decide) (by omega) dX9_goes_88 ?_
      refine J_eqs (st' := [.int (cth (r * co + x1))]) (by rw [(hth _ hcl).1]) ?_
      refine J_iload h dX9_goes_89 6 rfl ?_
      refine K_si h (wr := [(q0, .inr (9, [.int (nI ro), .int (nI co), .int sl, .ref q3, .ref q4, .int sn, .ref q6, .ref q7, .ref q8, .ref q9, .int ts, .int ra, .int rr, .int rw, .ref q14, .ref q15, .int rn, .ref q17, .ref q18, .ref q19, .int um, .int bs, .int bh, .ref q23, .ref q24, .ref q25, .int km])), (q3, .inl (cI, 48, .inl th)), (q17, .inl (cI, 8, .inl ce1)), (q18, .inl (cI, 8, .inl se1))]) (c_X9_slower (xl X) (xD X) cI cE (cth (r * co + x1)) v1 (by exact (hth _ hcl).2) (by rw [ev]; exact hin.2)) yv_X9_slower nm_X9_127 (by decide) (by decide) rfl rfl rfl (Nat.le_of_ble_eq_true rfl) (Nat.le_refl _) (Nat.le_refl _) dX9_goes_91 (fun r_91 u_91 p_91 => ?_)
      obtain ⟨rfl, -⟩ := p_91
      show J X 11 0 0 94 [(8, .int (nI (r * co + x1))), (0, .ref q0), (3, .int (nI hh)), (4, .int (nI x1)), (6, .int dg), (7, .int (nI r)), (5, .int (nI v1))] [.int (nI (spd (cth (r * co + x1)) v1))] [(q0, .inr (9, [.int (nI ro), .int (nI co), .int sl, .ref q3, .ref q4, .int sn, .ref q6, .ref q7, .ref q8, .ref q9, .int ts, .int ra, .int rr, .int rw, .ref q14, .ref q15, .int rn, .ref q17, .ref q18, .ref q19, .int um, .int bs, .int bh, .ref q23, .ref q24, .ref q25, .int km])), (q3, .inl (cI, 48, .inl th)), (q17, .inl (cI, 8, .inl ce1)), (q18, .inl (cI, 8, .inl se1))]
      have hsp := spd_le (k := cth (r * co + x1)) (v := v1) (by rw [ev]; exact hin.2)
      refine J_istore h (lv' := [(5, .int (nI (spd (cth (r * co + x1)) v1))), (8, .int (nI (r * co + x1))), (0, .ref q0), (3, .int (nI hh)), (4, .int (nI x1)), (6, .int dg), (7, .int (nI r))]) dX9_goes_94 (by decide) rfl ?_
      refine J_iload h dX9_goes_96 0 rfl ?_
      refine N_if_le h 112 dX9_goes_98 (by decide) (by omega) (fun c_98 => ?_) (fun c_98 => ?_)
      · skip
        refine J_iconst h (v := nI 0) dX9_goes_112 (by decide) ?_
        refine J_istore h (lv' := [(9, .int (nI 0)), (5, .int (nI (spd (cth (r * co + x1)) v1))), (8, .int (nI (r * co + x1))), (0, .ref q0), (3, .int (nI hh)), (4, .int (nI x1)), (6, .int dg), (7, .int (nI r))]) dX9_goes_113 (by decide) rfl ?_
        refine J_iload h dX9_goes_115 1 rfl ?_
        refine J_iload h dX9_goes_117 0 rfl ?_
        refine J_if_eq h 126 dX9_goes_119 (by decide) (fun _ => ?_) (fun z => absurd z (by decide))
        refine J_iconst h (v := nI 0) dX9_goes_126 (by decide) ?_
        refine N_isub h (by omega) dX9_goes_127 ?_
        refine J_istore h (lv' := [(5, .int (nI ((spd (cth (r * co + x1)) v1) - 0))), (9, .int (nI 0)), (8, .int (nI (r * co + x1))), (0, .ref q0), (3, .int (nI hh)), (4, .int (nI x1)), (6, .int dg), (7, .int (nI r))]) dX9_goes_128 (by decide) rfl ?_
        refine J.loc [3, 4, 5, 6, 7, 0, 2, 1] (lv' := [(0, .ref q0), (3, .int (nI hh)), (4, .int (nI x1)), (6, .int dg), (7, .int (nI r)), (5, .int (nI ((spd (cth (r * co + x1)) v1) - 0))), (8, .int (nI (r * co + x1))), (9, .int (nI 0))]) rfl ?_
        exact w_X9_goes_130 X h q0 q3 q4 q6 q7 q8 q9 q14 q15 q17 q18 q19 q23 q24 q25 ro co sl sn ts ra rr rw rn um bs bh km th ce se cth x w hh hrc hco hro hx hw hhh hth hR n_61 ih_61 r x1 v1 ((spd (cth (r * co + x1)) v1) - 0) 0 ce1 se1 dg (by first | exact hr |  assumption | omega | rfl) (by first | exact ex |  assumption | omega | rfl) (by first | exact ev |  assumption | omega | rfl) (by first | exact hnot |  assumption | omega | rfl) (by first | exact hce |  assumption | omega | rfl) (by first | exact hse |  assumption | omega | rfl) (by first | exact hcn |  assumption | omega | rfl) (by first | exact hsn |  assumption | omega | rfl) (by first | exact hq |  assumption | omega | rfl) (by rw [rst_s, ← ex, ← ev]; first | (rw [if_pos ⟨by omega, by omega⟩]; done) | (rw [if_neg (by omega)]; exact Nat.sub_zero _)) (by first | exact Or.inl ⟨rfl, by omega, by omega⟩ | exact Or.inr ⟨rfl, by omega⟩) (by first | assumption | omega | rfl)
      · skip
        refine J_iload h dX9_goes_101 5 rfl ?_
        refine J_iload h dX9_goes_103 6 rfl ?_
        refine T_icmp_ne h (A := (dg).toInt) (B := ((r : Nat) : Int)) 112 dX9_goes_105 (by decide) (rfl) (nI_toInt (by omega)) (fun c_105 => ?_) (fun c_105 => ?_)
        · skip
          refine J_iconst h (v := nI 0) dX9_goes_112 (by decide) ?_
          refine J_istore h (lv' := [(9, .int (nI 0)), (5, .int (nI (spd (cth (r * co + x1)) v1))), (8, .int (nI (r * co + x1))), (0, .ref q0), (3, .int (nI hh)), (4, .int (nI x1)), (6, .int dg), (7, .int (nI r))]) dX9_goes_113 (by decide) rfl ?_
          refine J_iload h dX9_goes_115 1 rfl ?_
          refine J_iload h dX9_goes_117 0 rfl ?_
          refine J_if_eq h 126 dX9_goes_119 (by decide) (fun _ => ?_) (fun z => absurd z (by decide))
          refine J_iconst h (v := nI 0) dX9_goes_126 (by decide) ?_
          refine N_isub h (by omega) dX9_goes_127 ?_
          refine J_istore h (lv' := [(5, .int (nI ((spd (cth (r * co + x1)) v1) - 0))), (9, .int (nI 0)), (8, .int (nI (r * co + x1))), (0, .ref q0), (3, .int (nI hh)), (4, .int (nI x1)), (6, .int dg), (7, .int (nI r))]) dX9_goes_128 (by decide) rfl ?_
          refine J.loc [3, 4, 5, 6, 7, 0, 2, 1] (lv' := [(0, .ref q0), (3, .int (nI hh)), (4, .int (nI x1)), (6, .int dg), (7, .int (nI r)), (5, .int (nI ((spd (cth (r * co + x1)) v1) - 0))), (8, .int (nI (r * co + x1))), (9, .int (nI 0))]) rfl ?_
          exact w_X9_goes_130 X h q0 q3 q4 q6 q7 q8 q9 q14 q15 q17 q18 q19 q23 q24 q25 ro co sl sn ts ra rr rw rn um bs bh km th ce se cth x w hh hrc hco hro hx hw hhh hth hR n_61 ih_61 r x1 v1 ((spd (cth (r * co + x1)) v1) - 0) 0 ce1 se1 dg (by first | exact hr |  assumption | omega | rfl) (by first | exact ex |  assumption | omega | rfl) (by first | exact ev |  assumption | omega | rfl) (by first | exact hnot |  assumption | omega | rfl) (by first | exact hce |  assumption | omega | rfl) (by first | exact hse |  assumption | omega | rfl) (by first | exact hcn |  assumption | omega | rfl) (by first | exact hsn |  assumption | omega | rfl) (by first | exact hq |  assumption | omega | rfl) (by rw [rst_s, ← ex, ← ev]; first | (rw [if_pos ⟨by omega, by omega⟩]; done) | (rw [if_neg (by omega)]; exact Nat.sub_zero _)) (by first | exact Or.inl ⟨rfl, by omega, by omega⟩ | exact Or.inr ⟨rfl, by omega⟩) (by first | assumption | omega | rfl)
        · skip
          refine J_iconst h (v := nI 1) dX9_goes_108 (by decide) ?_
          refine J_goto h 113 dX9_goes_109 (by decide) ?_
          refine J_istore h (lv' := [(9, .int (nI 1)), (5, .int (nI (spd (cth (r * co + x1)) v1))), (8, .int (nI (r * co + x1))), (0, .ref q0), (3, .int (nI hh)), (4, .int (nI x1)), (6, .int dg), (7, .int (nI r))]) dX9_goes_113 (by decide) rfl ?_
          refine J_iload h dX9_goes_115 1 rfl ?_
          refine J_iload h dX9_goes_117 0 rfl ?_
          refine J_if_eq h 126 dX9_goes_119 (by decide) (fun z => absurd z (by decide)) (fun _ => ?_)
          refine J_iconst h (v := nI 1) dX9_goes_122 (by decide) ?_
          refine J_goto h 127 dX9_goes_123 (by decide) ?_
          refine N_isub h (by omega) dX9_goes_127 ?_
          refine J_istore h (lv' := [(5, .int (nI ((spd (cth (r * co + x1)) v1) - 1))), (9, .int (nI 1)), (8, .int (nI (r * co + x1))), (0, .ref q0), (3, .int (nI hh)), (4, .int (nI x1)), (6, .int dg), (7, .int (nI r))]) dX9_goes_128 (by decide) rfl ?_
          refine J.loc [3, 4, 5, 6, 7, 0, 2, 1] (lv' := [(0, .ref q0), (3, .int (nI hh)), (4, .int (nI x1)), (6, .int dg), (7, .int (nI r)), (5, .int (nI ((spd (cth (r * co + x1)) v1) - 1))), (8, .int (nI (r * co + x1))), (9, .int (nI 1))]) rfl ?_
          exact w_X9_goes_130 X h q0 q3 q4 q6 q7 q8 q9 q14 q15 q17 q18 q19 q23 q24 q25 ro co sl sn ts ra rr rw rn um bs bh km th ce se cth x w hh hrc hco hro hx hw hhh hth hR n_61 ih_61 r x1 v1 ((spd (cth (r * co + x1)) v1) - 1) 1 ce1 se1 dg (by first | exact hr |  assumption | omega | rfl) (by first | exact ex |  assumption | omega | rfl) (by first | exact ev |  assumption | omega | rfl) (by first | exact hnot |  assumption | omega | rfl) (by first | exact hce |  assumption | omega | rfl) (by first | exact hse |  assumption | omega | rfl) (by first | exact hcn |  assumption | omega | rfl) (by first | exact hsn |  assumption | omega | rfl) (by first | exact hq |  assumption | omega | rfl) (by rw [rst_s, ← ex, ← ev]; first | (rw [if_pos ⟨by omega, by omega⟩]; done) | (rw [if_neg (by omega)]; exact Nat.sub_zero _)) (by first | exact Or.inl ⟨rfl, by omega, by omega⟩ | exact Or.inr ⟨rfl, by omega⟩) (by first | assumption | omega | rfl)
set_option maxRecDepth 100000 in
set_option maxHeartbeats 4000000 in
theorem w_X9_goes_3 (X : Cx) {cI cE : ClassId} (h : Ok X cX9_goes RX9 11 cI cE 2 0 0) (q0 : Nat) (q3 : Nat) (q4 : Nat) (q6 : Nat) (q7 : Nat) (q8 : Nat) (q9 : Nat) (q14 : Nat) (q15 : Nat) (q17 : Nat) (q18 : Nat) (q19 : Nat) (q23 : Nat) (q24 : Nat) (q25 : Nat) (ro : Nat) (co : Nat) (sl : Int32) (sn : Int32) (ts : Int32) (ra : Int32) (rr : Int32) (rw : Int32) (rn : Int32) (um : Int32) (bs : Int32) (bh : Int32) (km : Int32) (th : Nat → Int32) (ce : Nat → Int32) (se : Nat → Int32) (cth : Nat → Int32) (x : Nat) (w : Nat) (hh : Nat) (hrc : ro * co ≤ 48) (hco : co ≤ 6) (hro : ro ≤ 8) (hx : x < co) (hw : w ≤ 20) (hhh : hh ≤ 18) (hth : relT (ro * co) th cth) (hR : ∀ (r : Int32) (u : (Nat → Int32) × (Nat → Int32)), ((nI (ren cth co ro hh x w) = r) ∧ (∀ k, k < rln cth co ro hh x w → u.1 k = nI (rcl cth co hh x w k)) ∧ (∀ k, k < rln cth co ro hh x w → u.2 k = nI (rst cth co hh x w (k + 1)).2) ∧ (∀ k, rln cth co ro hh x w ≤ k → k < 8 → u.1 k = (-4)) ∧ (∀ k, rln cth co ro hh x w ≤ k → k < 8 → u.2 k = (-4)) ∧ (True)) → RetI X cX9_goes 11 0 0 r [(q0, .inr (9, [.int (nI ro), .int (nI co), .int sl, .ref q3, .ref q4, .int sn, .ref q6, .ref q7, .ref q8, .ref q9, .int ts, .int ra, .int rr, .int rw, .ref q14, .ref q15, .int rn, .ref q17, .ref q18, .ref q19, .int um, .int bs, .int bh, .ref q23, .ref q24, .ref q25, .int km])), (q3, .inl (cI, 48, .inl th)), (q17, .inl (cI, 8, .inl u.1)), (q18, .inl (cI, 8, .inl u.2))]) : ∀ (n_3 : Nat) (i : Nat) (ce1 : Nat → Int32) (se1 : Nat → Int32), (i ≤ 8) → (∀ j, j < i → ce1 j = (-4)) → (∀ j, j < i → se1 j = (-4)) → 8 - i < n_3 → J X 11 0 0 3 [(0, .ref q0), (1, .int (nI x)), (2, .int (nI w)), (3, .int (nI hh)), (4, .int (nI i))] [] [(q0, .inr (9, [.int (nI ro), .int (nI co), .int sl, .ref q3, .ref q4, .int sn, .ref q6, .ref q7, .ref q8, .ref q9, .int ts, .int ra, .int rr, .int rw, .ref q14, .ref q15, .int rn, .ref q17, .ref q18, .ref q19, .int um, .int bs, .int bh, .ref q23, .ref q24, .ref q25, .int km])), (q3, .inl (cI, 48, .inl th)), (q17, .inl (cI, 8, .inl ce1)), (q18, .inl (cI, 8, .inl se1))] := by
  intro n_3
  induction n_3 with
  | zero => intro i ce1 se1 hi h1 h2 hn_; exact absurd hn_ (Nat.not_lt_zero _)
  | succ n_3 ih_3 =>
    intro i ce1 se1 hi h1 h2 hn_3
    refine J_iload h dX9_goes_3 4 rfl ?_
    refine J_bipush h (v := nI 8) dX9_goes_5 (by decide) ?_
    refine N_icmp_ge h 34 dX9_goes_7 (by decide) (by omega) (by omega) (fun c_7 => ?_) (fun c_7 => ?_)
    · skip
      refine J_arr (g := (fun _ => (-4))) (ws' := [(q0, .inr (9, [.int (nI ro), .int (nI co), .int sl, .ref q3, .ref q4, .int sn, .ref q6, .ref q7, .ref q8, .ref q9, .int ts, .int ra, .int rr, .int rw, .ref q14, .ref q15, .int rn, .ref q17, .ref q18, .ref q19, .int um, .int bs, .int bh, .ref q23, .ref q24, .ref q25, .int km])), (q3, .inl (cI, 48, .inl th)), (q17, .inl (cI, 8, .inl (fun _ => (-4)))), (q18, .inl (cI, 8, .inl se1))]) 2 rfl (by exact fun j hj => h1 j (by omega)) rfl ?_
      refine J_arr (g := (fun _ => (-4))) (ws' := [(q0, .inr (9, [.int (nI ro), .int (nI co), .int sl, .ref q3, .ref q4, .int sn, .ref q6, .ref q7, .ref q8, .ref q9, .int ts, .int ra, .int rr, .int rw, .ref q14, .ref q15, .int rn, .ref q17, .ref q18, .ref q19, .int um, .int bs, .int bh, .ref q23, .ref q24, .ref q25, .int km])), (q3, .inl (cI, 48, .inl th)), (q17, .inl (cI, 8, .inl (fun _ => (-4)))), (q18, .inl (cI, 8, .inl (fun _ => (-4))))]) 3 rfl (by exact fun j hj => h2 j (by omega)) rfl ?_
      refine J_iload_n h (i := 1) dX9_goes_34 rfl 1 rfl ?_
      refine J_istore h (lv' := [(4, .int (nI x)), (0, .ref q0), (1, .int (nI x)), (2, .int (nI w)), (3, .int (nI hh))]) dX9_goes_35 (by decide) rfl ?_
      refine J_iload_n h (i := 2) dX9_goes_37 rfl 3 rfl ?_
      refine J_istore h (lv' := [(5, .int (nI w)), (4, .int (nI x)), (0, .ref q0), (1, .int (nI x)), (2, .int (nI w)), (3, .int (nI hh))]) dX9_goes_38 (by decide) rfl ?_
      refine J_iload_n h (i := 3) dX9_goes_40 rfl 5 rfl ?_
      refine J_bipush h (v := nI 10) dX9_goes_41 (by decide) ?_
      refine N_icmp_le h 53 dX9_goes_43 (by decide) (by omega) (by omega) (fun c_43 => ?_) (fun c_43 => ?_)
      · skip
        refine J_iload_n h (i := 3) dX9_goes_53 rfl 5 rfl ?_
        refine J_iconst h (v := nI 1) dX9_goes_54 (by decide) ?_
        refine J_isub h dX9_goes_55 ?_
        refine J_istore h (lv' := [(6, .int ((nI hh) - (nI 1))), (5, .int (nI w)), (4, .int (nI x)), (0, .ref q0), (1, .int (nI x)), (2, .int (nI w)), (3, .int (nI hh))]) dX9_goes_56 (by decide) rfl ?_
        refine J_iconst h (v := nI 0) dX9_goes_58 (by decide) ?_
        refine J_istore h (lv' := [(7, .int (nI 0)), (6, .int ((nI hh) - (nI 1))), (5, .int (nI w)), (4, .int (nI x)), (0, .ref q0), (1, .int (nI x)), (2, .int (nI w)), (3, .int (nI hh))]) dX9_goes_59 (by decide) rfl ?_
        refine J.loc [4, 7, 3, 1, 0, 2] (lv' := [(0, .ref q0), (3, .int (nI hh)), (4, .int (nI x)), (6, .int ((nI hh) - (nI 1))), (7, .int (nI 0)), (5, .int (nI w))]) rfl ?_
        exact w_X9_goes_61 X h q0 q3 q4 q6 q7 q8 q9 q14 q15 q17 q18 q19 q23 q24 q25 ro co sl sn ts ra rr rw rn um bs bh km th ce se cth x w hh hrc hco hro hx hw hhh hth hR  (ro - 0 + 1) 0 x w (fun _ => (-4)) (fun _ => (-4)) ((nI hh) - (nI 1)) (by first | assumption | omega | rfl) (by rfl) (by rfl) (by intro k hk; omega) (by intro k hk; omega) (by intro k hk; omega) (by intro k h1 h2; rfl) (by intro k h1 h2; rfl) (by unfold hrow; first | (rw [if_pos (by omega), pk_sub_toInt (by omega) (by omega)]; omega) | (rw [if_neg (by omega), pk_sub_toInt (by omega) (by omega)]; omega)) (by omega)
      · skip
        refine J_iload_n h (i := 3) dX9_goes_46 rfl 5 rfl ?_
        refine J_bipush h (v := nI 11) dX9_goes_47 (by decide) ?_
        refine J_isub h dX9_goes_49 ?_
        refine J_goto h 56 dX9_goes_50 (by decide) ?_
        refine J_istore h (lv' := [(6, .int ((nI hh) - (nI 11))), (5, .int (nI w)), (4, .int (nI x)), (0, .ref q0), (1, .int (nI x)), (2, .int (nI w)), (3, .int (nI hh))]) dX9_goes_56 (by decide) rfl ?_
        refine J_iconst h (v := nI 0) dX9_goes_58 (by decide) ?_
        refine J_istore h (lv' := [(7, .int (nI 0)), (6, .int ((nI hh) - (nI 11))), (5, .int (nI w)), (4, .int (nI x)), (0, .ref q0), (1, .int (nI x)), (2, .int (nI w)), (3, .int (nI hh))]) dX9_goes_59 (by decide) rfl ?_
        refine J.loc [4, 7, 3, 1, 0, 2] (lv' := [(0, .ref q0), (3, .int (nI hh)), (4, .int (nI x)), (6, .int ((nI hh) - (nI 11))), (7, .int (nI 0)), (5, .int (nI w))]) rfl ?_
        exact w_X9_goes_61 X h q0 q3 q4 q6 q7 q8 q9 q14 q15 q17 q18 q19 q23 q24 q25 ro co sl sn ts ra rr rw rn um bs bh km th ce se cth x w hh hrc hco hro hx hw hhh hth hR  (ro - 0 + 1) 0 x w (fun _ => (-4)) (fun _ => (-4)) ((nI hh) - (nI 11)) (by first | assumption | omega | rfl) (by rfl) (by rfl) (by intro k hk; omega) (by intro k hk; omega) (by intro k hk; omega) (by intro k h1 h2; rfl) (by intro k h1 h2; rfl) (by unfold hrow; first | (rw [if_pos (by omega), pk_sub_toInt (by omega) (by omega)]; omega) | (rw [if_neg (by omega), pk_sub_toInt (by omega) (by omega)]; omega)) (by omega)
    · skip
      refine J_aload_n h (i := 0) dX9_goes_10 rfl 0 rfl ?_
      refine J_get h inX9 rfl 0 17 (by decide) rfl rfl nf_X9_34 dX9_goes_11 ?_
      refine J_iload h dX9_goes_14 4 rfl ?_
      refine J_bipush h (v := (-4)) dX9_goes_16 (by decide) ?_
      refine N_iast h (ws' := [(q0, .inr (9, [.int (nI ro), .int (nI co), .int sl, .ref q3, .ref q4, .int sn, .ref q6, .ref q7, .ref q8, .ref q9, .int ts, .int ra, .int rr, .int rw, .ref q14, .ref q15, .int rn, .ref q17, .ref q18, .ref q19, .int um, .int bs, .int bh, .ref q23, .ref q24, .ref q25, .int km])), (q3, .inl (cI, 48, .inl th)), (q17, .inl (cI, 8, .inl (upd ce1 i ((-4))))), (q18, .inl (cI, 8, .inl se1))]) 2 rfl (by decide) (by omega) dX9_goes_18 rfl ?_
      refine J_aload_n h (i := 0) dX9_goes_19 rfl 0 rfl ?_
      refine J_get h inX9 rfl 0 18 (by decide) rfl rfl nf_X9_37 dX9_goes_20 ?_
      refine J_iload h dX9_goes_23 4 rfl ?_
      refine J_bipush h (v := (-4)) dX9_goes_25 (by decide) ?_
      refine N_iast h (ws' := [(q0, .inr (9, [.int (nI ro), .int (nI co), .int sl, .ref q3, .ref q4, .int sn, .ref q6, .ref q7, .ref q8, .ref q9, .int ts, .int ra, .int rr, .int rw, .ref q14, .ref q15, .int rn, .ref q17, .ref q18, .ref q19, .int um, .int bs, .int bh, .ref q23, .ref q24, .ref q25, .int km])), (q3, .inl (cI, 48, .inl th)), (q17, .inl (cI, 8, .inl (upd ce1 i ((-4))))), (q18, .inl (cI, 8, .inl (upd se1 i ((-4)))))]) 3 rfl (by decide) (by omega) dX9_goes_27 rfl ?_
      refine J_iinc h (v := nI (i + 1)) (lv' := [(4, .int (nI (i + 1))), (0, .ref q0), (1, .int (nI x)), (2, .int (nI w)), (3, .int (nI hh))]) dX9_goes_28 4 rfl (inc_ok _ 1) (by decide) rfl ?_
      refine J_goto h 3 dX9_goes_31 (by decide) ?_
      refine J.loc [1, 2, 3, 4, 0] (lv' := [(0, .ref q0), (1, .int (nI x)), (2, .int (nI w)), (3, .int (nI hh)), (4, .int (nI (i + 1)))]) rfl ?_
      exact ih_3 (i + 1) (upd ce1 i ((-4))) (upd se1 i ((-4))) (by first | exact hi |  assumption | omega | rfl) (by exact upd_ext (g := fun _ => (-4)) h1) (by exact upd_ext (g := fun _ => (-4)) h2) (by omega)
set_option maxRecDepth 100000 in
set_option maxHeartbeats 4000000 in
theorem w_X9_goes (X : Cx) {cI cE : ClassId} (h : Ok X cX9_goes RX9 11 cI cE 2 0 0) (q0 : Nat) (q3 : Nat) (q4 : Nat) (q6 : Nat) (q7 : Nat) (q8 : Nat) (q9 : Nat) (q14 : Nat) (q15 : Nat) (q17 : Nat) (q18 : Nat) (q19 : Nat) (q23 : Nat) (q24 : Nat) (q25 : Nat) (ro : Nat) (co : Nat) (sl : Int32) (sn : Int32) (ts : Int32) (ra : Int32) (rr : Int32) (rw : Int32) (rn : Int32) (um : Int32) (bs : Int32) (bh : Int32) (km : Int32) (th : Nat → Int32) (ce : Nat → Int32) (se : Nat → Int32) (cth : Nat → Int32) (x : Nat) (w : Nat) (hh : Nat) (hrc : ro * co ≤ 48) (hco : co ≤ 6) (hro : ro ≤ 8) (hx : x < co) (hw : w ≤ 20) (hhh : hh ≤ 18) (hth : relT (ro * co) th cth) (hR : ∀ (r : Int32) (u : (Nat → Int32) × (Nat → Int32)), ((nI (ren cth co ro hh x w) = r) ∧ (∀ k, k < rln cth co ro hh x w → u.1 k = nI (rcl cth co hh x w k)) ∧ (∀ k, k < rln cth co ro hh x w → u.2 k = nI (rst cth co hh x w (k + 1)).2) ∧ (∀ k, rln cth co ro hh x w ≤ k → k < 8 → u.1 k = (-4)) ∧ (∀ k, rln cth co ro hh x w ≤ k → k < 8 → u.2 k = (-4)) ∧ (True)) → RetI X cX9_goes 11 0 0 r [(q0, .inr (9, [.int (nI ro), .int (nI co), .int sl, .ref q3, .ref q4, .int sn, .ref q6, .ref q7, .ref q8, .ref q9, .int ts, .int ra, .int rr, .int rw, .ref q14, .ref q15, .int rn, .ref q17, .ref q18, .ref q19, .int um, .int bs, .int bh, .ref q23, .ref q24, .ref q25, .int km])), (q3, .inl (cI, 48, .inl th)), (q17, .inl (cI, 8, .inl u.1)), (q18, .inl (cI, 8, .inl u.2))]) : J X 11 0 0 0 [(0, .ref q0), (1, .int (nI x)), (2, .int (nI w)), (3, .int (nI hh))] [] [(q0, .inr (9, [.int (nI ro), .int (nI co), .int sl, .ref q3, .ref q4, .int sn, .ref q6, .ref q7, .ref q8, .ref q9, .int ts, .int ra, .int rr, .int rw, .ref q14, .ref q15, .int rn, .ref q17, .ref q18, .ref q19, .int um, .int bs, .int bh, .ref q23, .ref q24, .ref q25, .int km])), (q3, .inl (cI, 48, .inl th)), (q17, .inl (cI, 8, .inl ce)), (q18, .inl (cI, 8, .inl se))] := by
  refine J_iconst h (v := nI 0) dX9_goes_0 (by decide) ?_
  refine J_istore h (lv' := [(4, .int (nI 0)), (0, .ref q0), (1, .int (nI x)), (2, .int (nI w)), (3, .int (nI hh))]) dX9_goes_1 (by decide) rfl ?_
  refine J.loc [1, 2, 3, 4, 0] (lv' := [(0, .ref q0), (1, .int (nI x)), (2, .int (nI w)), (3, .int (nI hh)), (4, .int (nI 0))]) rfl ?_
  exact w_X9_goes_3 X h q0 q3 q4 q6 q7 q8 q9 q14 q15 q17 q18 q19 q23 q24 q25 ro co sl sn ts ra rr rw rn um bs bh km th ce se cth x w hh hrc hco hro hx hw hhh hth hR  (8 - 0 + 1) 0 ce se (by first | assumption | omega | rfl) (by intro j hj; omega) (by intro j hj; omega) (by omega)
theorem c_X9_goes (l : Launch) (D : va_G) (cI cE : ClassId) (q0 : Nat) (q3 : Nat) (q4 : Nat) (q6 : Nat) (q7 : Nat) (q8 : Nat) (q9 : Nat) (q14 : Nat) (q15 : Nat) (q17 : Nat) (q18 : Nat) (q19 : Nat) (q23 : Nat) (q24 : Nat) (q25 : Nat) (ro : Nat) (co : Nat) (sl : Int32) (sn : Int32) (ts : Int32) (ra : Int32) (rr : Int32) (rw : Int32) (rn : Int32) (um : Int32) (bs : Int32) (bh : Int32) (km : Int32) (th : Nat → Int32) (ce : Nat → Int32) (se : Nat → Int32) (cth : Nat → Int32) (x : Nat) (w : Nat) (hh : Nat) (hrc : ro * co ≤ 48) (hco : co ≤ 6) (hro : ro ≤ 8) (hx : x < co) (hw : w ≤ 20) (hhh : hh ≤ 18) (hth : relT (ro * co) th cth) : Ci l D cI cE yX9_goes cX9_goes 11 (some .int) 2 0 0 [.ref q0, .int (nI x), .int (nI w), .int (nI hh)] [(q0, .inr (9, [.int (nI ro), .int (nI co), .int sl, .ref q3, .ref q4, .int sn, .ref q6, .ref q7, .ref q8, .ref q9, .int ts, .int ra, .int rr, .int rw, .ref q14, .ref q15, .int rn, .ref q17, .ref q18, .ref q19, .int um, .int bs, .int bh, .ref q23, .ref q24, .ref q25, .int km])), (q3, .inl (cI, 48, .inl th)), (q17, .inl (cI, 8, .inl ce)), (q18, .inl (cI, 8, .inl se))] (fun (r : Int32) (u : (Nat → Int32) × (Nat → Int32)) => ((nI (ren cth co ro hh x w) = r) ∧ (∀ k, k < rln cth co ro hh x w → u.1 k = nI (rcl cth co hh x w k)) ∧ (∀ k, k < rln cth co ro hh x w → u.2 k = nI (rst cth co hh x w (k + 1)).2) ∧ (∀ k, rln cth co ro hh x w ≤ k → k < 8 → u.1 k = (-4)) ∧ (∀ k, rln cth co ro hh x w ≤ k → k < 8 → u.2 k = (-4)) ∧ (True))) (fun (u : (Nat → Int32) × (Nat → Int32)) => ([(q0, .inr (9, [.int (nI ro), .int (nI co), .int sl, .ref q3, .ref q4, .int sn, .ref q6, .ref q7, .ref q8, .ref q9, .int ts, .int ra, .int rr, .int rw, .ref q14, .ref q15, .int rn, .ref q17, .ref q18, .ref q19, .int um, .int bs, .int bh, .ref q23, .ref q24, .ref q25, .int km])), (q3, .inl (cI, 48, .inl th)), (q17, .inl (cI, 8, .inl u.1)), (q18, .inl (cI, 8, .inl u.2))] : va_W)) :=
  Ci.of (by decide) (Nat.le_of_ble_eq_true rfl) (fun _ _ _ => rfl) (fun X h hR => w_X9_goes X h q0 q3 q4 q6 q7 q8 q9 q14 q15 q17 q18 q19 q23 q24 q25 ro co sl sn ts ra rr rw rn um bs bh km th ce se cth x w hh hrc hco hro hx hw hhh hth hR)
theorem yv_X9_goes : YV yX9_goes cX9_goes 11 (some .int) 3 := ⟨no_X9_goes, nv_X9_goes, ni_X9, nk_X9_goes, by decide +kernel⟩
set_option maxRecDepth 100000 in
set_option maxHeartbeats 4000000 in
theorem w_X9_cell (X : Cx) {cI cE : ClassId} (h : Ok X cX9_cell RX9 3 cI cE 2 0 0) (q0 : Nat) (q3 : Nat) (q4 : Nat) (q6 : Nat) (q7 : Nat) (q8 : Nat) (q9 : Nat) (q14 : Nat) (q15 : Nat) (q17 : Nat) (q18 : Nat) (q19 : Nat) (q23 : Nat) (q24 : Nat) (q25 : Nat) (ro : Nat) (co : Nat) (sl : Int32) (sn : Int32) (ts : Int32) (ra : Int32) (rr : Int32) (rw : Int32) (rn : Int32) (um : Int32) (bs : Int32) (bh : Int32) (km : Int32) (th : Nat → Int32) (mo : Nat → Int32) (cth : Nat → Int32) (cow : Nat → Int32) (p0 : Int32) (p1 : Int32) (hrc : ro * co ≤ 48) (hco : co ≤ 6) (hro : ro ≤ 8) (hrel : rel (ro * co) th mo cth cow) (hR : ∀ (r : Int32) (u : Unit), ((fCell cth cow (ro * co) p0 p1 = r) ∧ (True)) → RetI X cX9_cell 3 0 0 r [(q0, .inr (9, [.int (nI ro), .int (nI co), .int sl, .ref q3, .ref q4, .int sn, .ref q6, .ref q7, .ref q8, .ref q9, .int ts, .int ra, .int rr, .int rw, .ref q14, .ref q15, .int rn, .ref q17, .ref q18, .ref q19, .int um, .int bs, .int bh, .ref q23, .ref q24, .ref q25, .int km])), (q3, .inl (cI, 48, .inl th)), (q4, .inl (cI, 48, .inl mo))]) : J X 3 0 0 0 [(0, .ref q0), (1, .int p0), (2, .int p1)] [] [(q0, .inr (9, [.int (nI ro), .int (nI co), .int sl, .ref q3, .ref q4, .int sn, .ref q6, .ref q7, .ref q8, .ref q9, .int ts, .int ra, .int rr, .int rw, .ref q14, .ref q15, .int rn, .ref q17, .ref q18, .ref q19, .int um, .int bs, .int bh, .ref q23, .ref q24, .ref q25, .int km])), (q3, .inl (cI, 48, .inl th)), (q4, .inl (cI, 48, .inl mo))] := by
  refine J_aload_n h (i := 0) dX9_cell_0 rfl 0 rfl ?_
  refine J_iload_n h (i := 1) dX9_cell_1 rfl 1 rfl ?_
  refine K_vi h (wr := [(q3, .inl (cI, 48, .inl th)), (q4, .inl (cI, 48, .inl mo))]) (c_X9_isCell (xl X) (xD X) cI cE q0 q3 q4 q6 q7 q8 q9 q14 q15 q17 q18 q19 q23 q24 q25 ro co sl sn ts ra rr rw rn um bs bh km p0 (by first | exact hrc |  assumption | omega | rfl)) yv_X9_isCell nm_X9_131 (by decide) (by decide) rfl rfl 0 rfl rfl rfl rfl (Nat.le_of_ble_eq_true rfl) (Nat.le_refl _) (Nat.le_refl _) dX9_cell_2 (fun r_2 u_2 p_2 => ?_)
  rcases p_2 with p_2 | p_2
  · obtain ⟨j_2, rfl, f0_2, rfl, -⟩ := p_2
    show J X 3 0 0 5 [(0, .ref q0), (1, .int (nI j_2)), (2, .int p1)] [.int (nI 1)] [(q0, .inr (9, [.int (nI ro), .int (nI co), .int sl, .ref q3, .ref q4, .int sn, .ref q6, .ref q7, .ref q8, .ref q9, .int ts, .int ra, .int rr, .int rw, .ref q14, .ref q15, .int rn, .ref q17, .ref q18, .ref q19, .int um, .int bs, .int bh, .ref q23, .ref q24, .ref q25, .int km])), (q3, .inl (cI, 48, .inl th)), (q4, .inl (cI, 48, .inl mo))]
    refine J_if_eq h 17 dX9_cell_5 (by decide) (fun z => absurd z (by decide)) (fun _ => ?_)
    refine J_iload_n h (i := 2) dX9_cell_8 rfl 2 rfl ?_
    refine J_iconst h (v := nI 0) dX9_cell_9 (by decide) ?_
    refine J_iconst h (v := nI 1) dX9_cell_10 (by decide) ?_
    refine K_si h (wr := [(q0, .inr (9, [.int (nI ro), .int (nI co), .int sl, .ref q3, .ref q4, .int sn, .ref q6, .ref q7, .ref q8, .ref q9, .int ts, .int ra, .int rr, .int rw, .ref q14, .ref q15, .int rn, .ref q17, .ref q18, .ref q19, .int um, .int bs, .int bh, .ref q23, .ref q24, .ref q25, .int km])), (q3, .inl (cI, 48, .inl th)), (q4, .inl (cI, 48, .inl mo))]) (c_X9_in (xl X) (xD X) cI cE p1 (nI 0) (nI 1) ((p1).toInt) 0 1 (by exact rfl) (by exact nI_toInt (by omega)) (by exact nI_toInt (by omega))) yv_X9_in nm_X9_67 (by decide) (by decide) rfl rfl rfl (Nat.le_of_ble_eq_true rfl) (Nat.le_refl _) (Nat.le_refl _) dX9_cell_11 (fun r_11 u_11 p_11 => ?_)
    rcases p_11 with p_11 | p_11
    · obtain ⟨rfl, f0_11, -⟩ := p_11
      show J X 3 0 0 14 [(0, .ref q0), (1, .int (nI j_2)), (2, .int p1)] [.int (nI 1)] [(q0, .inr (9, [.int (nI ro), .int (nI co), .int sl, .ref q3, .ref q4, .int sn, .ref q6, .ref q7, .ref q8, .ref q9, .int ts, .int ra, .int rr, .int rw, .ref q14, .ref q15, .int rn, .ref q17, .ref q18, .ref q19, .int um, .int bs, .int bh, .ref q23, .ref q24, .ref q25, .int km])), (q3, .inl (cI, 48, .inl th)), (q4, .inl (cI, 48, .inl mo))]
      refine J_if_ne h 19 dX9_cell_14 (by decide) (fun _ => ?_) (fun z => absurd z (by decide))
      refine J_iload_n h (i := 2) dX9_cell_19 rfl 2 rfl ?_
      refine T_if_ne h (A := (p1).toInt) 32 dX9_cell_20 (by decide) (rfl) (fun c_20 => ?_) (fun c_20 => ?_)
      · skip
        refine J_aload_n h (i := 0) dX9_cell_32 rfl 0 rfl ?_
        refine J_get h inX9 rfl 0 4 (by decide) rfl rfl nf_X9_13 dX9_cell_33 ?_
        refine J_iload_n h (i := 1) dX9_cell_36 rfl 1 rfl ?_
        refine N_iald h 2 rfl (by decide) (by omega) dX9_cell_37 ?_
        exact hR (mo j_2) () (⟨(by unfold fCell; rw [if_pos ⟨cellI (by omega) (by omega), by omega⟩]; rw [tnI (by omega)]; first | (rw [if_pos (by omega)]; exact (rel_th hrel (by omega)).symm) | (rw [if_neg (by omega)]; exact (rel_mo hrel (by omega)).symm)), trivial⟩) 38 _ dX9_cell_38
      · skip
        refine J_aload_n h (i := 0) dX9_cell_23 rfl 0 rfl ?_
        refine J_get h inX9 rfl 0 3 (by decide) rfl rfl nf_X9_7 dX9_cell_24 ?_
        refine J_iload_n h (i := 1) dX9_cell_27 rfl 1 rfl ?_
        refine N_iald h 1 rfl (by decide) (by omega) dX9_cell_28 ?_
        refine J_goto h 38 dX9_cell_29 (by decide) ?_
        exact hR (th j_2) () (⟨(by unfold fCell; rw [if_pos ⟨cellI (by omega) (by omega), by omega⟩]; rw [tnI (by omega)]; first | (rw [if_pos (by omega)]; exact (rel_th hrel (by omega)).symm) | (rw [if_neg (by omega)]; exact (rel_mo hrel (by omega)).symm)), trivial⟩) 38 _ dX9_cell_38
    · obtain ⟨rfl, f0_11, -⟩ := p_11
      show J X 3 0 0 14 [(0, .ref q0), (1, .int (nI j_2)), (2, .int p1)] [.int (nI 0)] [(q0, .inr (9, [.int (nI ro), .int (nI co), .int sl, .ref q3, .ref q4, .int sn, .ref q6, .ref q7, .ref q8, .ref q9, .int ts, .int ra, .int rr, .int rw, .ref q14, .ref q15, .int rn, .ref q17, .ref q18, .ref q19, .int um, .int bs, .int bh, .ref q23, .ref q24, .ref q25, .int km])), (q3, .inl (cI, 48, .inl th)), (q4, .inl (cI, 48, .inl mo))]
      refine J_if_ne h 19 dX9_cell_14 (by decide) (fun z => absurd z (by decide)) (fun _ => ?_)
      refine J_iconst h (v := (-1)) dX9_cell_17 (by decide) ?_
      exact hR ((-1)) () (⟨(by unfold fCell; rw [if_neg (by omega)]), trivial⟩) 18 _ dX9_cell_18
  · obtain ⟨rfl, f0_2, -⟩ := p_2
    show J X 3 0 0 5 [(0, .ref q0), (1, .int p0), (2, .int p1)] [.int (nI 0)] [(q0, .inr (9, [.int (nI ro), .int (nI co), .int sl, .ref q3, .ref q4, .int sn, .ref q6, .ref q7, .ref q8, .ref q9, .int ts, .int ra, .int rr, .int rw, .ref q14, .ref q15, .int rn, .ref q17, .ref q18, .ref q19, .int um, .int bs, .int bh, .ref q23, .ref q24, .ref q25, .int km])), (q3, .inl (cI, 48, .inl th)), (q4, .inl (cI, 48, .inl mo))]
    refine J_if_eq h 17 dX9_cell_5 (by decide) (fun _ => ?_) (fun z => absurd z (by decide))
    refine J_iconst h (v := (-1)) dX9_cell_17 (by decide) ?_
    exact hR ((-1)) () (⟨(by unfold fCell; rw [if_neg (by omega)]), trivial⟩) 18 _ dX9_cell_18
theorem c_X9_cell (l : Launch) (D : va_G) (cI cE : ClassId) (q0 : Nat) (q3 : Nat) (q4 : Nat) (q6 : Nat) (q7 : Nat) (q8 : Nat) (q9 : Nat) (q14 : Nat) (q15 : Nat) (q17 : Nat) (q18 : Nat) (q19 : Nat) (q23 : Nat) (q24 : Nat) (q25 : Nat) (ro : Nat) (co : Nat) (sl : Int32) (sn : Int32) (ts : Int32) (ra : Int32) (rr : Int32) (rw : Int32) (rn : Int32) (um : Int32) (bs : Int32) (bh : Int32) (km : Int32) (th : Nat → Int32) (mo : Nat → Int32) (cth : Nat → Int32) (cow : Nat → Int32) (p0 : Int32) (p1 : Int32) (hrc : ro * co ≤ 48) (hco : co ≤ 6) (hro : ro ≤ 8) (hrel : rel (ro * co) th mo cth cow) : Ci l D cI cE yX9_cell cX9_cell 3 (some .int) 2 0 0 [.ref q0, .int p0, .int p1] [(q0, .inr (9, [.int (nI ro), .int (nI co), .int sl, .ref q3, .ref q4, .int sn, .ref q6, .ref q7, .ref q8, .ref q9, .int ts, .int ra, .int rr, .int rw, .ref q14, .ref q15, .int rn, .ref q17, .ref q18, .ref q19, .int um, .int bs, .int bh, .ref q23, .ref q24, .ref q25, .int km])), (q3, .inl (cI, 48, .inl th)), (q4, .inl (cI, 48, .inl mo))] (fun (r : Int32) (u : Unit) => ((fCell cth cow (ro * co) p0 p1 = r) ∧ (True))) (fun (u : Unit) => ([(q0, .inr (9, [.int (nI ro), .int (nI co), .int sl, .ref q3, .ref q4, .int sn, .ref q6, .ref q7, .ref q8, .ref q9, .int ts, .int ra, .int rr, .int rw, .ref q14, .ref q15, .int rn, .ref q17, .ref q18, .ref q19, .int um, .int bs, .int bh, .ref q23, .ref q24, .ref q25, .int km])), (q3, .inl (cI, 48, .inl th)), (q4, .inl (cI, 48, .inl mo))] : va_W)) :=
  Ci.of (by decide) (Nat.le_of_ble_eq_true rfl) (fun _ _ _ => rfl) (fun X h hR => w_X9_cell X h q0 q3 q4 q6 q7 q8 q9 q14 q15 q17 q18 q19 q23 q24 q25 ro co sl sn ts ra rr rw rn um bs bh km th mo cth cow p0 p1 hrc hco hro hrel hR)
theorem yv_X9_cell : YV yX9_cell cX9_cell 3 (some .int) 2 := ⟨no_X9_cell, nv_X9_cell, ni_X9, nk_X9_cell, by decide +kernel⟩
set_option maxRecDepth 100000 in
set_option maxHeartbeats 4000000 in
theorem w_X9_stops (X : Cx) {cI cE : ClassId} (h : Ok X cX9_stops RX9 4 cI cE 3 0 0) (q0 : Nat) (q3 : Nat) (q4 : Nat) (q6 : Nat) (q7 : Nat) (q8 : Nat) (q9 : Nat) (q14 : Nat) (q15 : Nat) (q17 : Nat) (q18 : Nat) (q19 : Nat) (q23 : Nat) (q24 : Nat) (q25 : Nat) (ro : Nat) (co : Nat) (sl : Int32) (sn : Int32) (ts : Int32) (ra : Int32) (rr : Int32) (rw : Int32) (rn : Int32) (um : Int32) (bs : Int32) (bh : Int32) (km : Int32) (th : Nat → Int32) (mo : Nat → Int32) (ce : Nat → Int32) (se : Nat → Int32) (cth : Nat → Int32) (cow : Nat → Int32) (p0 : Int32) (p1 : Int32) (p2 : Int32) (hrc : ro * co ≤ 48) (hco : co ≤ 6) (hro : ro ≤ 8) (hrel : rel (ro * co) th mo cth cow) (hR : ∀ (r : Int32) (u : (Nat → Int32) × (Nat → Int32)), ((fStops cth co ro p0 p1 p2 = r) ∧ (True)) → RetI X cX9_stops 4 0 0 r [(q0, .inr (9, [.int (nI ro), .int (nI co), .int sl, .ref q3, .ref q4, .int sn, .ref q6, .ref q7, .ref q8, .ref q9, .int ts, .int ra, .int rr, .int rw, .ref q14, .ref q15, .int rn, .ref q17, .ref q18, .ref q19, .int um, .int bs, .int bh, .ref q23, .ref q24, .ref q25, .int km])), (q3, .inl (cI, 48, .inl th)), (q4, .inl (cI, 48, .inl mo)), (q17, .inl (cI, 8, .inl u.1)), (q18, .inl (cI, 8, .inl u.2))]) : J X 4 0 0 0 [(0, .ref q0), (1, .int p0), (2, .int p1), (3, .int p2)] [] [(q0, .inr (9, [.int (nI ro), .int (nI co), .int sl, .ref q3, .ref q4, .int sn, .ref q6, .ref q7, .ref q8, .ref q9, .int ts, .int ra, .int rr, .int rw, .ref q14, .ref q15, .int rn, .ref q17, .ref q18, .ref q19, .int um, .int bs, .int bh, .ref q23, .ref q24, .ref q25, .int km])), (q3, .inl (cI, 48, .inl th)), (q4, .inl (cI, 48, .inl mo)), (q17, .inl (cI, 8, .inl ce)), (q18, .inl (cI, 8, .inl se))] := by
  refine J_aload_n h (i := 0) dX9_stops_0 rfl 0 rfl ?_
  refine J_iload_n h (i := 1) dX9_stops_1 rfl 1 rfl ?_
  refine J_iload_n h (i := 2) dX9_stops_2 rfl 2 rfl ?_
  refine J_iload_n h (i := 3) dX9_stops_3 rfl 3 rfl ?_
  refine K_vi h (wr := [(q3, .inl (cI, 48, .inl th)), (q4, .inl (cI, 48, .inl mo)), (q17, .inl (cI, 8, .inl ce)), (q18, .inl (cI, 8, .inl se))]) (c_X9_isSlide (xl X) (xD X) cI cE q0 q3 q4 q6 q7 q8 q9 q14 q15 q17 q18 q19 q23 q24 q25 ro co sl sn ts ra rr rw rn um bs bh km p0 p1 p2 (by first | exact hco |  assumption | omega | rfl)) yv_X9_isSlide nm_X9_134 (by decide) (by decide) rfl rfl 0 rfl rfl rfl rfl (Nat.le_of_ble_eq_true rfl) (Nat.le_refl _) (Nat.le_refl _) dX9_stops_4 (fun r_4 u_4 p_4 => ?_)
  rcases p_4 with p_4 | p_4
  · obtain ⟨jx_4, jw_4, jh_4, rfl, f0_4, f1_4, f2_4, f3_4, f4_4, rfl, rfl, rfl, -⟩ := p_4
    show J X 4 0 0 7 [(0, .ref q0), (1, .int (nI jx_4)), (2, .int (nI jw_4)), (3, .int (nI jh_4))] [.int (nI 1)] [(q0, .inr (9, [.int (nI ro), .int (nI co), .int sl, .ref q3, .ref q4, .int sn, .ref q6, .ref q7, .ref q8, .ref q9, .int ts, .int ra, .int rr, .int rw, .ref q14, .ref q15, .int rn, .ref q17, .ref q18, .ref q19, .int um, .int bs, .int bh, .ref q23, .ref q24, .ref q25, .int km])), (q3, .inl (cI, 48, .inl th)), (q4, .inl (cI, 48, .inl mo)), (q17, .inl (cI, 8, .inl ce)), (q18, .inl (cI, 8, .inl se))]
    refine J_if_eq h 20 dX9_stops_7 (by decide) (fun z => absurd z (by decide)) (fun _ => ?_)
    refine J_aload_n h (i := 0) dX9_stops_10 rfl 0 rfl ?_
    refine J_iload_n h (i := 1) dX9_stops_11 rfl 1 rfl ?_
    refine J_iload_n h (i := 2) dX9_stops_12 rfl 2 rfl ?_
    refine J_iload_n h (i := 3) dX9_stops_13 rfl 3 rfl ?_
    refine J.wld [0, 1, 3, 4, 2] (ws' := [(q0, .inr (9, [.int (nI ro), .int (nI co), .int sl, .ref q3, .ref q4, .int sn, .ref q6, .ref q7, .ref q8, .ref q9, .int ts, .int ra, .int rr, .int rw, .ref q14, .ref q15, .int rn, .ref q17, .ref q18, .ref q19, .int um, .int bs, .int bh, .ref q23, .ref q24, .ref q25, .int km])), (q3, .inl (cI, 48, .inl th)), (q17, .inl (cI, 8, .inl ce)), (q18, .inl (cI, 8, .inl se)), (q4, .inl (cI, 48, .inl mo))]) rfl rfl ?_
    refine K_vi h (wr := [(q4, .inl (cI, 48, .inl mo))]) (c_X9_goes (xl X) (xD X) cI cE q0 q3 q4 q6 q7 q8 q9 q14 q15 q17 q18 q19 q23 q24 q25 ro co sl sn ts ra rr rw rn um bs bh km th ce se cth jx_4 jw_4 jh_4 (by first | exact hrc |  assumption | omega | rfl) (by first | exact hco |  assumption | omega | rfl) (by first | exact hro |  assumption | omega | rfl) (by first | assumption | omega | rfl) (by first | assumption | omega | rfl) (by first | assumption | omega | rfl) (by exact rel_T hrel)) yv_X9_goes nm_X9_137 (by decide) (by decide) rfl rfl 0 rfl rfl rfl rfl (Nat.le_of_ble_eq_true rfl) (Nat.le_refl _) (Nat.le_refl _) dX9_stops_14 (fun r_14 u_14 p_14 => ?_)
    obtain ⟨ce2_14, se2_14⟩ := u_14
    try dsimp only at p_14
    obtain ⟨rfl, f0_14, f1_14, f2_14, f3_14, -⟩ := p_14
    show J X 4 0 0 17 [(0, .ref q0), (1, .int (nI jx_4)), (2, .int (nI jw_4)), (3, .int (nI jh_4))] [.int (nI (ren cth co ro jh_4 jx_4 jw_4))] [(q0, .inr (9, [.int (nI ro), .int (nI co), .int sl, .ref q3, .ref q4, .int sn, .ref q6, .ref q7, .ref q8, .ref q9, .int ts, .int ra, .int rr, .int rw, .ref q14, .ref q15, .int rn, .ref q17, .ref q18, .ref q19, .int um, .int bs, .int bh, .ref q23, .ref q24, .ref q25, .int km])), (q3, .inl (cI, 48, .inl th)), (q17, .inl (cI, 8, .inl ce2_14)), (q18, .inl (cI, 8, .inl se2_14)), (q4, .inl (cI, 48, .inl mo))]
    refine J_goto h 21 dX9_stops_17 (by decide) ?_
    refine J.wld [0, 1, 4, 2, 3] (ws' := [(q0, .inr (9, [.int (nI ro), .int (nI co), .int sl, .ref q3, .ref q4, .int sn, .ref q6, .ref q7, .ref q8, .ref q9, .int ts, .int ra, .int rr, .int rw, .ref q14, .ref q15, .int rn, .ref q17, .ref q18, .ref q19, .int um, .int bs, .int bh, .ref q23, .ref q24, .ref q25, .int km])), (q3, .inl (cI, 48, .inl th)), (q4, .inl (cI, 48, .inl mo)), (q17, .inl (cI, 8, .inl ce2_14)), (q18, .inl (cI, 8, .inl se2_14))]) rfl rfl ?_
    exact hR (nI (ren cth co ro jh_4 jx_4 jw_4)) (ce2_14, se2_14) (⟨(by (try dsimp only); unfold fStops; first | (rw [if_pos (by assumption), tnI (by omega), tnI (by omega), tnI (by omega)]; done) | (rw [if_neg (by assumption)]; done)), trivial⟩) 21 _ dX9_stops_21
  · obtain ⟨rfl, f0_4, -⟩ := p_4
    show J X 4 0 0 7 [(0, .ref q0), (1, .int p0), (2, .int p1), (3, .int p2)] [.int (nI 0)] [(q0, .inr (9, [.int (nI ro), .int (nI co), .int sl, .ref q3, .ref q4, .int sn, .ref q6, .ref q7, .ref q8, .ref q9, .int ts, .int ra, .int rr, .int rw, .ref q14, .ref q15, .int rn, .ref q17, .ref q18, .ref q19, .int um, .int bs, .int bh, .ref q23, .ref q24, .ref q25, .int km])), (q3, .inl (cI, 48, .inl th)), (q4, .inl (cI, 48, .inl mo)), (q17, .inl (cI, 8, .inl ce)), (q18, .inl (cI, 8, .inl se))]
    refine J_if_eq h 20 dX9_stops_7 (by decide) (fun _ => ?_) (fun z => absurd z (by decide))
    refine J_iconst h (v := (-1)) dX9_stops_20 (by decide) ?_
    exact hR ((-1)) (ce, se) (⟨(by (try dsimp only); unfold fStops; first | (rw [if_pos (by assumption), tnI (by omega), tnI (by omega), tnI (by omega)]; done) | (rw [if_neg (by assumption)]; done)), trivial⟩) 21 _ dX9_stops_21
theorem c_X9_stops (l : Launch) (D : va_G) (cI cE : ClassId) (q0 : Nat) (q3 : Nat) (q4 : Nat) (q6 : Nat) (q7 : Nat) (q8 : Nat) (q9 : Nat) (q14 : Nat) (q15 : Nat) (q17 : Nat) (q18 : Nat) (q19 : Nat) (q23 : Nat) (q24 : Nat) (q25 : Nat) (ro : Nat) (co : Nat) (sl : Int32) (sn : Int32) (ts : Int32) (ra : Int32) (rr : Int32) (rw : Int32) (rn : Int32) (um : Int32) (bs : Int32) (bh : Int32) (km : Int32) (th : Nat → Int32) (mo : Nat → Int32) (ce : Nat → Int32) (se : Nat → Int32) (cth : Nat → Int32) (cow : Nat → Int32) (p0 : Int32) (p1 : Int32) (p2 : Int32) (hrc : ro * co ≤ 48) (hco : co ≤ 6) (hro : ro ≤ 8) (hrel : rel (ro * co) th mo cth cow) : Ci l D cI cE yX9_stops cX9_stops 4 (some .int) 3 0 0 [.ref q0, .int p0, .int p1, .int p2] [(q0, .inr (9, [.int (nI ro), .int (nI co), .int sl, .ref q3, .ref q4, .int sn, .ref q6, .ref q7, .ref q8, .ref q9, .int ts, .int ra, .int rr, .int rw, .ref q14, .ref q15, .int rn, .ref q17, .ref q18, .ref q19, .int um, .int bs, .int bh, .ref q23, .ref q24, .ref q25, .int km])), (q3, .inl (cI, 48, .inl th)), (q4, .inl (cI, 48, .inl mo)), (q17, .inl (cI, 8, .inl ce)), (q18, .inl (cI, 8, .inl se))] (fun (r : Int32) (u : (Nat → Int32) × (Nat → Int32)) => ((fStops cth co ro p0 p1 p2 = r) ∧ (True))) (fun (u : (Nat → Int32) × (Nat → Int32)) => ([(q0, .inr (9, [.int (nI ro), .int (nI co), .int sl, .ref q3, .ref q4, .int sn, .ref q6, .ref q7, .ref q8, .ref q9, .int ts, .int ra, .int rr, .int rw, .ref q14, .ref q15, .int rn, .ref q17, .ref q18, .ref q19, .int um, .int bs, .int bh, .ref q23, .ref q24, .ref q25, .int km])), (q3, .inl (cI, 48, .inl th)), (q4, .inl (cI, 48, .inl mo)), (q17, .inl (cI, 8, .inl u.1)), (q18, .inl (cI, 8, .inl u.2))] : va_W)) :=
  Ci.of (by decide) (Nat.le_of_ble_eq_true rfl) (fun _ _ _ => rfl) (fun X h hR => w_X9_stops X h q0 q3 q4 q6 q7 q8 q9 q14 q15 q17 q18 q19 q23 q24 q25 ro co sl sn ts ra rr rw rn um bs bh km th mo ce se cth cow p0 p1 p2 hrc hco hro hrel hR)
theorem yv_X9_stops : YV yX9_stops cX9_stops 4 (some .int) 3 := ⟨no_X9_stops, nv_X9_stops, ni_X9, nk_X9_stops, by decide +kernel⟩
set_option maxRecDepth 100000 in
set_option maxHeartbeats 4000000 in
theorem w_X9_track (X : Cx) {cI cE : ClassId} (h : Ok X cX9_track RX9 6 cI cE 3 0 0) (q0 : Nat) (q3 : Nat) (q4 : Nat) (q6 : Nat) (q7 : Nat) (q8 : Nat) (q9 : Nat) (q14 : Nat) (q15 : Nat) (q17 : Nat) (q18 : Nat) (q19 : Nat) (q23 : Nat) (q24 : Nat) (q25 : Nat) (ro : Nat) (co : Nat) (sl : Int32) (sn : Int32) (ts : Int32) (ra : Int32) (rr : Int32) (rw : Int32) (rn : Int32) (um : Int32) (bs : Int32) (bh : Int32) (km : Int32) (th : Nat → Int32) (mo : Nat → Int32) (ce : Nat → Int32) (se : Nat → Int32) (cth : Nat → Int32) (cow : Nat → Int32) (p0 : Int32) (p1 : Int32) (p2 : Int32) (p3 : Int32) (p4 : Int32) (hrc : ro * co ≤ 48) (hco : co ≤ 6) (hro : ro ≤ 8) (hrel : rel (ro * co) th mo cth cow) (hR : ∀ (r : Int32) (u : (Nat → Int32) × (Nat → Int32)), ((fTrack cth co ro p0 p1 p2 p3 p4 = r) ∧ (True)) → RetI X cX9_track 6 0 0 r [(q0, .inr (9, [.int (nI ro), .int (nI co), .int sl, .ref q3, .ref q4, .int sn, .ref q6, .ref q7, .ref q8, .ref q9, .int ts, .int ra, .int rr, .int rw, .ref q14, .ref q15, .int rn, .ref q17, .ref q18, .ref q19, .int um, .int bs, .int bh, .ref q23, .ref q24, .ref q25, .int km])), (q3, .inl (cI, 48, .inl th)), (q4, .inl (cI, 48, .inl mo)), (q17, .inl (cI, 8, .inl u.1)), (q18, .inl (cI, 8, .inl u.2))]) : J X 6 0 0 0 [(0, .ref q0), (1, .int p0), (2, .int p1), (3, .int p2), (4, .int p3), (5, .int p4)] [] [(q0, .inr (9, [.int (nI ro), .int (nI co), .int sl, .ref q3, .ref q4, .int sn, .ref q6, .ref q7, .ref q8, .ref q9, .int ts, .int ra, .int rr, .int rw, .ref q14, .ref q15, .int rn, .ref q17, .ref q18, .ref q19, .int um, .int bs, .int bh, .ref q23, .ref q24, .ref q25, .int km])), (q3, .inl (cI, 48, .inl th)), (q4, .inl (cI, 48, .inl mo)), (q17, .inl (cI, 8, .inl ce)), (q18, .inl (cI, 8, .inl se))] := by
  refine J_aload_n h (i := 0) dX9_track_0 rfl 0 rfl ?_
  refine J_iload_n h (i := 1) dX9_track_1 rfl 1 rfl ?_
  refine J_iload_n h (i := 2) dX9_track_2 rfl 2 rfl ?_
  refine J_iload_n h (i := 3) dX9_track_3 rfl 3 rfl ?_
  refine K_vi h (wr := [(q3, .inl (cI, 48, .inl th)), (q4, .inl (cI, 48, .inl mo)), (q17, .inl (cI, 8, .inl ce)), (q18, .inl (cI, 8, .inl se))]) (c_X9_isSlide (xl X) (xD X) cI cE q0 q3 q4 q6 q7 q8 q9 q14 q15 q17 q18 q19 q23 q24 q25 ro co sl sn ts ra rr rw rn um bs bh km p0 p1 p2 (by first | exact hco |  assumption | omega | rfl)) yv_X9_isSlide nm_X9_134 (by decide) (by decide) rfl rfl 0 rfl rfl rfl rfl (Nat.le_of_ble_eq_true rfl) (Nat.le_refl _) (Nat.le_refl _) dX9_track_4 (fun r_4 u_4 p_4 => ?_)
  rcases p_4 with p_4 | p_4
  · obtain ⟨jx_4, jw_4, jh_4, rfl, f0_4, f1_4, f2_4, f3_4, f4_4, rfl, rfl, rfl, -⟩ := p_4
    show J X 6 0 0 7 [(0, .ref q0), (1, .int (nI jx_4)), (2, .int (nI jw_4)), (3, .int (nI jh_4)), (4, .int p3), (5, .int p4)] [.int (nI 1)] [(q0, .inr (9, [.int (nI ro), .int (nI co), .int sl, .ref q3, .ref q4, .int sn, .ref q6, .ref q7, .ref q8, .ref q9, .int ts, .int ra, .int rr, .int rw, .ref q14, .ref q15, .int rn, .ref q17, .ref q18, .ref q19, .int um, .int bs, .int bh, .ref q23, .ref q24, .ref q25, .int km])), (q3, .inl (cI, 48, .inl th)), (q4, .inl (cI, 48, .inl mo)), (q17, .inl (cI, 8, .inl ce)), (q18, .inl (cI, 8, .inl se))]
    refine J_if_eq h 35 dX9_track_7 (by decide) (fun z => absurd z (by decide)) (fun _ => ?_)
    refine J_iload h dX9_track_10 4 rfl ?_
    refine J_iconst h (v := nI 0) dX9_track_12 (by decide) ?_
    refine J_aload_n h (i := 0) dX9_track_13 rfl 0 rfl ?_
    refine J_get h inX9 rfl 0 0 (by decide) rfl rfl nf_X9_60 dX9_track_14 ?_
    refine J_iconst h (v := nI 1) dX9_track_17 (by decide) ?_
    refine J_isub h dX9_track_18 ?_
    refine K_si h (wr := [(q0, .inr (9, [.int (nI ro), .int (nI co), .int sl, .ref q3, .ref q4, .int sn, .ref q6, .ref q7, .ref q8, .ref q9, .int ts, .int ra, .int rr, .int rw, .ref q14, .ref q15, .int rn, .ref q17, .ref q18, .ref q19, .int um, .int bs, .int bh, .ref q23, .ref q24, .ref q25, .int km])), (q3, .inl (cI, 48, .inl th)), (q4, .inl (cI, 48, .inl mo)), (q17, .inl (cI, 8, .inl ce)), (q18, .inl (cI, 8, .inl se))]) (c_X9_in (xl X) (xD X) cI cE p3 (nI 0) ((nI ro) - (nI 1)) ((p3).toInt) 0 (((ro : Nat) : Int) - ((1 : Nat) : Int)) (by exact rfl) (by exact nI_toInt (by omega)) (by exact pk_sub_toInt (by omega) (by omega))) yv_X9_in nm_X9_67 (by decide) (by decide) rfl rfl rfl (Nat.le_of_ble_eq_true rfl) (Nat.le_refl _) (Nat.le_refl _) dX9_track_19 (fun r_19 u_19 p_19 => ?_)
    rcases p_19 with p_19 | p_19
    · obtain ⟨rfl, f0_19, -⟩ := p_19
      show J X 6 0 0 22 [(0, .ref q0), (1, .int (nI jx_4)), (2, .int (nI jw_4)), (3, .int (nI jh_4)), (4, .int p3), (5, .int p4)] [.int (nI 1)] [(q0, .inr (9, [.int (nI ro), .int (nI co), .int sl, .ref q3, .ref q4, .int sn, .ref q6, .ref q7, .ref q8, .ref q9, .int ts, .int ra, .int rr, .int rw, .ref q14, .ref q15, .int rn, .ref q17, .ref q18, .ref q19, .int um, .int bs, .int bh, .ref q23, .ref q24, .ref q25, .int km])), (q3, .inl (cI, 48, .inl th)), (q4, .inl (cI, 48, .inl mo)), (q17, .inl (cI, 8, .inl ce)), (q18, .inl (cI, 8, .inl se))]
      refine J_if_eq h 35 dX9_track_22 (by decide) (fun z => absurd z (by decide)) (fun _ => ?_)
      refine J_iload h dX9_track_25 5 rfl ?_
      refine J_iconst h (v := nI 0) dX9_track_27 (by decide) ?_
      refine J_iconst h (v := nI 1) dX9_track_28 (by decide) ?_
      refine K_si h (wr := [(q0, .inr (9, [.int (nI ro), .int (nI co), .int sl, .ref q3, .ref q4, .int sn, .ref q6, .ref q7, .ref q8, .ref q9, .int ts, .int ra, .int rr, .int rw, .ref q14, .ref q15, .int rn, .ref q17, .ref q18, .ref q19, .int um, .int bs, .int bh, .ref q23, .ref q24, .ref q25, .int km])), (q3, .inl (cI, 48, .inl th)), (q4, .inl (cI, 48, .inl mo)), (q17, .inl (cI, 8, .inl ce)), (q18, .inl (cI, 8, .inl se))]) (c_X9_in (xl X) (xD X) cI cE p4 (nI 0) (nI 1) ((p4).toInt) 0 1 (by exact rfl) (by exact nI_toInt (by omega)) (by exact nI_toInt (by omega))) yv_X9_in nm_X9_67 (by decide) (by decide) rfl rfl rfl (Nat.le_of_ble_eq_true rfl) (Nat.le_refl _) (Nat.le_refl _) dX9_track_29 (fun r_29 u_29 p_29 => ?_)
      rcases p_29 with p_29 | p_29
      · obtain ⟨rfl, f0_29, -⟩ := p_29
        show J X 6 0 0 32 [(0, .ref q0), (1, .int (nI jx_4)), (2, .int (nI jw_4)), (3, .int (nI jh_4)), (4, .int p3), (5, .int p4)] [.int (nI 1)] [(q0, .inr (9, [.int (nI ro), .int (nI co), .int sl, .ref q3, .ref q4, .int sn, .ref q6, .ref q7, .ref q8, .ref q9, .int ts, .int ra, .int rr, .int rw, .ref q14, .ref q15, .int rn, .ref q17, .ref q18, .ref q19, .int um, .int bs, .int bh, .ref q23, .ref q24, .ref q25, .int km])), (q3, .inl (cI, 48, .inl th)), (q4, .inl (cI, 48, .inl mo)), (q17, .inl (cI, 8, .inl ce)), (q18, .inl (cI, 8, .inl se))]
        refine J_if_ne h 37 dX9_track_32 (by decide) (fun _ => ?_) (fun z => absurd z (by decide))
        obtain ⟨jk, hjk, rfl⟩ := toNI (x := p3) (n := ro) (by omega) (by omega)
        refine J_aload_n h (i := 0) dX9_track_37 rfl 0 rfl ?_
        refine J_iload_n h (i := 1) dX9_track_38 rfl 1 rfl ?_
        refine J_iload_n h (i := 2) dX9_track_39 rfl 2 rfl ?_
        refine J_iload_n h (i := 3) dX9_track_40 rfl 3 rfl ?_
        refine J.wld [0, 1, 3, 4, 2] (ws' := [(q0, .inr (9, [.int (nI ro), .int (nI co), .int sl, .ref q3, .ref q4, .int sn, .ref q6, .ref q7, .ref q8, .ref q9, .int ts, .int ra, .int rr, .int rw, .ref q14, .ref q15, .int rn, .ref q17, .ref q18, .ref q19, .int um, .int bs, .int bh, .ref q23, .ref q24, .ref q25, .int km])), (q3, .inl (cI, 48, .inl th)), (q17, .inl (cI, 8, .inl ce)), (q18, .inl (cI, 8, .inl se)), (q4, .inl (cI, 48, .inl mo))]) rfl rfl ?_
        refine K_vi h (wr := [(q4, .inl (cI, 48, .inl mo))]) (c_X9_goes (xl X) (xD X) cI cE q0 q3 q4 q6 q7 q8 q9 q14 q15 q17 q18 q19 q23 q24 q25 ro co sl sn ts ra rr rw rn um bs bh km th ce se cth jx_4 jw_4 jh_4 (by first | exact hrc |  assumption | omega | rfl) (by first | exact hco |  assumption | omega | rfl) (by first | exact hro |  assumption | omega | rfl) (by first | assumption | omega | rfl) (by first | assumption | omega | rfl) (by first | assumption | omega | rfl) (by exact rel_T hrel)) yv_X9_goes nm_X9_137 (by decide) (by decide) rfl rfl 0 rfl rfl rfl rfl (Nat.le_of_ble_eq_true rfl) (Nat.le_refl _) (Nat.le_refl _) dX9_track_41 (fun r_41 u_41 p_41 => ?_)
        obtain ⟨ce2_41, se2_41⟩ := u_41
        try dsimp only at p_41
        obtain ⟨rfl, f0_41, f1_41, f2_41, f3_41, -⟩ := p_41
        show J X 6 0 0 44 [(0, .ref q0), (1, .int (nI jx_4)), (2, .int (nI jw_4)), (3, .int (nI jh_4)), (4, .int (nI jk)), (5, .int p4)] [.int (nI (ren cth co ro jh_4 jx_4 jw_4))] [(q0, .inr (9, [.int (nI ro), .int (nI co), .int sl, .ref q3, .ref q4, .int sn, .ref q6, .ref q7, .ref q8, .ref q9, .int ts, .int ra, .int rr, .int rw, .ref q14, .ref q15, .int rn, .ref q17, .ref q18, .ref q19, .int um, .int bs, .int bh, .ref q23, .ref q24, .ref q25, .int km])), (q3, .inl (cI, 48, .inl th)), (q17, .inl (cI, 8, .inl ce2_41)), (q18, .inl (cI, 8, .inl se2_41)), (q4, .inl (cI, 48, .inl mo))]
        refine J_pop h dX9_track_44 rfl ?_
        refine J_iload h dX9_track_45 5 rfl ?_
        refine T_if_ne h (A := (p4).toInt) 60 dX9_track_47 (by decide) (rfl) (fun c_47 => ?_) (fun c_47 => ?_)
        · skip
          refine J_aload_n h (i := 0) dX9_track_60 rfl 0 rfl ?_
          refine J_get h inX9 rfl 0 18 (by decide) rfl rfl nf_X9_37 dX9_track_61 ?_
          refine J_iload h dX9_track_64 4 rfl ?_
          refine N_iald h 3 rfl (by decide) (by omega) dX9_track_66 ?_
          refine J.wld [0, 1, 4, 2, 3] (ws' := [(q0, .inr (9, [.int (nI ro), .int (nI co), .int sl, .ref q3, .ref q4, .int sn, .ref q6, .ref q7, .ref q8, .ref q9, .int ts, .int ra, .int rr, .int rw, .ref q14, .ref q15, .int rn, .ref q17, .ref q18, .ref q19, .int um, .int bs, .int bh, .ref q23, .ref q24, .ref q25, .int km])), (q3, .inl (cI, 48, .inl th)), (q4, .inl (cI, 48, .inl mo)), (q17, .inl (cI, 8, .inl ce2_41)), (q18, .inl (cI, 8, .inl se2_41))]) rfl rfl ?_
          exact hR (se2_41 jk) (ce2_41, se2_41) (⟨(by (try dsimp only); unfold fTrack; rw [if_pos ⟨by assumption, cellI (by omega) (by omega), by omega⟩, tnI (by omega), tnI (by omega), tnI (by omega), tnI (by omega)]; rcases Nat.lt_or_ge jk (rln cth co ro jh_4 jx_4 jw_4) with hlt | hge; (rw [if_pos hlt]; first | (rw [if_pos (by omega)]; exact (f0_41 _ hlt).symm) | (rw [if_neg (by omega)]; exact (f1_41 _ hlt).symm)); (rw [if_neg (by omega)]; first | exact (f2_41 _ hge (by omega)).symm | exact (f3_41 _ hge (by omega)).symm)), trivial⟩) 67 _ dX9_track_67
        · skip
          refine J_aload_n h (i := 0) dX9_track_50 rfl 0 rfl ?_
          refine J_get h inX9 rfl 0 17 (by decide) rfl rfl nf_X9_34 dX9_track_51 ?_
          refine J_iload h dX9_track_54 4 rfl ?_
          refine N_iald h 2 rfl (by decide) (by omega) dX9_track_56 ?_
          refine J_goto h 67 dX9_track_57 (by decide) ?_
          refine J.wld [0, 1, 4, 2, 3] (ws' := [(q0, .inr (9, [.int (nI ro), .int (nI co), .int sl, .ref q3, .ref q4, .int sn, .ref q6, .ref q7, .ref q8, .ref q9, .int ts, .int ra, .int rr, .int rw, .ref q14, .ref q15, .int rn, .ref q17, .ref q18, .ref q19, .int um, .int bs, .int bh, .ref q23, .ref q24, .ref q25, .int km])), (q3, .inl (cI, 48, .inl th)), (q4, .inl (cI, 48, .inl mo)), (q17, .inl (cI, 8, .inl ce2_41)), (q18, .inl (cI, 8, .inl se2_41))]) rfl rfl ?_
          exact hR (ce2_41 jk) (ce2_41, se2_41) (⟨(by (try dsimp only); unfold fTrack; rw [if_pos ⟨by assumption, cellI (by omega) (by omega), by omega⟩, tnI (by omega), tnI (by omega), tnI (by omega), tnI (by omega)]; rcases Nat.lt_or_ge jk (rln cth co ro jh_4 jx_4 jw_4) with hlt | hge; (rw [if_pos hlt]; first | (rw [if_pos (by omega)]; exact (f0_41 _ hlt).symm) | (rw [if_neg (by omega)]; exact (f1_41 _ hlt).symm)); (rw [if_neg (by omega)]; first | exact (f2_41 _ hge (by omega)).symm | exact (f3_41 _ hge (by omega)).symm)), trivial⟩) 67 _ dX9_track_67
      · obtain ⟨rfl, f0_29, -⟩ := p_29
        show J X 6 0 0 32 [(0, .ref q0), (1, .int (nI jx_4)), (2, .int (nI jw_4)), (3, .int (nI jh_4)), (4, .int p3), (5, .int p4)] [.int (nI 0)] [(q0, .inr (9, [.int (nI ro), .int (nI co), .int sl, .ref q3, .ref q4, .int sn, .ref q6, .ref q7, .ref q8, .ref q9, .int ts, .int ra, .int rr, .int rw, .ref q14, .ref q15, .int rn, .ref q17, .ref q18, .ref q19, .int um, .int bs, .int bh, .ref q23, .ref q24, .ref q25, .int km])), (q3, .inl (cI, 48, .inl th)), (q4, .inl (cI, 48, .inl mo)), (q17, .inl (cI, 8, .inl ce)), (q18, .inl (cI, 8, .inl se))]
        refine J_if_ne h 37 dX9_track_32 (by decide) (fun z => absurd z (by decide)) (fun _ => ?_)
        refine J_iconst h (v := (-1)) dX9_track_35 (by decide) ?_
        exact hR ((-1)) (ce, se) (⟨(by (try dsimp only); unfold fTrack; rw [if_neg (fun q => by have q1 := q.1; have q2 := q.2; first | exact absurd q1 (by assumption) | omega)]), trivial⟩) 36 _ dX9_track_36
    · obtain ⟨rfl, f0_19, -⟩ := p_19
      show J X 6 0 0 22 [(0, .ref q0), (1, .int (nI jx_4)), (2, .int (nI jw_4)), (3, .int (nI jh_4)), (4, .int p3), (5, .int p4)] [.int (nI 0)] [(q0, .inr (9, [.int (nI ro), .int (nI co), .int sl, .ref q3, .ref q4, .int sn, .ref q6, .ref q7, .ref q8, .ref q9, .int ts, .int ra, .int rr, .int rw, .ref q14, .ref q15, .int rn, .ref q17, .ref q18, .ref q19, .int um, .int bs, .int bh, .ref q23, .ref q24, .ref q25, .int km])), (q3, .inl (cI, 48, .inl th)), (q4, .inl (cI, 48, .inl mo)), (q17, .inl (cI, 8, .inl ce)), (q18, .inl (cI, 8, .inl se))]
      refine J_if_eq h 35 dX9_track_22 (by decide) (fun _ => ?_) (fun z => absurd z (by decide))
      refine J_iconst h (v := (-1)) dX9_track_35 (by decide) ?_
      exact hR ((-1)) (ce, se) (⟨(by (try dsimp only); unfold fTrack; rw [if_neg (fun q => by have q1 := q.1; have q2 := q.2; first | exact absurd q1 (by assumption) | omega)]), trivial⟩) 36 _ dX9_track_36
  · obtain ⟨rfl, f0_4, -⟩ := p_4
    show J X 6 0 0 7 [(0, .ref q0), (1, .int p0), (2, .int p1), (3, .int p2), (4, .int p3), (5, .int p4)] [.int (nI 0)] [(q0, .inr (9, [.int (nI ro), .int (nI co), .int sl, .ref q3, .ref q4, .int sn, .ref q6, .ref q7, .ref q8, .ref q9, .int ts, .int ra, .int rr, .int rw, .ref q14, .ref q15, .int rn, .ref q17, .ref q18, .ref q19, .int um, .int bs, .int bh, .ref q23, .ref q24, .ref q25, .int km])), (q3, .inl (cI, 48, .inl th)), (q4, .inl (cI, 48, .inl mo)), (q17, .inl (cI, 8, .inl ce)), (q18, .inl (cI, 8, .inl se))]
    refine J_if_eq h 35 dX9_track_7 (by decide) (fun _ => ?_) (fun z => absurd z (by decide))
    refine J_iconst h (v := (-1)) dX9_track_35 (by decide) ?_
    exact hR ((-1)) (ce, se) (⟨(by (try dsimp only); unfold fTrack; rw [if_neg (fun q => by have q1 := q.1; have q2 := q.2; first | exact absurd q1 (by assumption) | omega)]), trivial⟩) 36 _ dX9_track_36
theorem c_X9_track (l : Launch) (D : va_G) (cI cE : ClassId) (q0 : Nat) (q3 : Nat) (q4 : Nat) (q6 : Nat) (q7 : Nat) (q8 : Nat) (q9 : Nat) (q14 : Nat) (q15 : Nat) (q17 : Nat) (q18 : Nat) (q19 : Nat) (q23 : Nat) (q24 : Nat) (q25 : Nat) (ro : Nat) (co : Nat) (sl : Int32) (sn : Int32) (ts : Int32) (ra : Int32) (rr : Int32) (rw : Int32) (rn : Int32) (um : Int32) (bs : Int32) (bh : Int32) (km : Int32) (th : Nat → Int32) (mo : Nat → Int32) (ce : Nat → Int32) (se : Nat → Int32) (cth : Nat → Int32) (cow : Nat → Int32) (p0 : Int32) (p1 : Int32) (p2 : Int32) (p3 : Int32) (p4 : Int32) (hrc : ro * co ≤ 48) (hco : co ≤ 6) (hro : ro ≤ 8) (hrel : rel (ro * co) th mo cth cow) : Ci l D cI cE yX9_track cX9_track 6 (some .int) 3 0 0 [.ref q0, .int p0, .int p1, .int p2, .int p3, .int p4] [(q0, .inr (9, [.int (nI ro), .int (nI co), .int sl, .ref q3, .ref q4, .int sn, .ref q6, .ref q7, .ref q8, .ref q9, .int ts, .int ra, .int rr, .int rw, .ref q14, .ref q15, .int rn, .ref q17, .ref q18, .ref q19, .int um, .int bs, .int bh, .ref q23, .ref q24, .ref q25, .int km])), (q3, .inl (cI, 48, .inl th)), (q4, .inl (cI, 48, .inl mo)), (q17, .inl (cI, 8, .inl ce)), (q18, .inl (cI, 8, .inl se))] (fun (r : Int32) (u : (Nat → Int32) × (Nat → Int32)) => ((fTrack cth co ro p0 p1 p2 p3 p4 = r) ∧ (True))) (fun (u : (Nat → Int32) × (Nat → Int32)) => ([(q0, .inr (9, [.int (nI ro), .int (nI co), .int sl, .ref q3, .ref q4, .int sn, .ref q6, .ref q7, .ref q8, .ref q9, .int ts, .int ra, .int rr, .int rw, .ref q14, .ref q15, .int rn, .ref q17, .ref q18, .ref q19, .int um, .int bs, .int bh, .ref q23, .ref q24, .ref q25, .int km])), (q3, .inl (cI, 48, .inl th)), (q4, .inl (cI, 48, .inl mo)), (q17, .inl (cI, 8, .inl u.1)), (q18, .inl (cI, 8, .inl u.2))] : va_W)) :=
  Ci.of (by decide) (Nat.le_of_ble_eq_true rfl) (fun _ _ _ => rfl) (fun X h hR => w_X9_track X h q0 q3 q4 q6 q7 q8 q9 q14 q15 q17 q18 q19 q23 q24 q25 ro co sl sn ts ra rr rw rn um bs bh km th mo ce se cth cow p0 p1 p2 p3 p4 hrc hco hro hrel hR)
theorem yv_X9_track : YV yX9_track cX9_track 6 (some .int) 5 := ⟨no_X9_track, nv_X9_track, ni_X9, nk_X9_track, by decide +kernel⟩
set_option maxRecDepth 100000 in
set_option maxHeartbeats 4000000 in
theorem w_X9_owned_4 (X : Cx) {cI cE : ClassId} (h : Ok X cX9_owned RX9 4 cI cE 1 0 0) (q0 : Nat) (q3 : Nat) (q4 : Nat) (q6 : Nat) (q7 : Nat) (q8 : Nat) (q9 : Nat) (q14 : Nat) (q15 : Nat) (q17 : Nat) (q18 : Nat) (q19 : Nat) (q23 : Nat) (q24 : Nat) (q25 : Nat) (ro : Nat) (co : Nat) (sl : Int32) (sn : Int32) (ts : Int32) (ra : Int32) (rr : Int32) (rw : Int32) (rn : Int32) (um : Int32) (bs : Int32) (bh : Int32) (km : Int32) (th : Nat → Int32) (mo : Nat → Int32) (cth : Nat → Int32) (cow : Nat → Int32) (p0 : Int32) (hrc : ro * co ≤ 48) (hco : co ≤ 6) (hro : ro ≤ 8) (hrel : rel (ro * co) th mo cth cow) (hs : 0 ≤ p0.toInt ∧ p0.toInt < 4) (hR : ∀ (r : Int32) (u : Unit), ((nI (cntP (fun k => decide (cow k = p0)) (ro * co)) = r) ∧ (True)) → RetI X cX9_owned 4 0 0 r [(q0, .inr (9, [.int (nI ro), .int (nI co), .int sl, .ref q3, .ref q4, .int sn, .ref q6, .ref q7, .ref q8, .ref q9, .int ts, .int ra, .int rr, .int rw, .ref q14, .ref q15, .int rn, .ref q17, .ref q18, .ref q19, .int um, .int bs, .int bh, .ref q23, .ref q24, .ref q25, .int km])), (q3, .inl (cI, 48, .inl th)), (q4, .inl (cI, 48, .inl mo))]) : ∀ (n_4 : Nat) (i : Nat) (n : Nat), (i ≤ ro * co) → (n = cntP (fun k => decide (cow k = p0)) i) → ro * co - i < n_4 → J X 4 0 0 4 [(0, .ref q0), (1, .int p0), (2, .int (nI n)), (3, .int (nI i))] [] [(q0, .inr (9, [.int (nI ro), .int (nI co), .int sl, .ref q3, .ref q4, .int sn, .ref q6, .ref q7, .ref q8, .ref q9, .int ts, .int ra, .int rr, .int rw, .ref q14, .ref q15, .int rn, .ref q17, .ref q18, .ref q19, .int um, .int bs, .int bh, .ref q23, .ref q24, .ref q25, .int km])), (q3, .inl (cI, 48, .inl th)), (q4, .inl (cI, 48, .inl mo))] := by
  intro n_4
  induction n_4 with
  | zero => intro i n hi hn hn_; exact absurd hn_ (Nat.not_lt_zero _)
  | succ n_4 ih_4 =>
    intro i n hi hn hn_4
    refine J_iload_n h (i := 3) dX9_owned_4 rfl 3 rfl ?_
    refine J_aload_n h (i := 0) dX9_owned_5 rfl 0 rfl ?_
    refine K_vi h (wr := [(q3, .inl (cI, 48, .inl th)), (q4, .inl (cI, 48, .inl mo))]) (c_X9_cells (xl X) (xD X) cI cE q0 q3 q4 q6 q7 q8 q9 q14 q15 q17 q18 q19 q23 q24 q25 ro co sl sn ts ra rr rw rn um bs bh km ) yv_X9_cells nm_X9_63 (by decide) (by decide) rfl rfl 0 rfl rfl rfl rfl (Nat.le_of_ble_eq_true rfl) (Nat.le_refl _) (Nat.le_refl _) dX9_owned_6 (fun r_6 u_6 p_6 => ?_)
    obtain ⟨rfl, -⟩ := p_6
    show J X 4 0 0 9 [(0, .ref q0), (1, .int p0), (2, .int (nI n)), (3, .int (nI i))] [.int (nI (ro * co)), .int (nI i)] [(q0, .inr (9, [.int (nI ro), .int (nI co), .int sl, .ref q3, .ref q4, .int sn, .ref q6, .ref q7, .ref q8, .ref q9, .int ts, .int ra, .int rr, .int rw, .ref q14, .ref q15, .int rn, .ref q17, .ref q18, .ref q19, .int um, .int bs, .int bh, .ref q23, .ref q24, .ref q25, .int km])), (q3, .inl (cI, 48, .inl th)), (q4, .inl (cI, 48, .inl mo))]
    refine N_icmp_ge h 36 dX9_owned_9 (by decide) (by omega) (by omega) (fun c_9 => ?_) (fun c_9 => ?_)
    · skip
      refine J_iload_n h (i := 2) dX9_owned_36 rfl 2 rfl ?_
      exact hR (nI n) () (⟨(by rw [hn, show i = ro * co by omega]), trivial⟩) 37 _ dX9_owned_37
    · skip
      refine J_iload_n h (i := 2) dX9_owned_12 rfl 2 rfl ?_
      refine J_aload_n h (i := 0) dX9_owned_13 rfl 0 rfl ?_
      refine J_get h inX9 rfl 0 4 (by decide) rfl rfl nf_X9_13 dX9_owned_14 ?_
      refine J_iload_n h (i := 3) dX9_owned_17 rfl 3 rfl ?_
      refine N_iald h 2 rfl (by decide) (by omega) dX9_owned_18 ?_
      refine J_iload_n h (i := 1) dX9_owned_19 rfl 1 rfl ?_
      refine J_icmp_ne h 27 dX9_owned_20 (by decide) (fun c_20 => ?_) (fun c_20 => ?_)
      · skip
        refine J_iconst h (v := nI 0) dX9_owned_27 (by decide) ?_
        refine N_iadd h dX9_owned_28 ?_
        refine J_istore_n h (i := 2) (lv' := [(2, .int (nI (n + 0))), (0, .ref q0), (1, .int p0), (3, .int (nI i))]) dX9_owned_29 rfl (by decide) rfl ?_
        refine J_iinc h (v := nI (i + 1)) (lv' := [(3, .int (nI (i + 1))), (2, .int (nI (n + 0))), (0, .ref q0), (1, .int p0)]) dX9_owned_30 3 rfl (inc_ok _ 1) (by decide) rfl ?_
        refine J_goto h 4 dX9_owned_33 (by decide) ?_
        refine J.loc [2, 3, 1, 0] (lv' := [(0, .ref q0), (1, .int p0), (2, .int (nI (n + 0))), (3, .int (nI (i + 1)))]) rfl ?_
        exact ih_4 (i + 1) (n + 0) (by first | exact hi |  assumption | omega | rfl) (by first | (rw [hn, cntP_yes (decide_eq_true ((rel_own hrel (by omega) hs).mp c_20))]; done) | (rw [hn, cntP_no (fun q => c_20 ((rel_own hrel (by omega) hs).mpr (of_decide_eq_true q)))]; rfl)) (by omega)
      · skip
        refine J_iconst h (v := nI 1) dX9_owned_23 (by decide) ?_
        refine J_goto h 28 dX9_owned_24 (by decide) ?_
        refine N_iadd h dX9_owned_28 ?_
        refine J_istore_n h (i := 2) (lv' := [(2, .int (nI (n + 1))), (0, .ref q0), (1, .int p0), (3, .int (nI i))]) dX9_owned_29 rfl (by decide) rfl ?_
        refine J_iinc h (v := nI (i + 1)) (lv' := [(3, .int (nI (i + 1))), (2, .int (nI (n + 1))), (0, .ref q0), (1, .int p0)]) dX9_owned_30 3 rfl (inc_ok _ 1) (by decide) rfl ?_
        refine J_goto h 4 dX9_owned_33 (by decide) ?_
        refine J.loc [2, 3, 1, 0] (lv' := [(0, .ref q0), (1, .int p0), (2, .int (nI (n + 1))), (3, .int (nI (i + 1)))]) rfl ?_
        exact ih_4 (i + 1) (n + 1) (by first | exact hi |  assumption | omega | rfl) (by first | (rw [hn, cntP_yes (decide_eq_true ((rel_own hrel (by omega) hs).mp c_20))]; done) | (rw [hn, cntP_no (fun q => c_20 ((rel_own hrel (by omega) hs).mpr (of_decide_eq_true q)))]; rfl)) (by omega)
set_option maxRecDepth 100000 in
set_option maxHeartbeats 4000000 in
theorem w_X9_owned (X : Cx) {cI cE : ClassId} (h : Ok X cX9_owned RX9 4 cI cE 1 0 0) (q0 : Nat) (q3 : Nat) (q4 : Nat) (q6 : Nat) (q7 : Nat) (q8 : Nat) (q9 : Nat) (q14 : Nat) (q15 : Nat) (q17 : Nat) (q18 : Nat) (q19 : Nat) (q23 : Nat) (q24 : Nat) (q25 : Nat) (ro : Nat) (co : Nat) (sl : Int32) (sn : Int32) (ts : Int32) (ra : Int32) (rr : Int32) (rw : Int32) (rn : Int32) (um : Int32) (bs : Int32) (bh : Int32) (km : Int32) (th : Nat → Int32) (mo : Nat → Int32) (cth : Nat → Int32) (cow : Nat → Int32) (p0 : Int32) (hrc : ro * co ≤ 48) (hco : co ≤ 6) (hro : ro ≤ 8) (hrel : rel (ro * co) th mo cth cow) (hs : 0 ≤ p0.toInt ∧ p0.toInt < 4) (hR : ∀ (r : Int32) (u : Unit), ((nI (cntP (fun k => decide (cow k = p0)) (ro * co)) = r) ∧ (True)) → RetI X cX9_owned 4 0 0 r [(q0, .inr (9, [.int (nI ro), .int (nI co), .int sl, .ref q3, .ref q4, .int sn, .ref q6, .ref q7, .ref q8, .ref q9, .int ts, .int ra, .int rr, .int rw, .ref q14, .ref q15, .int rn, .ref q17, .ref q18, .ref q19, .int um, .int bs, .int bh, .ref q23, .ref q24, .ref q25, .int km])), (q3, .inl (cI, 48, .inl th)), (q4, .inl (cI, 48, .inl mo))]) : J X 4 0 0 0 [(0, .ref q0), (1, .int p0)] [] [(q0, .inr (9, [.int (nI ro), .int (nI co), .int sl, .ref q3, .ref q4, .int sn, .ref q6, .ref q7, .ref q8, .ref q9, .int ts, .int ra, .int rr, .int rw, .ref q14, .ref q15, .int rn, .ref q17, .ref q18, .ref q19, .int um, .int bs, .int bh, .ref q23, .ref q24, .ref q25, .int km])), (q3, .inl (cI, 48, .inl th)), (q4, .inl (cI, 48, .inl mo))] := by
  refine J_iconst h (v := nI 0) dX9_owned_0 (by decide) ?_
  refine J_istore_n h (i := 2) (lv' := [(2, .int (nI 0)), (0, .ref q0), (1, .int p0)]) dX9_owned_1 rfl (by decide) rfl ?_
  refine J_iconst h (v := nI 0) dX9_owned_2 (by decide) ?_
  refine J_istore_n h (i := 3) (lv' := [(3, .int (nI 0)), (2, .int (nI 0)), (0, .ref q0), (1, .int p0)]) dX9_owned_3 rfl (by decide) rfl ?_
  refine J.loc [2, 3, 1, 0] (lv' := [(0, .ref q0), (1, .int p0), (2, .int (nI 0)), (3, .int (nI 0))]) rfl ?_
  exact w_X9_owned_4 X h q0 q3 q4 q6 q7 q8 q9 q14 q15 q17 q18 q19 q23 q24 q25 ro co sl sn ts ra rr rw rn um bs bh km th mo cth cow p0 hrc hco hro hrel hs hR  (ro * co - 0 + 1) 0 0 (by first | assumption | omega | rfl) (by rfl) (by omega)
theorem c_X9_owned (l : Launch) (D : va_G) (cI cE : ClassId) (q0 : Nat) (q3 : Nat) (q4 : Nat) (q6 : Nat) (q7 : Nat) (q8 : Nat) (q9 : Nat) (q14 : Nat) (q15 : Nat) (q17 : Nat) (q18 : Nat) (q19 : Nat) (q23 : Nat) (q24 : Nat) (q25 : Nat) (ro : Nat) (co : Nat) (sl : Int32) (sn : Int32) (ts : Int32) (ra : Int32) (rr : Int32) (rw : Int32) (rn : Int32) (um : Int32) (bs : Int32) (bh : Int32) (km : Int32) (th : Nat → Int32) (mo : Nat → Int32) (cth : Nat → Int32) (cow : Nat → Int32) (p0 : Int32) (hrc : ro * co ≤ 48) (hco : co ≤ 6) (hro : ro ≤ 8) (hrel : rel (ro * co) th mo cth cow) (hs : 0 ≤ p0.toInt ∧ p0.toInt < 4) : Ci l D cI cE yX9_owned cX9_owned 4 (some .int) 1 0 0 [.ref q0, .int p0] [(q0, .inr (9, [.int (nI ro), .int (nI co), .int sl, .ref q3, .ref q4, .int sn, .ref q6, .ref q7, .ref q8, .ref q9, .int ts, .int ra, .int rr, .int rw, .ref q14, .ref q15, .int rn, .ref q17, .ref q18, .ref q19, .int um, .int bs, .int bh, .ref q23, .ref q24, .ref q25, .int km])), (q3, .inl (cI, 48, .inl th)), (q4, .inl (cI, 48, .inl mo))] (fun (r : Int32) (u : Unit) => ((nI (cntP (fun k => decide (cow k = p0)) (ro * co)) = r) ∧ (True))) (fun (u : Unit) => ([(q0, .inr (9, [.int (nI ro), .int (nI co), .int sl, .ref q3, .ref q4, .int sn, .ref q6, .ref q7, .ref q8, .ref q9, .int ts, .int ra, .int rr, .int rw, .ref q14, .ref q15, .int rn, .ref q17, .ref q18, .ref q19, .int um, .int bs, .int bh, .ref q23, .ref q24, .ref q25, .int km])), (q3, .inl (cI, 48, .inl th)), (q4, .inl (cI, 48, .inl mo))] : va_W)) :=
  Ci.of (by decide) (Nat.le_of_ble_eq_true rfl) (fun _ _ _ => rfl) (fun X h hR => w_X9_owned X h q0 q3 q4 q6 q7 q8 q9 q14 q15 q17 q18 q19 q23 q24 q25 ro co sl sn ts ra rr rw rn um bs bh km th mo cth cow p0 hrc hco hro hrel hs hR)
theorem yv_X9_owned : YV yX9_owned cX9_owned 4 (some .int) 1 := ⟨no_X9_owned, nv_X9_owned, ni_X9, nk_X9_owned, by decide +kernel⟩
set_option maxRecDepth 100000 in
set_option maxHeartbeats 4000000 in
theorem w_X9_holds (X : Cx) {cI cE : ClassId} (h : Ok X cX9_holds RX9 2 cI cE 2 0 0) (q0 : Nat) (q3 : Nat) (q4 : Nat) (q6 : Nat) (q7 : Nat) (q8 : Nat) (q9 : Nat) (q14 : Nat) (q15 : Nat) (q17 : Nat) (q18 : Nat) (q19 : Nat) (q23 : Nat) (q24 : Nat) (q25 : Nat) (ro : Nat) (co : Nat) (sl : Int32) (sn : Int32) (ts : Int32) (ra : Int32) (rr : Int32) (rw : Int32) (rn : Int32) (um : Int32) (bs : Int32) (bh : Int32) (km : Int32) (th : Nat → Int32) (mo : Nat → Int32) (cth : Nat → Int32) (cow : Nat → Int32) (p0 : Int32) (hrc : ro * co ≤ 48) (hco : co ≤ 6) (hro : ro ≤ 8) (hrel : rel (ro * co) th mo cth cow) (hR : ∀ (r : Int32) (u : Unit), ((fHolds cow (ro * co) p0 = r) ∧ (True)) → RetI X cX9_holds 2 0 0 r [(q0, .inr (9, [.int (nI ro), .int (nI co), .int sl, .ref q3, .ref q4, .int sn, .ref q6, .ref q7, .ref q8, .ref q9, .int ts, .int ra, .int rr, .int rw, .ref q14, .ref q15, .int rn, .ref q17, .ref q18, .ref q19, .int um, .int bs, .int bh, .ref q23, .ref q24, .ref q25, .int km])), (q3, .inl (cI, 48, .inl th)), (q4, .inl (cI, 48, .inl mo))]) : J X 2 0 0 0 [(0, .ref q0), (1, .int p0)] [] [(q0, .inr (9, [.int (nI ro), .int (nI co), .int sl, .ref q3, .ref q4, .int sn, .ref q6, .ref q7, .ref q8, .ref q9, .int ts, .int ra, .int rr, .int rw, .ref q14, .ref q15, .int rn, .ref q17, .ref q18, .ref q19, .int um, .int bs, .int bh, .ref q23, .ref q24, .ref q25, .int km])), (q3, .inl (cI, 48, .inl th)), (q4, .inl (cI, 48, .inl mo))] := by
  refine J_iload_n h (i := 1) dX9_holds_0 rfl 1 rfl ?_
  refine K_si h (wr := [(q0, .inr (9, [.int (nI ro), .int (nI co), .int sl, .ref q3, .ref q4, .int sn, .ref q6, .ref q7, .ref q8, .ref q9, .int ts, .int ra, .int rr, .int rw, .ref q14, .ref q15, .int rn, .ref q17, .ref q18, .ref q19, .int um, .int bs, .int bh, .ref q23, .ref q24, .ref q25, .int km])), (q3, .inl (cI, 48, .inl th)), (q4, .inl (cI, 48, .inl mo))]) (c_X9_isSide (xl X) (xD X) cI cE p0 ((p0).toInt) (by exact rfl)) yv_X9_isSide nm_X9_141 (by decide) (by decide) rfl rfl rfl (Nat.le_of_ble_eq_true rfl) (Nat.le_refl _) (Nat.le_refl _) dX9_holds_1 (fun r_1 u_1 p_1 => ?_)
  rcases p_1 with p_1 | p_1
  · obtain ⟨rfl, f0_1, -⟩ := p_1
    show J X 2 0 0 4 [(0, .ref q0), (1, .int p0)] [.int (nI 1)] [(q0, .inr (9, [.int (nI ro), .int (nI co), .int sl, .ref q3, .ref q4, .int sn, .ref q6, .ref q7, .ref q8, .ref q9, .int ts, .int ra, .int rr, .int rw, .ref q14, .ref q15, .int rn, .ref q17, .ref q18, .ref q19, .int um, .int bs, .int bh, .ref q23, .ref q24, .ref q25, .int km])), (q3, .inl (cI, 48, .inl th)), (q4, .inl (cI, 48, .inl mo))]
    refine J_if_eq h 15 dX9_holds_4 (by decide) (fun z => absurd z (by decide)) (fun _ => ?_)
    refine J_aload_n h (i := 0) dX9_holds_7 rfl 0 rfl ?_
    refine J_iload_n h (i := 1) dX9_holds_8 rfl 1 rfl ?_
    refine K_vi h (wr := []) (c_X9_owned (xl X) (xD X) cI cE q0 q3 q4 q6 q7 q8 q9 q14 q15 q17 q18 q19 q23 q24 q25 ro co sl sn ts ra rr rw rn um bs bh km th mo cth cow p0 (by first | exact hrc |  assumption | omega | rfl) (by first | exact hco |  assumption | omega | rfl) (by first | exact hro |  assumption | omega | rfl) (by first | exact hrel |  assumption | omega | rfl) (by first | assumption | omega | rfl)) yv_X9_owned nm_X9_144 (by decide) (by decide) rfl rfl 0 rfl rfl rfl rfl (Nat.le_of_ble_eq_true rfl) (Nat.le_refl _) (Nat.le_refl _) dX9_holds_9 (fun r_9 u_9 p_9 => ?_)
    obtain ⟨rfl, -⟩ := p_9
    show J X 2 0 0 12 [(0, .ref q0), (1, .int p0)] [.int (nI (cntP (fun k => decide (cow k = p0)) (ro * co)))] [(q0, .inr (9, [.int (nI ro), .int (nI co), .int sl, .ref q3, .ref q4, .int sn, .ref q6, .ref q7, .ref q8, .ref q9, .int ts, .int ra, .int rr, .int rw, .ref q14, .ref q15, .int rn, .ref q17, .ref q18, .ref q19, .int um, .int bs, .int bh, .ref q23, .ref q24, .ref q25, .int km])), (q3, .inl (cI, 48, .inl th)), (q4, .inl (cI, 48, .inl mo))]
    refine J_goto h 16 dX9_holds_12 (by decide) ?_
    exact hR (nI (cntP (fun k => decide (cow k = p0)) (ro * co))) () (⟨(by unfold fHolds; first | (rw [if_pos (by omega)]; done) | (rw [if_neg (by omega)]; done)), trivial⟩) 16 _ dX9_holds_16
  · obtain ⟨rfl, f0_1, -⟩ := p_1
    show J X 2 0 0 4 [(0, .ref q0), (1, .int p0)] [.int (nI 0)] [(q0, .inr (9, [.int (nI ro), .int (nI co), .int sl, .ref q3, .ref q4, .int sn, .ref q6, .ref q7, .ref q8, .ref q9, .int ts, .int ra, .int rr, .int rw, .ref q14, .ref q15, .int rn, .ref q17, .ref q18, .ref q19, .int um, .int bs, .int bh, .ref q23, .ref q24, .ref q25, .int km])), (q3, .inl (cI, 48, .inl th)), (q4, .inl (cI, 48, .inl mo))]
    refine J_if_eq h 15 dX9_holds_4 (by decide) (fun _ => ?_) (fun z => absurd z (by decide))
    refine J_iconst h (v := (-1)) dX9_holds_15 (by decide) ?_
    exact hR ((-1)) () (⟨(by unfold fHolds; first | (rw [if_pos (by omega)]; done) | (rw [if_neg (by omega)]; done)), trivial⟩) 16 _ dX9_holds_16
theorem c_X9_holds (l : Launch) (D : va_G) (cI cE : ClassId) (q0 : Nat) (q3 : Nat) (q4 : Nat) (q6 : Nat) (q7 : Nat) (q8 : Nat) (q9 : Nat) (q14 : Nat) (q15 : Nat) (q17 : Nat) (q18 : Nat) (q19 : Nat) (q23 : Nat) (q24 : Nat) (q25 : Nat) (ro : Nat) (co : Nat) (sl : Int32) (sn : Int32) (ts : Int32) (ra : Int32) (rr : Int32) (rw : Int32) (rn : Int32) (um : Int32) (bs : Int32) (bh : Int32) (km : Int32) (th : Nat → Int32) (mo : Nat → Int32) (cth : Nat → Int32) (cow : Nat → Int32) (p0 : Int32) (hrc : ro * co ≤ 48) (hco : co ≤ 6) (hro : ro ≤ 8) (hrel : rel (ro * co) th mo cth cow) : Ci l D cI cE yX9_holds cX9_holds 2 (some .int) 2 0 0 [.ref q0, .int p0] [(q0, .inr (9, [.int (nI ro), .int (nI co), .int sl, .ref q3, .ref q4, .int sn, .ref q6, .ref q7, .ref q8, .ref q9, .int ts, .int ra, .int rr, .int rw, .ref q14, .ref q15, .int rn, .ref q17, .ref q18, .ref q19, .int um, .int bs, .int bh, .ref q23, .ref q24, .ref q25, .int km])), (q3, .inl (cI, 48, .inl th)), (q4, .inl (cI, 48, .inl mo))] (fun (r : Int32) (u : Unit) => ((fHolds cow (ro * co) p0 = r) ∧ (True))) (fun (u : Unit) => ([(q0, .inr (9, [.int (nI ro), .int (nI co), .int sl, .ref q3, .ref q4, .int sn, .ref q6, .ref q7, .ref q8, .ref q9, .int ts, .int ra, .int rr, .int rw, .ref q14, .ref q15, .int rn, .ref q17, .ref q18, .ref q19, .int um, .int bs, .int bh, .ref q23, .ref q24, .ref q25, .int km])), (q3, .inl (cI, 48, .inl th)), (q4, .inl (cI, 48, .inl mo))] : va_W)) :=
  Ci.of (by decide) (Nat.le_of_ble_eq_true rfl) (fun _ _ _ => rfl) (fun X h hR => w_X9_holds X h q0 q3 q4 q6 q7 q8 q9 q14 q15 q17 q18 q19 q23 q24 q25 ro co sl sn ts ra rr rw rn um bs bh km th mo cth cow p0 hrc hco hro hrel hR)
theorem yv_X9_holds : YV yX9_holds cX9_holds 2 (some .int) 1 := ⟨no_X9_holds, nv_X9_holds, ni_X9, nk_X9_holds, by decide +kernel⟩
set_option maxRecDepth 100000 in
set_option maxHeartbeats 4000000 in
theorem w_X9_iceMany_4 (X : Cx) {cI cE : ClassId} (h : Ok X cX9_iceMany RX9 3 cI cE 1 0 0) (q0 : Nat) (q3 : Nat) (q4 : Nat) (q6 : Nat) (q7 : Nat) (q8 : Nat) (q9 : Nat) (q14 : Nat) (q15 : Nat) (q17 : Nat) (q18 : Nat) (q19 : Nat) (q23 : Nat) (q24 : Nat) (q25 : Nat) (ro : Nat) (co : Nat) (sl : Int32) (sn : Int32) (ts : Int32) (ra : Int32) (rr : Int32) (rw : Int32) (rn : Int32) (um : Int32) (bs : Int32) (bh : Int32) (km : Int32) (th : Nat → Int32) (mo : Nat → Int32) (cth : Nat → Int32) (cow : Nat → Int32) (hrc : ro * co ≤ 48) (hco : co ≤ 6) (hro : ro ≤ 8) (hrel : rel (ro * co) th mo cth cow) (hR : ∀ (r : Int32) (u : Unit), ((nI (cntP (fun k => decide (cth k = nI 1)) (ro * co)) = r) ∧ (True)) → RetI X cX9_iceMany 3 0 0 r [(q0, .inr (9, [.int (nI ro), .int (nI co), .int sl, .ref q3, .ref q4, .int sn, .ref q6, .ref q7, .ref q8, .ref q9, .int ts, .int ra, .int rr, .int rw, .ref q14, .ref q15, .int rn, .ref q17, .ref q18, .ref q19, .int um, .int bs, .int bh, .ref q23, .ref q24, .ref q25, .int km])), (q3, .inl (cI, 48, .inl th)), (q4, .inl (cI, 48, .inl mo))]) : ∀ (n_4 : Nat) (i : Nat) (n : Nat), (i ≤ ro * co) → (n = cntP (fun k => decide (cth k = nI 1)) i) → ro * co - i < n_4 → J X 3 0 0 4 [(0, .ref q0), (1, .int (nI n)), (2, .int (nI i))] [] [(q0, .inr (9, [.int (nI ro), .int (nI co), .int sl, .ref q3, .ref q4, .int sn, .ref q6, .ref q7, .ref q8, .ref q9, .int ts, .int ra, .int rr, .int rw, .ref q14, .ref q15, .int rn, .ref q17, .ref q18, .ref q19, .int um, .int bs, .int bh, .ref q23, .ref q24, .ref q25, .int km])), (q3, .inl (cI, 48, .inl th)), (q4, .inl (cI, 48, .inl mo))] := by
  intro n_4
  induction n_4 with
  | zero => intro i n hi hn hn_; exact absurd hn_ (Nat.not_lt_zero _)
  | succ n_4 ih_4 =>
    intro i n hi hn hn_4
    refine J_iload_n h (i := 2) dX9_iceMany_4 rfl 2 rfl ?_
    refine J_aload_n h (i := 0) dX9_iceMany_5 rfl 0 rfl ?_
    refine K_vi h (wr := [(q3, .inl (cI, 48, .inl th)), (q4, .inl (cI, 48, .inl mo))]) (c_X9_cells (xl X) (xD X) cI cE q0 q3 q4 q6 q7 q8 q9 q14 q15 q17 q18 q19 q23 q24 q25 ro co sl sn ts ra rr rw rn um bs bh km ) yv_X9_cells nm_X9_63 (by decide) (by decide) rfl rfl 0 rfl rfl rfl rfl (Nat.le_of_ble_eq_true rfl) (Nat.le_refl _) (Nat.le_refl _) dX9_iceMany_6 (fun r_6 u_6 p_6 => ?_)
    obtain ⟨rfl, -⟩ := p_6
    show J X 3 0 0 9 [(0, .ref q0), (1, .int (nI n)), (2, .int (nI i))] [.int (nI (ro * co)), .int (nI i)] [(q0, .inr (9, [.int (nI ro), .int (nI co), .int sl, .ref q3, .ref q4, .int sn, .ref q6, .ref q7, .ref q8, .ref q9, .int ts, .int ra, .int rr, .int rw, .ref q14, .ref q15, .int rn, .ref q17, .ref q18, .ref q19, .int um, .int bs, .int bh, .ref q23, .ref q24, .ref q25, .int km])), (q3, .inl (cI, 48, .inl th)), (q4, .inl (cI, 48, .inl mo))]
    refine N_icmp_ge h 36 dX9_iceMany_9 (by decide) (by omega) (by omega) (fun c_9 => ?_) (fun c_9 => ?_)
    · skip
      refine J_iload_n h (i := 1) dX9_iceMany_36 rfl 1 rfl ?_
      exact hR (nI n) () (⟨(by rw [hn, show i = ro * co by omega]), trivial⟩) 37 _ dX9_iceMany_37
    · skip
      refine J_iload_n h (i := 1) dX9_iceMany_12 rfl 1 rfl ?_
      refine J_aload_n h (i := 0) dX9_iceMany_13 rfl 0 rfl ?_
      refine J_get h inX9 rfl 0 3 (by decide) rfl rfl nf_X9_7 dX9_iceMany_14 ?_
      refine J_iload_n h (i := 2) dX9_iceMany_17 rfl 2 rfl ?_
      refine N_iald h 1 rfl (by decide) (by omega) dX9_iceMany_18 ?_
      refine J_iconst h (v := nI 1) dX9_iceMany_19 (by decide) ?_
      refine J_icmp_ne h 27 dX9_iceMany_20 (by decide) (fun c_20 => ?_) (fun c_20 => ?_)
      · skip
        refine J_iconst h (v := nI 0) dX9_iceMany_27 (by decide) ?_
        refine N_iadd h dX9_iceMany_28 ?_
        refine J_istore_n h (i := 1) (lv' := [(1, .int (nI (n + 0))), (0, .ref q0), (2, .int (nI i))]) dX9_iceMany_29 rfl (by decide) rfl ?_
        refine J_iinc h (v := nI (i + 1)) (lv' := [(2, .int (nI (i + 1))), (1, .int (nI (n + 0))), (0, .ref q0)]) dX9_iceMany_30 2 rfl (inc_ok _ 1) (by decide) rfl ?_
        refine J_goto h 4 dX9_iceMany_33 (by decide) ?_
        refine J.loc [2, 1, 0] (lv' := [(0, .ref q0), (1, .int (nI (n + 0))), (2, .int (nI (i + 1)))]) rfl ?_
        exact ih_4 (i + 1) (n + 0) (by first | exact hi |  assumption | omega | rfl) (by first | (rw [hn, cntP_yes (decide_eq_true ((rel_th hrel (by omega)).symm.trans c_20))]; done) | (rw [hn, cntP_no (fun q => c_20 ((rel_th hrel (by omega)).trans (of_decide_eq_true q)))]; rfl)) (by omega)
      · skip
        refine J_iconst h (v := nI 1) dX9_iceMany_23 (by decide) ?_
        refine J_goto h 28 dX9_iceMany_24 (by decide) ?_
        refine N_iadd h dX9_iceMany_28 ?_
        refine J_istore_n h (i := 1) (lv' := [(1, .int (nI (n + 1))), (0, .ref q0), (2, .int (nI i))]) dX9_iceMany_29 rfl (by decide) rfl ?_
        refine J_iinc h (v := nI (i + 1)) (lv' := [(2, .int (nI (i + 1))), (1, .int (nI (n + 1))), (0, .ref q0)]) dX9_iceMany_30 2 rfl (inc_ok _ 1) (by decide) rfl ?_
        refine J_goto h 4 dX9_iceMany_33 (by decide) ?_
        refine J.loc [2, 1, 0] (lv' := [(0, .ref q0), (1, .int (nI (n + 1))), (2, .int (nI (i + 1)))]) rfl ?_
        exact ih_4 (i + 1) (n + 1) (by first | exact hi |  assumption | omega | rfl) (by first | (rw [hn, cntP_yes (decide_eq_true ((rel_th hrel (by omega)).symm.trans c_20))]; done) | (rw [hn, cntP_no (fun q => c_20 ((rel_th hrel (by omega)).trans (of_decide_eq_true q)))]; rfl)) (by omega)
set_option maxRecDepth 100000 in
set_option maxHeartbeats 4000000 in
theorem w_X9_iceMany (X : Cx) {cI cE : ClassId} (h : Ok X cX9_iceMany RX9 3 cI cE 1 0 0) (q0 : Nat) (q3 : Nat) (q4 : Nat) (q6 : Nat) (q7 : Nat) (q8 : Nat) (q9 : Nat) (q14 : Nat) (q15 : Nat) (q17 : Nat) (q18 : Nat) (q19 : Nat) (q23 : Nat) (q24 : Nat) (q25 : Nat) (ro : Nat) (co : Nat) (sl : Int32) (sn : Int32) (ts : Int32) (ra : Int32) (rr : Int32) (rw : Int32) (rn : Int32) (um : Int32) (bs : Int32) (bh : Int32) (km : Int32) (th : Nat → Int32) (mo : Nat → Int32) (cth : Nat → Int32) (cow : Nat → Int32) (hrc : ro * co ≤ 48) (hco : co ≤ 6) (hro : ro ≤ 8) (hrel : rel (ro * co) th mo cth cow) (hR : ∀ (r : Int32) (u : Unit), ((nI (cntP (fun k => decide (cth k = nI 1)) (ro * co)) = r) ∧ (True)) → RetI X cX9_iceMany 3 0 0 r [(q0, .inr (9, [.int (nI ro), .int (nI co), .int sl, .ref q3, .ref q4, .int sn, .ref q6, .ref q7, .ref q8, .ref q9, .int ts, .int ra, .int rr, .int rw, .ref q14, .ref q15, .int rn, .ref q17, .ref q18, .ref q19, .int um, .int bs, .int bh, .ref q23, .ref q24, .ref q25, .int km])), (q3, .inl (cI, 48, .inl th)), (q4, .inl (cI, 48, .inl mo))]) : J X 3 0 0 0 [(0, .ref q0)] [] [(q0, .inr (9, [.int (nI ro), .int (nI co), .int sl, .ref q3, .ref q4, .int sn, .ref q6, .ref q7, .ref q8, .ref q9, .int ts, .int ra, .int rr, .int rw, .ref q14, .ref q15, .int rn, .ref q17, .ref q18, .ref q19, .int um, .int bs, .int bh, .ref q23, .ref q24, .ref q25, .int km])), (q3, .inl (cI, 48, .inl th)), (q4, .inl (cI, 48, .inl mo))] := by
  refine J_iconst h (v := nI 0) dX9_iceMany_0 (by decide) ?_
  refine J_istore_n h (i := 1) (lv' := [(1, .int (nI 0)), (0, .ref q0)]) dX9_iceMany_1 rfl (by decide) rfl ?_
  refine J_iconst h (v := nI 0) dX9_iceMany_2 (by decide) ?_
  refine J_istore_n h (i := 2) (lv' := [(2, .int (nI 0)), (1, .int (nI 0)), (0, .ref q0)]) dX9_iceMany_3 rfl (by decide) rfl ?_
  refine J.loc [2, 1, 0] (lv' := [(0, .ref q0), (1, .int (nI 0)), (2, .int (nI 0))]) rfl ?_
  exact w_X9_iceMany_4 X h q0 q3 q4 q6 q7 q8 q9 q14 q15 q17 q18 q19 q23 q24 q25 ro co sl sn ts ra rr rw rn um bs bh km th mo cth cow hrc hco hro hrel hR  (ro * co - 0 + 1) 0 0 (by first | assumption | omega | rfl) (by rfl) (by omega)
theorem c_X9_iceMany (l : Launch) (D : va_G) (cI cE : ClassId) (q0 : Nat) (q3 : Nat) (q4 : Nat) (q6 : Nat) (q7 : Nat) (q8 : Nat) (q9 : Nat) (q14 : Nat) (q15 : Nat) (q17 : Nat) (q18 : Nat) (q19 : Nat) (q23 : Nat) (q24 : Nat) (q25 : Nat) (ro : Nat) (co : Nat) (sl : Int32) (sn : Int32) (ts : Int32) (ra : Int32) (rr : Int32) (rw : Int32) (rn : Int32) (um : Int32) (bs : Int32) (bh : Int32) (km : Int32) (th : Nat → Int32) (mo : Nat → Int32) (cth : Nat → Int32) (cow : Nat → Int32) (hrc : ro * co ≤ 48) (hco : co ≤ 6) (hro : ro ≤ 8) (hrel : rel (ro * co) th mo cth cow) : Ci l D cI cE yX9_iceMany cX9_iceMany 3 (some .int) 1 0 0 [.ref q0] [(q0, .inr (9, [.int (nI ro), .int (nI co), .int sl, .ref q3, .ref q4, .int sn, .ref q6, .ref q7, .ref q8, .ref q9, .int ts, .int ra, .int rr, .int rw, .ref q14, .ref q15, .int rn, .ref q17, .ref q18, .ref q19, .int um, .int bs, .int bh, .ref q23, .ref q24, .ref q25, .int km])), (q3, .inl (cI, 48, .inl th)), (q4, .inl (cI, 48, .inl mo))] (fun (r : Int32) (u : Unit) => ((nI (cntP (fun k => decide (cth k = nI 1)) (ro * co)) = r) ∧ (True))) (fun (u : Unit) => ([(q0, .inr (9, [.int (nI ro), .int (nI co), .int sl, .ref q3, .ref q4, .int sn, .ref q6, .ref q7, .ref q8, .ref q9, .int ts, .int ra, .int rr, .int rw, .ref q14, .ref q15, .int rn, .ref q17, .ref q18, .ref q19, .int um, .int bs, .int bh, .ref q23, .ref q24, .ref q25, .int km])), (q3, .inl (cI, 48, .inl th)), (q4, .inl (cI, 48, .inl mo))] : va_W)) :=
  Ci.of (by decide) (Nat.le_of_ble_eq_true rfl) (fun _ _ _ => rfl) (fun X h hR => w_X9_iceMany X h q0 q3 q4 q6 q7 q8 q9 q14 q15 q17 q18 q19 q23 q24 q25 ro co sl sn ts ra rr rw rn um bs bh km th mo cth cow hrc hco hro hrel hR)
theorem yv_X9_iceMany : YV yX9_iceMany cX9_iceMany 3 (some .int) 0 := ⟨no_X9_iceMany, nv_X9_iceMany, ni_X9, nk_X9_iceMany, by decide +kernel⟩
set_option maxRecDepth 100000 in
set_option maxHeartbeats 4000000 in
theorem w_X9_ownedAll_4 (X : Cx) {cI cE : ClassId} (h : Ok X cX9_ownedAll RX9 3 cI cE 1 0 0) (q0 : Nat) (q3 : Nat) (q4 : Nat) (q6 : Nat) (q7 : Nat) (q8 : Nat) (q9 : Nat) (q14 : Nat) (q15 : Nat) (q17 : Nat) (q18 : Nat) (q19 : Nat) (q23 : Nat) (q24 : Nat) (q25 : Nat) (ro : Nat) (co : Nat) (sl : Int32) (sn : Int32) (ts : Int32) (ra : Int32) (rr : Int32) (rw : Int32) (rn : Int32) (um : Int32) (bs : Int32) (bh : Int32) (km : Int32) (th : Nat → Int32) (mo : Nat → Int32) (cth : Nat → Int32) (cow : Nat → Int32) (hrc : ro * co ≤ 48) (hco : co ≤ 6) (hro : ro ≤ 8) (hrel : rel (ro * co) th mo cth cow) (hR : ∀ (r : Int32) (u : Unit), ((nI (ro * co - cntP (fun k => decide (cow k = nI 4)) (ro * co)) = r) ∧ (True)) → RetI X cX9_ownedAll 3 0 0 r [(q0, .inr (9, [.int (nI ro), .int (nI co), .int sl, .ref q3, .ref q4, .int sn, .ref q6, .ref q7, .ref q8, .ref q9, .int ts, .int ra, .int rr, .int rw, .ref q14, .ref q15, .int rn, .ref q17, .ref q18, .ref q19, .int um, .int bs, .int bh, .ref q23, .ref q24, .ref q25, .int km])), (q3, .inl (cI, 48, .inl th)), (q4, .inl (cI, 48, .inl mo))]) : ∀ (n_4 : Nat) (i : Nat) (n : Nat), (i ≤ ro * co) → (n + cntP (fun k => decide (cow k = nI 4)) i = i) → ro * co - i < n_4 → J X 3 0 0 4 [(0, .ref q0), (1, .int (nI n)), (2, .int (nI i))] [] [(q0, .inr (9, [.int (nI ro), .int (nI co), .int sl, .ref q3, .ref q4, .int sn, .ref q6, .ref q7, .ref q8, .ref q9, .int ts, .int ra, .int rr, .int rw, .ref q14, .ref q15, .int rn, .ref q17, .ref q18, .ref q19, .int um, .int bs, .int bh, .ref q23, .ref q24, .ref q25, .int km])), (q3, .inl (cI, 48, .inl th)), (q4, .inl (cI, 48, .inl mo))] := by
  intro n_4
  induction n_4 with
  | zero => intro i n hi hn hn_; exact absurd hn_ (Nat.not_lt_zero _)
  | succ n_4 ih_4 =>
    intro i n hi hn hn_4
    refine J_iload_n h (i := 2) dX9_ownedAll_4 rfl 2 rfl ?_
    refine J_aload_n h (i := 0) dX9_ownedAll_5 rfl 0 rfl ?_
    refine K_vi h (wr := [(q3, .inl (cI, 48, .inl th)), (q4, .inl (cI, 48, .inl mo))]) (c_X9_cells (xl X) (xD X) cI cE q0 q3 q4 q6 q7 q8 q9 q14 q15 q17 q18 q19 q23 q24 q25 ro co sl sn ts ra rr rw rn um bs bh km ) yv_X9_cells nm_X9_63 (by decide) (by decide) rfl rfl 0 rfl rfl rfl rfl (Nat.le_of_ble_eq_true rfl) (Nat.le_refl _) (Nat.le_refl _) dX9_ownedAll_6 (fun r_6 u_6 p_6 => ?_)
    obtain ⟨rfl, -⟩ := p_6
    show J X 3 0 0 9 [(0, .ref q0), (1, .int (nI n)), (2, .int (nI i))] [.int (nI (ro * co)), .int (nI i)] [(q0, .inr (9, [.int (nI ro), .int (nI co), .int sl, .ref q3, .ref q4, .int sn, .ref q6, .ref q7, .ref q8, .ref q9, .int ts, .int ra, .int rr, .int rw, .ref q14, .ref q15, .int rn, .ref q17, .ref q18, .ref q19, .int um, .int bs, .int bh, .ref q23, .ref q24, .ref q25, .int km])), (q3, .inl (cI, 48, .inl th)), (q4, .inl (cI, 48, .inl mo))]
    refine N_icmp_ge h 37 dX9_ownedAll_9 (by decide) (by omega) (by omega) (fun c_9 => ?_) (fun c_9 => ?_)
    · skip
      refine J_iload_n h (i := 1) dX9_ownedAll_37 rfl 1 rfl ?_
      exact hR (nI n) () (⟨(by have e : i = ro * co := (by omega); rw [e] at hn; exact congrArg nI (by omega)), trivial⟩) 38 _ dX9_ownedAll_38
    · skip
      refine J_iload_n h (i := 1) dX9_ownedAll_12 rfl 1 rfl ?_
      refine J_aload_n h (i := 0) dX9_ownedAll_13 rfl 0 rfl ?_
      refine J_get h inX9 rfl 0 4 (by decide) rfl rfl nf_X9_13 dX9_ownedAll_14 ?_
      refine J_iload_n h (i := 2) dX9_ownedAll_17 rfl 2 rfl ?_
      refine N_iald h 2 rfl (by decide) (by omega) dX9_ownedAll_18 ?_
      refine J_bipush h (v := (-4)) dX9_ownedAll_19 (by decide) ?_
      refine J_icmp_ne h 28 dX9_ownedAll_21 (by decide) (fun c_21 => ?_) (fun c_21 => ?_)
      · skip
        refine J_iconst h (v := nI 1) dX9_ownedAll_28 (by decide) ?_
        refine N_iadd h dX9_ownedAll_29 ?_
        refine J_istore_n h (i := 1) (lv' := [(1, .int (nI (n + 1))), (0, .ref q0), (2, .int (nI i))]) dX9_ownedAll_30 rfl (by decide) rfl ?_
        refine J_iinc h (v := nI (i + 1)) (lv' := [(2, .int (nI (i + 1))), (1, .int (nI (n + 1))), (0, .ref q0)]) dX9_ownedAll_31 2 rfl (inc_ok _ 1) (by decide) rfl ?_
        refine J_goto h 4 dX9_ownedAll_34 (by decide) ?_
        refine J.loc [2, 1, 0] (lv' := [(0, .ref q0), (1, .int (nI (n + 1))), (2, .int (nI (i + 1)))]) rfl ?_
        exact ih_4 (i + 1) (n + 1) (by first | exact hi |  assumption | omega | rfl) (by first | (rw [cntP_yes (decide_eq_true ((rel_non hrel (by omega)).mp c_21))]; omega) | (rw [cntP_no (fun q => c_21 ((rel_non hrel (by omega)).mpr (of_decide_eq_true q)))]; omega)) (by omega)
      · skip
        refine J_iconst h (v := nI 0) dX9_ownedAll_24 (by decide) ?_
        refine J_goto h 29 dX9_ownedAll_25 (by decide) ?_
        refine N_iadd h dX9_ownedAll_29 ?_
        refine J_istore_n h (i := 1) (lv' := [(1, .int (nI (n + 0))), (0, .ref q0), (2, .int (nI i))]) dX9_ownedAll_30 rfl (by decide) rfl ?_
        refine J_iinc h (v := nI (i + 1)) (lv' := [(2, .int (nI (i + 1))), (1, .int (nI (n + 0))), (0, .ref q0)]) dX9_ownedAll_31 2 rfl (inc_ok _ 1) (by decide) rfl ?_
        refine J_goto h 4 dX9_ownedAll_34 (by decide) ?_
        refine J.loc [2, 1, 0] (lv' := [(0, .ref q0), (1, .int (nI (n + 0))), (2, .int (nI (i + 1)))]) rfl ?_
        exact ih_4 (i + 1) (n + 0) (by first | exact hi |  assumption | omega | rfl) (by first | (rw [cntP_yes (decide_eq_true ((rel_non hrel (by omega)).mp c_21))]; omega) | (rw [cntP_no (fun q => c_21 ((rel_non hrel (by omega)).mpr (of_decide_eq_true q)))]; omega)) (by omega)
set_option maxRecDepth 100000 in
set_option maxHeartbeats 4000000 in
theorem w_X9_ownedAll (X : Cx) {cI cE : ClassId} (h : Ok X cX9_ownedAll RX9 3 cI cE 1 0 0) (q0 : Nat) (q3 : Nat) (q4 : Nat) (q6 : Nat) (q7 : Nat) (q8 : Nat) (q9 : Nat) (q14 : Nat) (q15 : Nat) (q17 : Nat) (q18 : Nat) (q19 : Nat) (q23 : Nat) (q24 : Nat) (q25 : Nat) (ro : Nat) (co : Nat) (sl : Int32) (sn : Int32) (ts : Int32) (ra : Int32) (rr : Int32) (rw : Int32) (rn : Int32) (um : Int32) (bs : Int32) (bh : Int32) (km : Int32) (th : Nat → Int32) (mo : Nat → Int32) (cth : Nat → Int32) (cow : Nat → Int32) (hrc : ro * co ≤ 48) (hco : co ≤ 6) (hro : ro ≤ 8) (hrel : rel (ro * co) th mo cth cow) (hR : ∀ (r : Int32) (u : Unit), ((nI (ro * co - cntP (fun k => decide (cow k = nI 4)) (ro * co)) = r) ∧ (True)) → RetI X cX9_ownedAll 3 0 0 r [(q0, .inr (9, [.int (nI ro), .int (nI co), .int sl, .ref q3, .ref q4, .int sn, .ref q6, .ref q7, .ref q8, .ref q9, .int ts, .int ra, .int rr, .int rw, .ref q14, .ref q15, .int rn, .ref q17, .ref q18, .ref q19, .int um, .int bs, .int bh, .ref q23, .ref q24, .ref q25, .int km])), (q3, .inl (cI, 48, .inl th)), (q4, .inl (cI, 48, .inl mo))]) : J X 3 0 0 0 [(0, .ref q0)] [] [(q0, .inr (9, [.int (nI ro), .int (nI co), .int sl, .ref q3, .ref q4, .int sn, .ref q6, .ref q7, .ref q8, .ref q9, .int ts, .int ra, .int rr, .int rw, .ref q14, .ref q15, .int rn, .ref q17, .ref q18, .ref q19, .int um, .int bs, .int bh, .ref q23, .ref q24, .ref q25, .int km])), (q3, .inl (cI, 48, .inl th)), (q4, .inl (cI, 48, .inl mo))] := by
  refine J_iconst h (v := nI 0) dX9_ownedAll_0 (by decide) ?_
  refine J_istore_n h (i := 1) (lv' := [(1, .int (nI 0)), (0, .ref q0)]) dX9_ownedAll_1 rfl (by decide) rfl ?_
  refine J_iconst h (v := nI 0) dX9_ownedAll_2 (by decide) ?_
  refine J_istore_n h (i := 2) (lv' := [(2, .int (nI 0)), (1, .int (nI 0)), (0, .ref q0)]) dX9_ownedAll_3 rfl (by decide) rfl ?_
  refine J.loc [2, 1, 0] (lv' := [(0, .ref q0), (1, .int (nI 0)), (2, .int (nI 0))]) rfl ?_
  exact w_X9_ownedAll_4 X h q0 q3 q4 q6 q7 q8 q9 q14 q15 q17 q18 q19 q23 q24 q25 ro co sl sn ts ra rr rw rn um bs bh km th mo cth cow hrc hco hro hrel hR  (ro * co - 0 + 1) 0 0 (by first | assumption | omega | rfl) (by rfl) (by omega)
theorem c_X9_ownedAll (l : Launch) (D : va_G) (cI cE : ClassId) (q0 : Nat) (q3 : Nat) (q4 : Nat) (q6 : Nat) (q7 : Nat) (q8 : Nat) (q9 : Nat) (q14 : Nat) (q15 : Nat) (q17 : Nat) (q18 : Nat) (q19 : Nat) (q23 : Nat) (q24 : Nat) (q25 : Nat) (ro : Nat) (co : Nat) (sl : Int32) (sn : Int32) (ts : Int32) (ra : Int32) (rr : Int32) (rw : Int32) (rn : Int32) (um : Int32) (bs : Int32) (bh : Int32) (km : Int32) (th : Nat → Int32) (mo : Nat → Int32) (cth : Nat → Int32) (cow : Nat → Int32) (hrc : ro * co ≤ 48) (hco : co ≤ 6) (hro : ro ≤ 8) (hrel : rel (ro * co) th mo cth cow) : Ci l D cI cE yX9_ownedAll cX9_ownedAll 3 (some .int) 1 0 0 [.ref q0] [(q0, .inr (9, [.int (nI ro), .int (nI co), .int sl, .ref q3, .ref q4, .int sn, .ref q6, .ref q7, .ref q8, .ref q9, .int ts, .int ra, .int rr, .int rw, .ref q14, .ref q15, .int rn, .ref q17, .ref q18, .ref q19, .int um, .int bs, .int bh, .ref q23, .ref q24, .ref q25, .int km])), (q3, .inl (cI, 48, .inl th)), (q4, .inl (cI, 48, .inl mo))] (fun (r : Int32) (u : Unit) => ((nI (ro * co - cntP (fun k => decide (cow k = nI 4)) (ro * co)) = r) ∧ (True))) (fun (u : Unit) => ([(q0, .inr (9, [.int (nI ro), .int (nI co), .int sl, .ref q3, .ref q4, .int sn, .ref q6, .ref q7, .ref q8, .ref q9, .int ts, .int ra, .int rr, .int rw, .ref q14, .ref q15, .int rn, .ref q17, .ref q18, .ref q19, .int um, .int bs, .int bh, .ref q23, .ref q24, .ref q25, .int km])), (q3, .inl (cI, 48, .inl th)), (q4, .inl (cI, 48, .inl mo))] : va_W)) :=
  Ci.of (by decide) (Nat.le_of_ble_eq_true rfl) (fun _ _ _ => rfl) (fun X h hR => w_X9_ownedAll X h q0 q3 q4 q6 q7 q8 q9 q14 q15 q17 q18 q19 q23 q24 q25 ro co sl sn ts ra rr rw rn um bs bh km th mo cth cow hrc hco hro hrel hR)
theorem yv_X9_ownedAll : YV yX9_ownedAll cX9_ownedAll 3 (some .int) 0 := ⟨no_X9_ownedAll, nv_X9_ownedAll, ni_X9, nk_X9_ownedAll, by decide +kernel⟩
set_option maxRecDepth 100000 in
set_option maxHeartbeats 4000000 in
theorem w_X9_count (X : Cx) {cI cE : ClassId} (h : Ok X cX9_count RX9 2 cI cE 2 0 0) (q0 : Nat) (q3 : Nat) (q4 : Nat) (q6 : Nat) (q7 : Nat) (q8 : Nat) (q9 : Nat) (q14 : Nat) (q15 : Nat) (q17 : Nat) (q18 : Nat) (q19 : Nat) (q23 : Nat) (q24 : Nat) (q25 : Nat) (ro : Nat) (co : Nat) (sl : Int32) (sn : Nat) (ts : Nat) (ra : Int32) (rr : Int32) (rw : Int32) (rn : Int32) (um : Nat) (bs : Int32) (bh : Int32) (km : Nat) (th : Nat → Int32) (mo : Nat → Int32) (cth : Nat → Int32) (cow : Nat → Int32) (p0 : Int32) (hrc : ro * co ≤ 48) (hco : co ≤ 6) (hro : ro ≤ 8) (hrel : rel (ro * co) th mo cth cow) (hR : ∀ (r : Int32) (u : Unit), ((fCount cth cow co ro sl sn um km ts p0 = r) ∧ (True)) → RetI X cX9_count 2 0 0 r [(q0, .inr (9, [.int (nI ro), .int (nI co), .int sl, .ref q3, .ref q4, .int (nI sn), .ref q6, .ref q7, .ref q8, .ref q9, .int (nI ts), .int ra, .int rr, .int rw, .ref q14, .ref q15, .int rn, .ref q17, .ref q18, .ref q19, .int (nI um), .int bs, .int bh, .ref q23, .ref q24, .ref q25, .int (nI km)])), (q3, .inl (cI, 48, .inl th)), (q4, .inl (cI, 48, .inl mo))]) : J X 2 0 0 0 [(0, .ref q0), (1, .int p0)] [] [(q0, .inr (9, [.int (nI ro), .int (nI co), .int sl, .ref q3, .ref q4, .int (nI sn), .ref q6, .ref q7, .ref q8, .ref q9, .int (nI ts), .int ra, .int rr, .int rw, .ref q14, .ref q15, .int rn, .ref q17, .ref q18, .ref q19, .int (nI um), .int bs, .int bh, .ref q23, .ref q24, .ref q25, .int (nI km)])), (q3, .inl (cI, 48, .inl th)), (q4, .inl (cI, 48, .inl mo))] := by
  refine J_iload_n h (i := 1) dX9_count_0 rfl 1 rfl ?_
  refine J_iconst h (v := nI 0) dX9_count_1 (by decide) ?_
  refine J_bipush h (v := nI 9) dX9_count_2 (by decide) ?_
  refine K_si h (wr := [(q0, .inr (9, [.int (nI ro), .int (nI co), .int sl, .ref q3, .ref q4, .int (nI sn), .ref q6, .ref q7, .ref q8, .ref q9, .int (nI ts), .int ra, .int rr, .int rw, .ref q14, .ref q15, .int rn, .ref q17, .ref q18, .ref q19, .int (nI um), .int bs, .int bh, .ref q23, .ref q24, .ref q25, .int (nI km)])), (q3, .inl (cI, 48, .inl th)), (q4, .inl (cI, 48, .inl mo))]) (c_X9_in (xl X) (xD X) cI cE p0 (nI 0) (nI 9) ((p0).toInt) 0 9 (by exact rfl) (by exact nI_toInt (by omega)) (by exact nI_toInt (by omega))) yv_X9_in nm_X9_67 (by decide) (by decide) rfl rfl rfl (Nat.le_of_ble_eq_true rfl) (Nat.le_refl _) (Nat.le_refl _) dX9_count_4 (fun r_4 u_4 p_4 => ?_)
  rcases p_4 with p_4 | p_4
  · obtain ⟨rfl, f0_4, -⟩ := p_4
    show J X 2 0 0 7 [(0, .ref q0), (1, .int p0)] [.int (nI 1)] [(q0, .inr (9, [.int (nI ro), .int (nI co), .int sl, .ref q3, .ref q4, .int (nI sn), .ref q6, .ref q7, .ref q8, .ref q9, .int (nI ts), .int ra, .int rr, .int rw, .ref q14, .ref q15, .int rn, .ref q17, .ref q18, .ref q19, .int (nI um), .int bs, .int bh, .ref q23, .ref q24, .ref q25, .int (nI km)])), (q3, .inl (cI, 48, .inl th)), (q4, .inl (cI, 48, .inl mo))]
    refine J_if_ne h 12 dX9_count_7 (by decide) (fun _ => ?_) (fun z => absurd z (by decide))
    refine J_iload_n h (i := 1) dX9_count_12 rfl 1 rfl ?_
    have c_13 : (p0).toInt = 0 ∨ (p0).toInt = 1 ∨ (p0).toInt = 2 ∨ (p0).toInt = 3 ∨ (p0).toInt = 4 ∨ (p0).toInt = 5 ∨ (p0).toInt = 6 ∨ (p0).toInt = 7 ∨ (p0).toInt = 8 ∨ ((p0).toInt < 0 ∨ 8 < (p0).toInt) := by omega
    rcases c_13 with c_13 | c_13 | c_13 | c_13 | c_13 | c_13 | c_13 | c_13 | c_13 | c_13
    · refine J_tabIn h (off := 51) 64 dX9_count_13 (by omega) (by omega) (by rw [c_13]; decide +kernel) (by decide) ?_
      refine J_aload_n h (i := 0) dX9_count_64 rfl 0 rfl ?_
      refine K_vi h (wr := [(q3, .inl (cI, 48, .inl th)), (q4, .inl (cI, 48, .inl mo))]) (c_X9_cells (xl X) (xD X) cI cE q0 q3 q4 q6 q7 q8 q9 q14 q15 q17 q18 q19 q23 q24 q25 ro co sl (nI sn) (nI ts) ra rr rw rn (nI um) bs bh (nI km) ) yv_X9_cells nm_X9_63 (by decide) (by decide) rfl rfl 0 rfl rfl rfl rfl (Nat.le_of_ble_eq_true rfl) (Nat.le_refl _) (Nat.le_refl _) dX9_count_65 (fun r_65 u_65 p_65 => ?_)
      obtain ⟨rfl, -⟩ := p_65
      show J X 2 0 0 68 [(0, .ref q0), (1, .int p0)] [.int (nI (ro * co))] [(q0, .inr (9, [.int (nI ro), .int (nI co), .int sl, .ref q3, .ref q4, .int (nI sn), .ref q6, .ref q7, .ref q8, .ref q9, .int (nI ts), .int ra, .int rr, .int rw, .ref q14, .ref q15, .int rn, .ref q17, .ref q18, .ref q19, .int (nI um), .int bs, .int bh, .ref q23, .ref q24, .ref q25, .int (nI km)])), (q3, .inl (cI, 48, .inl th)), (q4, .inl (cI, 48, .inl mo))]
      exact hR (nI (ro * co)) () (⟨(by unfold fCount; rw [if_pos (by omega)]), trivial⟩) 68 _ dX9_count_68
    · refine J_tabIn h (off := 56) 69 dX9_count_13 (by omega) (by omega) (by rw [c_13]; decide +kernel) (by decide) ?_
      refine J_aload_n h (i := 0) dX9_count_69 rfl 0 rfl ?_
      refine J_get h inX9 rfl 0 1 (by decide) rfl rfl nf_X9_52 dX9_count_70 ?_
      exact hR (nI co) () (⟨(by unfold fCount; rw [if_neg (by omega), if_pos (by omega)]), trivial⟩) 73 _ dX9_count_73
    · refine J_tabIn h (off := 61) 74 dX9_count_13 (by omega) (by omega) (by rw [c_13]; decide +kernel) (by decide) ?_
      refine J_aload_n h (i := 0) dX9_count_74 rfl 0 rfl ?_
      refine J_get h inX9 rfl 0 0 (by decide) rfl rfl nf_X9_60 dX9_count_75 ?_
      exact hR (nI ro) () (⟨(by unfold fCount; rw [if_neg (by omega), if_neg (by omega), if_pos (by omega)]), trivial⟩) 78 _ dX9_count_78
    · refine J_tabIn h (off := 66) 79 dX9_count_13 (by omega) (by omega) (by rw [c_13]; decide +kernel) (by decide) ?_
      refine J_aload_n h (i := 0) dX9_count_79 rfl 0 rfl ?_
      refine K_vi h (wr := []) (c_X9_ownedAll (xl X) (xD X) cI cE q0 q3 q4 q6 q7 q8 q9 q14 q15 q17 q18 q19 q23 q24 q25 ro co sl (nI sn) (nI ts) ra rr rw rn (nI um) bs bh (nI km) th mo cth cow (by first | exact hrc |  assumption | omega | rfl) (by first | exact hco |  assumption | omega | rfl) (by first | exact hro |  assumption | omega | rfl) (by first | exact hrel |  assumption | omega | rfl)) yv_X9_ownedAll nm_X9_214 (by decide) (by decide) rfl rfl 0 rfl rfl rfl rfl (Nat.le_of_ble_eq_true rfl) (Nat.le_refl _) (Nat.le_refl _) dX9_count_80 (fun r_80 u_80 p_80 => ?_)
      obtain ⟨rfl, -⟩ := p_80
      show J X 2 0 0 83 [(0, .ref q0), (1, .int p0)] [.int (nI (ro * co - cntP (fun k => decide (cow k = nI 4)) (ro * co)))] [(q0, .inr (9, [.int (nI ro), .int (nI co), .int sl, .ref q3, .ref q4, .int (nI sn), .ref q6, .ref q7, .ref q8, .ref q9, .int (nI ts), .int ra, .int rr, .int rw, .ref q14, .ref q15, .int rn, .ref q17, .ref q18, .ref q19, .int (nI um), .int bs, .int bh, .ref q23, .ref q24, .ref q25, .int (nI km)])), (q3, .inl (cI, 48, .inl th)), (q4, .inl (cI, 48, .inl mo))]
      exact hR (nI (ro * co - cntP (fun k => decide (cow k = nI 4)) (ro * co))) () (⟨(by unfold fCount; rw [if_neg (by omega), if_neg (by omega), if_neg (by omega), if_pos (by omega)]), trivial⟩) 83 _ dX9_count_83
    · refine J_tabIn h (off := 71) 84 dX9_count_13 (by omega) (by omega) (by rw [c_13]; decide +kernel) (by decide) ?_
      refine J_aload_n h (i := 0) dX9_count_84 rfl 0 rfl ?_
      refine K_vi h (wr := []) (c_X9_iceMany (xl X) (xD X) cI cE q0 q3 q4 q6 q7 q8 q9 q14 q15 q17 q18 q19 q23 q24 q25 ro co sl (nI sn) (nI ts) ra rr rw rn (nI um) bs bh (nI km) th mo cth cow (by first | exact hrc |  assumption | omega | rfl) (by first | exact hco |  assumption | omega | rfl) (by first | exact hro |  assumption | omega | rfl) (by first | exact hrel |  assumption | omega | rfl)) yv_X9_iceMany nm_X9_217 (by decide) (by decide) rfl rfl 0 rfl rfl rfl rfl (Nat.le_of_ble_eq_true rfl) (Nat.le_refl _) (Nat.le_refl _) dX9_count_85 (fun r_85 u_85 p_85 => ?_)
      obtain ⟨rfl, -⟩ := p_85
      show J X 2 0 0 88 [(0, .ref q0), (1, .int p0)] [.int (nI (cntP (fun k => decide (cth k = nI 1)) (ro * co)))] [(q0, .inr (9, [.int (nI ro), .int (nI co), .int sl, .ref q3, .ref q4, .int (nI sn), .ref q6, .ref q7, .ref q8, .ref q9, .int (nI ts), .int ra, .int rr, .int rw, .ref q14, .ref q15, .int rn, .ref q17, .ref q18, .ref q19, .int (nI um), .int bs, .int bh, .ref q23, .ref q24, .ref q25, .int (nI km)])), (q3, .inl (cI, 48, .inl th)), (q4, .inl (cI, 48, .inl mo))]
      exact hR (nI (cntP (fun k => decide (cth k = nI 1)) (ro * co))) () (⟨(by unfold fCount; rw [if_neg (by omega), if_neg (by omega), if_neg (by omega), if_neg (by omega), if_pos (by omega)]), trivial⟩) 88 _ dX9_count_88
    · refine J_tabIn h (off := 76) 89 dX9_count_13 (by omega) (by omega) (by rw [c_13]; decide +kernel) (by decide) ?_
      refine J_aload_n h (i := 0) dX9_count_89 rfl 0 rfl ?_
      refine J_get h inX9 rfl 0 2 (by decide) rfl rfl nf_X9_115 dX9_count_90 ?_
      exact hR sl () (⟨(by unfold fCount; rw [if_neg (by omega), if_neg (by omega), if_neg (by omega), if_neg (by omega), if_neg (by omega), if_pos (by omega)]), trivial⟩) 93 _ dX9_count_93
    · refine J_tabIn h (off := 81) 94 dX9_count_13 (by omega) (by omega) (by rw [c_13]; decide +kernel) (by decide) ?_
      refine J_aload_n h (i := 0) dX9_count_94 rfl 0 rfl ?_
      refine J_get h inX9 rfl 0 5 (by decide) rfl rfl nf_X9_118 dX9_count_95 ?_
      exact hR (nI sn) () (⟨(by unfold fCount; rw [if_neg (by omega), if_neg (by omega), if_neg (by omega), if_neg (by omega), if_neg (by omega), if_neg (by omega), if_pos (by omega)]), trivial⟩) 98 _ dX9_count_98
    · refine J_tabIn h (off := 86) 99 dX9_count_13 (by omega) (by omega) (by rw [c_13]; decide +kernel) (by decide) ?_
      refine J_aload_n h (i := 0) dX9_count_99 rfl 0 rfl ?_
      refine J_get h inX9 rfl 0 20 (by decide) rfl rfl nf_X9_121 dX9_count_100 ?_
      exact hR (nI um) () (⟨(by unfold fCount; rw [if_neg (by omega), if_neg (by omega), if_neg (by omega), if_neg (by omega), if_neg (by omega), if_neg (by omega), if_neg (by omega), if_pos (by omega)]), trivial⟩) 103 _ dX9_count_103
    · refine J_tabIn h (off := 91) 104 dX9_count_13 (by omega) (by omega) (by rw [c_13]; decide +kernel) (by decide) ?_
      refine J_aload_n h (i := 0) dX9_count_104 rfl 0 rfl ?_
      refine J_get h inX9 rfl 0 26 (by decide) rfl rfl nf_X9_124 dX9_count_105 ?_
      exact hR (nI km) () (⟨(by unfold fCount; rw [if_neg (by omega), if_neg (by omega), if_neg (by omega), if_neg (by omega), if_neg (by omega), if_neg (by omega), if_neg (by omega), if_neg (by omega), if_pos (by omega)]), trivial⟩) 108 _ dX9_count_108
    · refine J_tabOut h 109 dX9_count_13 c_13 (by decide) ?_
      refine J_aload_n h (i := 0) dX9_count_109 rfl 0 rfl ?_
      refine J_get h inX9 rfl 0 10 (by decide) rfl rfl nf_X9_78 dX9_count_110 ?_
      exact hR (nI ts) () (⟨(by unfold fCount; rw [if_neg (by omega), if_neg (by omega), if_neg (by omega), if_neg (by omega), if_neg (by omega), if_neg (by omega), if_neg (by omega), if_neg (by omega), if_neg (by omega), if_pos (by omega)]), trivial⟩) 113 _ dX9_count_113
  · obtain ⟨rfl, f0_4, -⟩ := p_4
    show J X 2 0 0 7 [(0, .ref q0), (1, .int p0)] [.int (nI 0)] [(q0, .inr (9, [.int (nI ro), .int (nI co), .int sl, .ref q3, .ref q4, .int (nI sn), .ref q6, .ref q7, .ref q8, .ref q9, .int (nI ts), .int ra, .int rr, .int rw, .ref q14, .ref q15, .int rn, .ref q17, .ref q18, .ref q19, .int (nI um), .int bs, .int bh, .ref q23, .ref q24, .ref q25, .int (nI km)])), (q3, .inl (cI, 48, .inl th)), (q4, .inl (cI, 48, .inl mo))]
    refine J_if_ne h 12 dX9_count_7 (by decide) (fun z => absurd z (by decide)) (fun _ => ?_)
    refine J_iconst h (v := (-1)) dX9_count_10 (by decide) ?_
    exact hR ((-1)) () (⟨(by unfold fCount; rw [if_neg (by omega), if_neg (by omega), if_neg (by omega), if_neg (by omega), if_neg (by omega), if_neg (by omega), if_neg (by omega), if_neg (by omega), if_neg (by omega), if_neg (by omega)]), trivial⟩) 11 _ dX9_count_11
theorem c_X9_count (l : Launch) (D : va_G) (cI cE : ClassId) (q0 : Nat) (q3 : Nat) (q4 : Nat) (q6 : Nat) (q7 : Nat) (q8 : Nat) (q9 : Nat) (q14 : Nat) (q15 : Nat) (q17 : Nat) (q18 : Nat) (q19 : Nat) (q23 : Nat) (q24 : Nat) (q25 : Nat) (ro : Nat) (co : Nat) (sl : Int32) (sn : Nat) (ts : Nat) (ra : Int32) (rr : Int32) (rw : Int32) (rn : Int32) (um : Nat) (bs : Int32) (bh : Int32) (km : Nat) (th : Nat → Int32) (mo : Nat → Int32) (cth : Nat → Int32) (cow : Nat → Int32) (p0 : Int32) (hrc : ro * co ≤ 48) (hco : co ≤ 6) (hro : ro ≤ 8) (hrel : rel (ro * co) th mo cth cow) : Ci l D cI cE yX9_count cX9_count 2 (some .int) 2 0 0 [.ref q0, .int p0] [(q0, .inr (9, [.int (nI ro), .int (nI co), .int sl, .ref q3, .ref q4, .int (nI sn), .ref q6, .ref q7, .ref q8, .ref q9, .int (nI ts), .int ra, .int rr, .int rw, .ref q14, .ref q15, .int rn, .ref q17, .ref q18, .ref q19, .int (nI um), .int bs, .int bh, .ref q23, .ref q24, .ref q25, .int (nI km)])), (q3, .inl (cI, 48, .inl th)), (q4, .inl (cI, 48, .inl mo))] (fun (r : Int32) (u : Unit) => ((fCount cth cow co ro sl sn um km ts p0 = r) ∧ (True))) (fun (u : Unit) => ([(q0, .inr (9, [.int (nI ro), .int (nI co), .int sl, .ref q3, .ref q4, .int (nI sn), .ref q6, .ref q7, .ref q8, .ref q9, .int (nI ts), .int ra, .int rr, .int rw, .ref q14, .ref q15, .int rn, .ref q17, .ref q18, .ref q19, .int (nI um), .int bs, .int bh, .ref q23, .ref q24, .ref q25, .int (nI km)])), (q3, .inl (cI, 48, .inl th)), (q4, .inl (cI, 48, .inl mo))] : va_W)) :=
  Ci.of (by decide) (Nat.le_of_ble_eq_true rfl) (fun _ _ _ => rfl) (fun X h hR => w_X9_count X h q0 q3 q4 q6 q7 q8 q9 q14 q15 q17 q18 q19 q23 q24 q25 ro co sl sn ts ra rr rw rn um bs bh km th mo cth cow p0 hrc hco hro hrel hR)
theorem yv_X9_count : YV yX9_count cX9_count 2 (some .int) 1 := ⟨no_X9_count, nv_X9_count, ni_X9, nk_X9_count, by decide +kernel⟩
set_option maxRecDepth 100000 in
set_option maxHeartbeats 4000000 in
theorem w_X9_seen (X : Cx) {cI cE : ClassId} (h : Ok X cX9_seen RX9 4 cI cE 3 0 0) (q0 : Nat) (q3 : Nat) (q4 : Nat) (q6 : Nat) (q7 : Nat) (q8 : Nat) (q9 : Nat) (q14 : Nat) (q15 : Nat) (q17 : Nat) (q18 : Nat) (q19 : Nat) (q23 : Nat) (q24 : Nat) (q25 : Nat) (ro : Nat) (co : Nat) (sl : Int32) (sn : Nat) (ts : Int32) (ra : Int32) (rr : Int32) (rw : Int32) (rn : Int32) (um : Int32) (bs : Int32) (bh : Int32) (km : Int32) (kx : Nat → Nat) (kw : Nat → Nat) (ke : Nat → Nat) (p0 : Int32) (p1 : Int32) (p2 : Int32) (hrc : ro * co ≤ 48) (hco : co ≤ 6) (hro : ro ≤ 8) (hsn : sn ≤ 6) (hR : ∀ (r : Int32) (u : (Nat → Nat) × (Nat → Nat) × (Nat → Nat) × (Nat)), ((nI (sn + 1) = r) ∧ ((vRide co p0 p1 (nI 0) ∧ vEnd (ro * co) p2)) ∧ (sn < 6) ∧ ((va_up kx sn (tn p0)) = u.1) ∧ ((va_up kw sn (tn p1)) = u.2.1) ∧ ((va_up ke sn (tn p2)) = u.2.2.1) ∧ ((sn + 1) = u.2.2.2) ∧ (True)) ∨ (((-3) = r) ∧ ((vRide co p0 p1 (nI 0) ∧ vEnd (ro * co) p2)) ∧ (sn = 6) ∧ ((kx) = u.1) ∧ ((kw) = u.2.1) ∧ ((ke) = u.2.2.1) ∧ ((sn) = u.2.2.2) ∧ (True)) ∨ (((-1) = r) ∧ (¬ (vRide co p0 p1 (nI 0) ∧ vEnd (ro * co) p2)) ∧ ((kx) = u.1) ∧ ((kw) = u.2.1) ∧ ((ke) = u.2.2.1) ∧ ((sn) = u.2.2.2) ∧ (True)) → RetI X cX9_seen 4 0 0 r [(q0, .inr (9, [.int (nI ro), .int (nI co), .int sl, .ref q3, .ref q4, .int (nI u.2.2.2), .ref q6, .ref q7, .ref q8, .ref q9, .int ts, .int ra, .int rr, .int rw, .ref q14, .ref q15, .int rn, .ref q17, .ref q18, .ref q19, .int um, .int bs, .int bh, .ref q23, .ref q24, .ref q25, .int km])), (q6, .inl (cI, 6, .inl (nA u.1))), (q7, .inl (cI, 6, .inl (nA u.2.1))), (q8, .inl (cI, 6, .inl (nA u.2.2.1)))]) : J X 4 0 0 0 [(0, .ref q0), (1, .int p0), (2, .int p1), (3, .int p2)] [] [(q0, .inr (9, [.int (nI ro), .int (nI co), .int sl, .ref q3, .ref q4, .int (nI sn), .ref q6, .ref q7, .ref q8, .ref q9, .int ts, .int ra, .int rr, .int rw, .ref q14, .ref q15, .int rn, .ref q17, .ref q18, .ref q19, .int um, .int bs, .int bh, .ref q23, .ref q24, .ref q25, .int km])), (q6, .inl (cI, 6, .inl (nA kx))), (q7, .inl (cI, 6, .inl (nA kw))), (q8, .inl (cI, 6, .inl (nA ke)))] := by
  refine J_aload_n h (i := 0) dX9_seen_0 rfl 0 rfl ?_
  refine J_iload_n h (i := 1) dX9_seen_1 rfl 1 rfl ?_
  refine J_iload_n h (i := 2) dX9_seen_2 rfl 2 rfl ?_
  refine J_iconst h (v := nI 0) dX9_seen_3 (by decide) ?_
  refine K_vi h (wr := [(q6, .inl (cI, 6, .inl (nA kx))), (q7, .inl (cI, 6, .inl (nA kw))), (q8, .inl (cI, 6, .inl (nA ke)))]) (c_X9_isSlide (xl X) (xD X) cI cE q0 q3 q4 q6 q7 q8 q9 q14 q15 q17 q18 q19 q23 q24 q25 ro co sl (nI sn) ts ra rr rw rn um bs bh km p0 p1 (nI 0) (by first | exact hco |  assumption | omega | rfl)) yv_X9_isSlide nm_X9_134 (by decide) (by decide) rfl rfl 0 rfl rfl rfl rfl (Nat.le_of_ble_eq_true rfl) (Nat.le_refl _) (Nat.le_refl _) dX9_seen_4 (fun r_4 u_4 p_4 => ?_)
  rcases p_4 with p_4 | p_4
  · obtain ⟨jx_4, jw_4, jh_4, rfl, f0_4, f1_4, f2_4, f3_4, f4_4, rfl, rfl, e2_4, -⟩ := p_4
    show J X 4 0 0 7 [(0, .ref q0), (1, .int (nI jx_4)), (2, .int (nI jw_4)), (3, .int p2)] [.int (nI 1)] [(q0, .inr (9, [.int (nI ro), .int (nI co), .int sl, .ref q3, .ref q4, .int (nI sn), .ref q6, .ref q7, .ref q8, .ref q9, .int ts, .int ra, .int rr, .int rw, .ref q14, .ref q15, .int rn, .ref q17, .ref q18, .ref q19, .int um, .int bs, .int bh, .ref q23, .ref q24, .ref q25, .int km])), (q6, .inl (cI, 6, .inl (nA kx))), (q7, .inl (cI, 6, .inl (nA kw))), (q8, .inl (cI, 6, .inl (nA ke)))]
    refine J_if_eq h 18 dX9_seen_7 (by decide) (fun z => absurd z (by decide)) (fun _ => ?_)
    refine J_aload_n h (i := 0) dX9_seen_10 rfl 0 rfl ?_
    refine J_iload_n h (i := 3) dX9_seen_11 rfl 3 rfl ?_
    refine K_vi h (wr := [(q6, .inl (cI, 6, .inl (nA kx))), (q7, .inl (cI, 6, .inl (nA kw))), (q8, .inl (cI, 6, .inl (nA ke)))]) (c_X9_isEnd (xl X) (xD X) cI cE q0 q3 q4 q6 q7 q8 q9 q14 q15 q17 q18 q19 q23 q24 q25 ro co sl (nI sn) ts ra rr rw rn um bs bh km p2 (by first | exact hrc |  assumption | omega | rfl)) yv_X9_isEnd nm_X9_188 (by decide) (by decide) rfl rfl 0 rfl rfl rfl rfl (Nat.le_of_ble_eq_true rfl) (Nat.le_refl _) (Nat.le_refl _) dX9_seen_12 (fun r_12 u_12 p_12 => ?_)
    rcases p_12 with p_12 | p_12
    · obtain ⟨jc_12, rfl, f0_12, f1_12, rfl, -⟩ := p_12
      show J X 4 0 0 15 [(0, .ref q0), (1, .int (nI jx_4)), (2, .int (nI jw_4)), (3, .int (nI jc_12))] [.int (nI 1)] [(q0, .inr (9, [.int (nI ro), .int (nI co), .int sl, .ref q3, .ref q4, .int (nI sn), .ref q6, .ref q7, .ref q8, .ref q9, .int ts, .int ra, .int rr, .int rw, .ref q14, .ref q15, .int rn, .ref q17, .ref q18, .ref q19, .int um, .int bs, .int bh, .ref q23, .ref q24, .ref q25, .int km])), (q6, .inl (cI, 6, .inl (nA kx))), (q7, .inl (cI, 6, .inl (nA kw))), (q8, .inl (cI, 6, .inl (nA ke)))]
      refine J_if_ne h 20 dX9_seen_15 (by decide) (fun _ => ?_) (fun z => absurd z (by decide))
      refine J_aload_n h (i := 0) dX9_seen_20 rfl 0 rfl ?_
      refine J_get h inX9 rfl 0 5 (by decide) rfl rfl nf_X9_118 dX9_seen_21 ?_
      refine J_bipush h (v := nI 6) dX9_seen_24 (by decide) ?_
      refine N_icmp_ne h 32 dX9_seen_26 (by decide) (by omega) (by omega) (fun c_26 => ?_) (fun c_26 => ?_)
      · skip
        refine J_aload_n h (i := 0) dX9_seen_32 rfl 0 rfl ?_
        refine J_get h inX9 rfl 0 6 (by decide) rfl rfl nf_X9_16 dX9_seen_33 ?_
        refine J_aload_n h (i := 0) dX9_seen_36 rfl 0 rfl ?_
        refine J_get h inX9 rfl 0 5 (by decide) rfl rfl nf_X9_118 dX9_seen_37 ?_
        refine J_iload_n h (i := 1) dX9_seen_40 rfl 1 rfl ?_
        refine N_iast h (ws' := [(q0, .inr (9, [.int (nI ro), .int (nI co), .int sl, .ref q3, .ref q4, .int (nI sn), .ref q6, .ref q7, .ref q8, .ref q9, .int ts, .int ra, .int rr, .int rw, .ref q14, .ref q15, .int rn, .ref q17, .ref q18, .ref q19, .int um, .int bs, .int bh, .ref q23, .ref q24, .ref q25, .int km])), (q6, .inl (cI, 6, .inl (upd (nA kx) sn (nI jx_4)))), (q7, .inl (cI, 6, .inl (nA kw))), (q8, .inl (cI, 6, .inl (nA ke)))]) 1 rfl (by decide) (by omega) dX9_seen_41 rfl ?_
        refine J_aload_n h (i := 0) dX9_seen_42 rfl 0 rfl ?_
        refine J_get h inX9 rfl 0 7 (by decide) rfl rfl nf_X9_19 dX9_seen_43 ?_
        refine J_aload_n h (i := 0) dX9_seen_46 rfl 0 rfl ?_
        refine J_get h inX9 rfl 0 5 (by decide) rfl rfl nf_X9_118 dX9_seen_47 ?_
        refine J_iload_n h (i := 2) dX9_seen_50 rfl 2 rfl ?_
        refine N_iast h (ws' := [(q0, .inr (9, [.int (nI ro), .int (nI co), .int sl, .ref q3, .ref q4, .int (nI sn), .ref q6, .ref q7, .ref q8, .ref q9, .int ts, .int ra, .int rr, .int rw, .ref q14, .ref q15, .int rn, .ref q17, .ref q18, .ref q19, .int um, .int bs, .int bh, .ref q23, .ref q24, .ref q25, .int km])), (q6, .inl (cI, 6, .inl (upd (nA kx) sn (nI jx_4)))), (q7, .inl (cI, 6, .inl (upd (nA kw) sn (nI jw_4)))), (q8, .inl (cI, 6, .inl (nA ke)))]) 2 rfl (by decide) (by omega) dX9_seen_51 rfl ?_
        refine J_aload_n h (i := 0) dX9_seen_52 rfl 0 rfl ?_
        refine J_get h inX9 rfl 0 8 (by decide) rfl rfl nf_X9_22 dX9_seen_53 ?_
        refine J_aload_n h (i := 0) dX9_seen_56 rfl 0 rfl ?_
        refine J_get h inX9 rfl 0 5 (by decide) rfl rfl nf_X9_118 dX9_seen_57 ?_
        refine J_iload_n h (i := 3) dX9_seen_60 rfl 3 rfl ?_
        refine N_iast h (ws' := [(q0, .inr (9, [.int (nI ro), .int (nI co), .int sl, .ref q3, .ref q4, .int (nI sn), .ref q6, .ref q7, .ref q8, .ref q9, .int ts, .int ra, .int rr, .int rw, .ref q14, .ref q15, .int rn, .ref q17, .ref q18, .ref q19, .int um, .int bs, .int bh, .ref q23, .ref q24, .ref q25, .int km])), (q6, .inl (cI, 6, .inl (upd (nA kx) sn (nI jx_4)))), (q7, .inl (cI, 6, .inl (upd (nA kw) sn (nI jw_4)))), (q8, .inl (cI, 6, .inl (upd (nA ke) sn (nI jc_12))))]) 3 rfl (by decide) (by omega) dX9_seen_61 rfl ?_
        refine J_eqw (ws' := [(q0, .inr (9, [.int (nI ro), .int (nI co), .int sl, .ref q3, .ref q4, .int (nI sn), .ref q6, .ref q7, .ref q8, .ref q9, .int ts, .int ra, .int rr, .int rw, .ref q14, .ref q15, .int rn, .ref q17, .ref q18, .ref q19, .int um, .int bs, .int bh, .ref q23, .ref q24, .ref q25, .int km])), (q6, .inl (cI, 6, .inl (nA (va_up kx sn jx_4)))), (q7, .inl (cI, 6, .inl (nA (va_up kw sn jw_4)))), (q8, .inl (cI, 6, .inl (nA (va_up ke sn jc_12))))]) (by rw [upd_nA, upd_nA, upd_nA]) ?_
        refine J_aload_n h (i := 0) dX9_seen_62 rfl 0 rfl ?_
        refine J_dup h dX9_seen_63 rfl ?_
        refine J_get h inX9 rfl 0 5 (by decide) rfl rfl nf_X9_118 dX9_seen_64 ?_
        refine J_iconst h (v := nI 1) dX9_seen_67 (by decide) ?_
        refine N_iadd h dX9_seen_68 ?_
        refine J_put h (ws' := [(q0, .inr (9, [.int (nI ro), .int (nI co), .int sl, .ref q3, .ref q4, .int (nI (sn + 1)), .ref q6, .ref q7, .ref q8, .ref q9, .int ts, .int ra, .int rr, .int rw, .ref q14, .ref q15, .int rn, .ref q17, .ref q18, .ref q19, .int um, .int bs, .int bh, .ref q23, .ref q24, .ref q25, .int km])), (q6, .inl (cI, 6, .inl (nA (va_up kx sn jx_4)))), (q7, .inl (cI, 6, .inl (nA (va_up kw sn jw_4)))), (q8, .inl (cI, 6, .inl (nA (va_up ke sn jc_12))))]) inX9 tyX9 tyX9_ok nmX9 rfl 0 5 (by decide) rfl nf_X9_118 rfl rfl rfl rfl (Nat.le_of_ble_eq_true rfl) dX9_seen_69 rfl ?_
        refine J_aload_n h (i := 0) dX9_seen_72 rfl 0 rfl ?_
        refine J_get h inX9 rfl 0 5 (by decide) rfl rfl nf_X9_118 dX9_seen_73 ?_
        exact hR (nI (sn + 1)) (va_up kx sn jx_4, va_up kw sn jw_4, va_up ke sn jc_12, sn + 1) (by exact Or.inl ⟨rfl, ⟨by assumption, by assumption⟩, by omega, by rw [tnI (by omega)], by rw [tnI (by omega)], by rw [tnI (by omega)], rfl, trivial⟩) 76 _ dX9_seen_76
      · skip
        refine J_bipush h (v := (-3)) dX9_seen_29 (by decide) ?_
        exact hR ((-3)) (kx, kw, ke, sn) (by exact Or.inr (Or.inl ⟨rfl, ⟨by assumption, by assumption⟩, by omega, rfl, rfl, rfl, rfl, trivial⟩)) 31 _ dX9_seen_31
    · obtain ⟨rfl, f0_12, -⟩ := p_12
      show J X 4 0 0 15 [(0, .ref q0), (1, .int (nI jx_4)), (2, .int (nI jw_4)), (3, .int p2)] [.int (nI 0)] [(q0, .inr (9, [.int (nI ro), .int (nI co), .int sl, .ref q3, .ref q4, .int (nI sn), .ref q6, .ref q7, .ref q8, .ref q9, .int ts, .int ra, .int rr, .int rw, .ref q14, .ref q15, .int rn, .ref q17, .ref q18, .ref q19, .int um, .int bs, .int bh, .ref q23, .ref q24, .ref q25, .int km])), (q6, .inl (cI, 6, .inl (nA kx))), (q7, .inl (cI, 6, .inl (nA kw))), (q8, .inl (cI, 6, .inl (nA ke)))]
      refine J_if_ne h 20 dX9_seen_15 (by decide) (fun z => absurd z (by decide)) (fun _ => ?_)
      refine J_iconst h (v := (-1)) dX9_seen_18 (by decide) ?_
      exact hR ((-1)) (kx, kw, ke, sn) (by refine Or.inr (Or.inr ⟨rfl, fun q => ?_, rfl, rfl, rfl, rfl, trivial⟩); have q1 := q.1; have q2 := q.2; first | exact absurd q1 (by assumption) | exact absurd q2 (by assumption)) 19 _ dX9_seen_19
  · obtain ⟨rfl, f0_4, -⟩ := p_4
    show J X 4 0 0 7 [(0, .ref q0), (1, .int p0), (2, .int p1), (3, .int p2)] [.int (nI 0)] [(q0, .inr (9, [.int (nI ro), .int (nI co), .int sl, .ref q3, .ref q4, .int (nI sn), .ref q6, .ref q7, .ref q8, .ref q9, .int ts, .int ra, .int rr, .int rw, .ref q14, .ref q15, .int rn, .ref q17, .ref q18, .ref q19, .int um, .int bs, .int bh, .ref q23, .ref q24, .ref q25, .int km])), (q6, .inl (cI, 6, .inl (nA kx))), (q7, .inl (cI, 6, .inl (nA kw))), (q8, .inl (cI, 6, .inl (nA ke)))]
    refine J_if_eq h 18 dX9_seen_7 (by decide) (fun _ => ?_) (fun z => absurd z (by decide))
    refine J_iconst h (v := (-1)) dX9_seen_18 (by decide) ?_
    exact hR ((-1)) (kx, kw, ke, sn) (by refine Or.inr (Or.inr ⟨rfl, fun q => ?_, rfl, rfl, rfl, rfl, trivial⟩); have q1 := q.1; have q2 := q.2; first | exact absurd q1 (by assumption) | exact absurd q2 (by assumption)) 19 _ dX9_seen_19
theorem c_X9_seen (l : Launch) (D : va_G) (cI cE : ClassId) (q0 : Nat) (q3 : Nat) (q4 : Nat) (q6 : Nat) (q7 : Nat) (q8 : Nat) (q9 : Nat) (q14 : Nat) (q15 : Nat) (q17 : Nat) (q18 : Nat) (q19 : Nat) (q23 : Nat) (q24 : Nat) (q25 : Nat) (ro : Nat) (co : Nat) (sl : Int32) (sn : Nat) (ts : Int32) (ra : Int32) (rr : Int32) (rw : Int32) (rn : Int32) (um : Int32) (bs : Int32) (bh : Int32) (km : Int32) (kx : Nat → Nat) (kw : Nat → Nat) (ke : Nat → Nat) (p0 : Int32) (p1 : Int32) (p2 : Int32) (hrc : ro * co ≤ 48) (hco : co ≤ 6) (hro : ro ≤ 8) (hsn : sn ≤ 6) : Ci l D cI cE yX9_seen cX9_seen 4 (some .int) 3 0 0 [.ref q0, .int p0, .int p1, .int p2] [(q0, .inr (9, [.int (nI ro), .int (nI co), .int sl, .ref q3, .ref q4, .int (nI sn), .ref q6, .ref q7, .ref q8, .ref q9, .int ts, .int ra, .int rr, .int rw, .ref q14, .ref q15, .int rn, .ref q17, .ref q18, .ref q19, .int um, .int bs, .int bh, .ref q23, .ref q24, .ref q25, .int km])), (q6, .inl (cI, 6, .inl (nA kx))), (q7, .inl (cI, 6, .inl (nA kw))), (q8, .inl (cI, 6, .inl (nA ke)))] (fun (r : Int32) (u : (Nat → Nat) × (Nat → Nat) × (Nat → Nat) × (Nat)) => ((nI (sn + 1) = r) ∧ ((vRide co p0 p1 (nI 0) ∧ vEnd (ro * co) p2)) ∧ (sn < 6) ∧ ((va_up kx sn (tn p0)) = u.1) ∧ ((va_up kw sn (tn p1)) = u.2.1) ∧ ((va_up ke sn (tn p2)) = u.2.2.1) ∧ ((sn + 1) = u.2.2.2) ∧ (True)) ∨ (((-3) = r) ∧ ((vRide co p0 p1 (nI 0) ∧ vEnd (ro * co) p2)) ∧ (sn = 6) ∧ ((kx) = u.1) ∧ ((kw) = u.2.1) ∧ ((ke) = u.2.2.1) ∧ ((sn) = u.2.2.2) ∧ (True)) ∨ (((-1) = r) ∧ (¬ (vRide co p0 p1 (nI 0) ∧ vEnd (ro * co) p2)) ∧ ((kx) = u.1) ∧ ((kw) = u.2.1) ∧ ((ke) = u.2.2.1) ∧ ((sn) = u.2.2.2) ∧ (True))) (fun (u : (Nat → Nat) × (Nat → Nat) × (Nat → Nat) × (Nat)) => ([(q0, .inr (9, [.int (nI ro), .int (nI co), .int sl, .ref q3, .ref q4, .int (nI u.2.2.2), .ref q6, .ref q7, .ref q8, .ref q9, .int ts, .int ra, .int rr, .int rw, .ref q14, .ref q15, .int rn, .ref q17, .ref q18, .ref q19, .int um, .int bs, .int bh, .ref q23, .ref q24, .ref q25, .int km])), (q6, .inl (cI, 6, .inl (nA u.1))), (q7, .inl (cI, 6, .inl (nA u.2.1))), (q8, .inl (cI, 6, .inl (nA u.2.2.1)))] : va_W)) :=
  Ci.of (by decide) (Nat.le_of_ble_eq_true rfl) (fun _ _ _ => rfl) (fun X h hR => w_X9_seen X h q0 q3 q4 q6 q7 q8 q9 q14 q15 q17 q18 q19 q23 q24 q25 ro co sl sn ts ra rr rw rn um bs bh km kx kw ke p0 p1 p2 hrc hco hro hsn hR)
theorem yv_X9_seen : YV yX9_seen cX9_seen 4 (some .int) 3 := ⟨no_X9_seen, nv_X9_seen, ni_X9, nk_X9_seen, by decide +kernel⟩
set_option maxRecDepth 100000 in
set_option maxHeartbeats 4000000 in
theorem w_X9_forget (X : Cx) {cI cE : ClassId} (h : Ok X cX9_forget RX9 2 cI cE 0 0 0) (q0 : Nat) (q3 : Nat) (q4 : Nat) (q6 : Nat) (q7 : Nat) (q8 : Nat) (q9 : Nat) (q14 : Nat) (q15 : Nat) (q17 : Nat) (q18 : Nat) (q19 : Nat) (q23 : Nat) (q24 : Nat) (q25 : Nat) (ro : Int32) (co : Int32) (sl : Int32) (sn : Nat) (ts : Int32) (ra : Int32) (rr : Int32) (rw : Int32) (rn : Int32) (um : Int32) (bs : Int32) (bh : Int32) (km : Int32)  (hR : ∀ (r : Int32) (u : Unit), ((nI sn = r) ∧ (True)) → RetI X cX9_forget 2 0 0 r [(q0, .inr (9, [.int ro, .int co, .int sl, .ref q3, .ref q4, .int (nI 0), .ref q6, .ref q7, .ref q8, .ref q9, .int ts, .int ra, .int rr, .int rw, .ref q14, .ref q15, .int rn, .ref q17, .ref q18, .ref q19, .int um, .int bs, .int bh, .ref q23, .ref q24, .ref q25, .int km]))]) : J X 2 0 0 0 [(0, .ref q0)] [] [(q0, .inr (9, [.int ro, .int co, .int sl, .ref q3, .ref q4, .int (nI sn), .ref q6, .ref q7, .ref q8, .ref q9, .int ts, .int ra, .int rr, .int rw, .ref q14, .ref q15, .int rn, .ref q17, .ref q18, .ref q19, .int um, .int bs, .int bh, .ref q23, .ref q24, .ref q25, .int km]))] := by
  refine J_aload_n h (i := 0) dX9_forget_0 rfl 0 rfl ?_
  refine J_get h inX9 rfl 0 5 (by decide) rfl rfl nf_X9_118 dX9_forget_1 ?_
  refine J_istore_n h (i := 1) (lv' := [(1, .int (nI sn)), (0, .ref q0)]) dX9_forget_4 rfl (by decide) rfl ?_
  refine J_aload_n h (i := 0) dX9_forget_5 rfl 1 rfl ?_
  refine J_iconst h (v := nI 0) dX9_forget_6 (by decide) ?_
  refine J_put h (ws' := [(q0, .inr (9, [.int ro, .int co, .int sl, .ref q3, .ref q4, .int (nI 0), .ref q6, .ref q7, .ref q8, .ref q9, .int ts, .int ra, .int rr, .int rw, .ref q14, .ref q15, .int rn, .ref q17, .ref q18, .ref q19, .int um, .int bs, .int bh, .ref q23, .ref q24, .ref q25, .int km]))]) inX9 tyX9 tyX9_ok nmX9 rfl 0 5 (by decide) rfl nf_X9_118 rfl rfl rfl rfl (Nat.le_of_ble_eq_true rfl) dX9_forget_7 rfl ?_
  refine J_iload_n h (i := 1) dX9_forget_10 rfl 0 rfl ?_
  exact hR (nI sn) () (⟨rfl, trivial⟩) 11 _ dX9_forget_11
theorem c_X9_forget (l : Launch) (D : va_G) (cI cE : ClassId) (q0 : Nat) (q3 : Nat) (q4 : Nat) (q6 : Nat) (q7 : Nat) (q8 : Nat) (q9 : Nat) (q14 : Nat) (q15 : Nat) (q17 : Nat) (q18 : Nat) (q19 : Nat) (q23 : Nat) (q24 : Nat) (q25 : Nat) (ro : Int32) (co : Int32) (sl : Int32) (sn : Nat) (ts : Int32) (ra : Int32) (rr : Int32) (rw : Int32) (rn : Int32) (um : Int32) (bs : Int32) (bh : Int32) (km : Int32)  : Ci l D cI cE yX9_forget cX9_forget 2 (some .int) 0 0 0 [.ref q0] [(q0, .inr (9, [.int ro, .int co, .int sl, .ref q3, .ref q4, .int (nI sn), .ref q6, .ref q7, .ref q8, .ref q9, .int ts, .int ra, .int rr, .int rw, .ref q14, .ref q15, .int rn, .ref q17, .ref q18, .ref q19, .int um, .int bs, .int bh, .ref q23, .ref q24, .ref q25, .int km]))] (fun (r : Int32) (u : Unit) => ((nI sn = r) ∧ (True))) (fun (u : Unit) => ([(q0, .inr (9, [.int ro, .int co, .int sl, .ref q3, .ref q4, .int (nI 0), .ref q6, .ref q7, .ref q8, .ref q9, .int ts, .int ra, .int rr, .int rw, .ref q14, .ref q15, .int rn, .ref q17, .ref q18, .ref q19, .int um, .int bs, .int bh, .ref q23, .ref q24, .ref q25, .int km]))] : va_W)) :=
  Ci.of (by decide) (Nat.le_of_ble_eq_true rfl) (fun _ _ _ => rfl) (fun X h hR => w_X9_forget X h q0 q3 q4 q6 q7 q8 q9 q14 q15 q17 q18 q19 q23 q24 q25 ro co sl sn ts ra rr rw rn um bs bh km hR)
theorem yv_X9_forget : YV yX9_forget cX9_forget 2 (some .int) 0 := ⟨no_X9_forget, nv_X9_forget, ni_X9, nk_X9_forget, by decide +kernel⟩
set_option maxRecDepth 100000 in
set_option maxHeartbeats 4000000 in
theorem w_X9_lays776_9 (X : Cx) {cI cE : ClassId} (h : Ok X cX9_lays RX9 4 cI cE 0 0 0) (q0 : Nat) (q3 : Nat) (q4 : Nat) (q6 : Nat) (q7 : Nat) (q8 : Nat) (q9 : Nat) (q14 : Nat) (q15 : Nat) (q17 : Nat) (q18 : Nat) (q19 : Nat) (q23 : Nat) (q24 : Nat) (q25 : Nat) (ro : Nat) (co : Nat) (sl : Int32) (sn : Int32) (ts : Int32) (ra : Int32) (rr : Int32) (rw : Int32) (rn : Int32) (um : Int32) (bs : Int32) (bh : Int32) (km : Int32) (th : Nat → Int32) (mo : Nat → Int32) (tq : Nat) (tf : Nat → Int32) (at_ : Nat) (hat : at_ + 97 ≤ 776) (hR : ∀ (u : Unit), ((True)) → RetV X cX9_lays 4 0 0 [(q0, .inr (9, [.int (nI ro), .int (nI co), .int sl, .ref q3, .ref q4, .int sn, .ref q6, .ref q7, .ref q8, .ref q9, .int ts, .int ra, .int rr, .int rw, .ref q14, .ref q15, .int rn, .ref q17, .ref q18, .ref q19, .int um, .int bs, .int bh, .ref q23, .ref q24, .ref q25, .int km])), (q3, .inl (cI, 48, .inl th)), (q4, .inl (cI, 48, .inl mo)), (tq, .inl (cI, 776, .inl (noteA at_ sl th mo tf)))]) : ∀ (n_9 : Nat) (i : Nat) (t1 : Nat → Int32), (i ≤ 48) → (t1 = noteI at_ i sl th mo tf) → 48 - i < n_9 → J X 4 0 0 9 [(0, .ref q0), (1, .ref tq), (2, .int (nI at_)), (3, .int (nI i))] [] [(q0, .inr (9, [.int (nI ro), .int (nI co), .int sl, .ref q3, .ref q4, .int sn, .ref q6, .ref q7, .ref q8, .ref q9, .int ts, .int ra, .int rr, .int rw, .ref q14, .ref q15, .int rn, .ref q17, .ref q18, .ref q19, .int um, .int bs, .int bh, .ref q23, .ref q24, .ref q25, .int km])), (q3, .inl (cI, 48, .inl th)), (q4, .inl (cI, 48, .inl mo)), (tq, .inl (cI, 776, .inl t1))] := by
  intro n_9
  induction n_9 with
  | zero => intro i t1 hi ht hn_; exact absurd hn_ (Nat.not_lt_zero _)
  | succ n_9 ih_9 =>
    intro i t1 hi ht hn_9
    refine J_iload_n h (i := 3) dX9_lays_9 rfl 3 rfl ?_
    refine J_bipush h (v := nI 48) dX9_lays_10 (by decide) ?_
    refine N_icmp_ge h 48 dX9_lays_12 (by decide) (by omega) (by omega) (fun c_12 => ?_) (fun c_12 => ?_)
    · skip
      refine J_arr (g := (noteA at_ sl th mo tf)) (ws' := [(q0, .inr (9, [.int (nI ro), .int (nI co), .int sl, .ref q3, .ref q4, .int sn, .ref q6, .ref q7, .ref q8, .ref q9, .int ts, .int ra, .int rr, .int rw, .ref q14, .ref q15, .int rn, .ref q17, .ref q18, .ref q19, .int um, .int bs, .int bh, .ref q23, .ref q24, .ref q25, .int km])), (q3, .inl (cI, 48, .inl th)), (q4, .inl (cI, 48, .inl mo)), (tq, .inl (cI, 776, .inl (noteA at_ sl th mo tf)))]) 3 rfl (by intro j hj; rw [ht, show i = 48 by omega, noteI_48]) rfl ?_
      exact hR () (trivial) 48 _ dX9_lays_48
    · skip
      refine J_aload_n h (i := 1) dX9_lays_15 rfl 1 rfl ?_
      refine J_iload_n h (i := 2) dX9_lays_16 rfl 2 rfl ?_
      refine J_iconst h (v := nI 1) dX9_lays_17 (by decide) ?_
      refine N_iadd h dX9_lays_18 ?_
      refine J_iload_n h (i := 3) dX9_lays_19 rfl 3 rfl ?_
      refine N_iadd h dX9_lays_20 ?_
      refine J_aload_n h (i := 0) dX9_lays_21 rfl 0 rfl ?_
      refine J_get h inX9 rfl 0 3 (by decide) rfl rfl nf_X9_7 dX9_lays_22 ?_
      refine J_iload_n h (i := 3) dX9_lays_25 rfl 3 rfl ?_
      refine N_iald h 1 rfl (by decide) (by omega) dX9_lays_26 ?_
      refine N_iast h (ws' := [(q0, .inr (9, [.int (nI ro), .int (nI co), .int sl, .ref q3, .ref q4, .int sn, .ref q6, .ref q7, .ref q8, .ref q9, .int ts, .int ra, .int rr, .int rw, .ref q14, .ref q15, .int rn, .ref q17, .ref q18, .ref q19, .int um, .int bs, .int bh, .ref q23, .ref q24, .ref q25, .int km])), (q3, .inl (cI, 48, .inl th)), (q4, .inl (cI, 48, .inl mo)), (tq, .inl (cI, 776, .inl (upd t1 ((at_ + 1) + i) (th i))))]) 3 rfl (by decide) (by omega) dX9_lays_27 rfl ?_
      refine J_aload_n h (i := 1) dX9_lays_28 rfl 1 rfl ?_
      refine J_iload_n h (i := 2) dX9_lays_29 rfl 2 rfl ?_
      refine J_bipush h (v := nI 49) dX9_lays_30 (by decide) ?_
      refine N_iadd h dX9_lays_32 ?_
      refine J_iload_n h (i := 3) dX9_lays_33 rfl 3 rfl ?_
      refine N_iadd h dX9_lays_34 ?_
      refine J_aload_n h (i := 0) dX9_lays_35 rfl 0 rfl ?_
      refine J_get h inX9 rfl 0 4 (by decide) rfl rfl nf_X9_13 dX9_lays_36 ?_
      refine J_iload_n h (i := 3) dX9_lays_39 rfl 3 rfl ?_
      refine N_iald h 2 rfl (by decide) (by omega) dX9_lays_40 ?_
      refine N_iast h (ws' := [(q0, .inr (9, [.int (nI ro), .int (nI co), .int sl, .ref q3, .ref q4, .int sn, .ref q6, .ref q7, .ref q8, .ref q9, .int ts, .int ra, .int rr, .int rw, .ref q14, .ref q15, .int rn, .ref q17, .ref q18, .ref q19, .int um, .int bs, .int bh, .ref q23, .ref q24, .ref q25, .int km])), (q3, .inl (cI, 48, .inl th)), (q4, .inl (cI, 48, .inl mo)), (tq, .inl (cI, 776, .inl (upd (upd t1 ((at_ + 1) + i) (th i)) ((at_ + 49) + i) (mo i))))]) 3 rfl (by decide) (by omega) dX9_lays_41 rfl ?_
      refine J_iinc h (v := nI (i + 1)) (lv' := [(3, .int (nI (i + 1))), (0, .ref q0), (1, .ref tq), (2, .int (nI at_))]) dX9_lays_42 3 rfl (inc_ok _ 1) (by decide) rfl ?_
      refine J_goto h 9 dX9_lays_45 (by decide) ?_
      refine J.loc [1, 2, 3, 0] (lv' := [(0, .ref q0), (1, .ref tq), (2, .int (nI at_)), (3, .int (nI (i + 1)))]) rfl ?_
      exact ih_9 (i + 1) (upd (upd t1 ((at_ + 1) + i) (th i)) ((at_ + 49) + i) (mo i)) (by first | exact hi |  assumption | omega | rfl) (by rw [ht]; exact noteI_s (by omega) _ _ _ _) (by omega)
set_option maxRecDepth 100000 in
set_option maxHeartbeats 4000000 in
theorem w_X9_lays776 (X : Cx) {cI cE : ClassId} (h : Ok X cX9_lays RX9 4 cI cE 0 0 0) (q0 : Nat) (q3 : Nat) (q4 : Nat) (q6 : Nat) (q7 : Nat) (q8 : Nat) (q9 : Nat) (q14 : Nat) (q15 : Nat) (q17 : Nat) (q18 : Nat) (q19 : Nat) (q23 : Nat) (q24 : Nat) (q25 : Nat) (ro : Nat) (co : Nat) (sl : Int32) (sn : Int32) (ts : Int32) (ra : Int32) (rr : Int32) (rw : Int32) (rn : Int32) (um : Int32) (bs : Int32) (bh : Int32) (km : Int32) (th : Nat → Int32) (mo : Nat → Int32) (tq : Nat) (tf : Nat → Int32) (at_ : Nat) (hat : at_ + 97 ≤ 776) (hR : ∀ (u : Unit), ((True)) → RetV X cX9_lays 4 0 0 [(q0, .inr (9, [.int (nI ro), .int (nI co), .int sl, .ref q3, .ref q4, .int sn, .ref q6, .ref q7, .ref q8, .ref q9, .int ts, .int ra, .int rr, .int rw, .ref q14, .ref q15, .int rn, .ref q17, .ref q18, .ref q19, .int um, .int bs, .int bh, .ref q23, .ref q24, .ref q25, .int km])), (q3, .inl (cI, 48, .inl th)), (q4, .inl (cI, 48, .inl mo)), (tq, .inl (cI, 776, .inl (noteA at_ sl th mo tf)))]) : J X 4 0 0 0 [(0, .ref q0), (1, .ref tq), (2, .int (nI at_))] [] [(q0, .inr (9, [.int (nI ro), .int (nI co), .int sl, .ref q3, .ref q4, .int sn, .ref q6, .ref q7, .ref q8, .ref q9, .int ts, .int ra, .int rr, .int rw, .ref q14, .ref q15, .int rn, .ref q17, .ref q18, .ref q19, .int um, .int bs, .int bh, .ref q23, .ref q24, .ref q25, .int km])), (q3, .inl (cI, 48, .inl th)), (q4, .inl (cI, 48, .inl mo)), (tq, .inl (cI, 776, .inl tf))] := by
  refine J_aload_n h (i := 1) dX9_lays_0 rfl 1 rfl ?_
  refine J_iload_n h (i := 2) dX9_lays_1 rfl 2 rfl ?_
  refine J_aload_n h (i := 0) dX9_lays_2 rfl 0 rfl ?_
  refine J_get h inX9 rfl 0 2 (by decide) rfl rfl nf_X9_115 dX9_lays_3 ?_
  refine N_iast h (ws' := [(q0, .inr (9, [.int (nI ro), .int (nI co), .int sl, .ref q3, .ref q4, .int sn, .ref q6, .ref q7, .ref q8, .ref q9, .int ts, .int ra, .int rr, .int rw, .ref q14, .ref q15, .int rn, .ref q17, .ref q18, .ref q19, .int um, .int bs, .int bh, .ref q23, .ref q24, .ref q25, .int km])), (q3, .inl (cI, 48, .inl th)), (q4, .inl (cI, 48, .inl mo)), (tq, .inl (cI, 776, .inl (upd tf at_ sl)))]) 3 rfl (by decide) (by omega) dX9_lays_6 rfl ?_
  refine J_iconst h (v := nI 0) dX9_lays_7 (by decide) ?_
  refine J_istore_n h (i := 3) (lv' := [(3, .int (nI 0)), (0, .ref q0), (1, .ref tq), (2, .int (nI at_))]) dX9_lays_8 rfl (by decide) rfl ?_
  refine J.loc [1, 2, 3, 0] (lv' := [(0, .ref q0), (1, .ref tq), (2, .int (nI at_)), (3, .int (nI 0))]) rfl ?_
  exact w_X9_lays776_9 X h q0 q3 q4 q6 q7 q8 q9 q14 q15 q17 q18 q19 q23 q24 q25 ro co sl sn ts ra rr rw rn um bs bh km th mo tq tf at_ hat hR  (48 - 0 + 1) 0 (upd tf at_ sl) (by first | assumption | omega | rfl) (by exact noteI_0 _ _ _ _ _) (by omega)
theorem c_X9_lays776 (l : Launch) (D : va_G) (cI cE : ClassId) (q0 : Nat) (q3 : Nat) (q4 : Nat) (q6 : Nat) (q7 : Nat) (q8 : Nat) (q9 : Nat) (q14 : Nat) (q15 : Nat) (q17 : Nat) (q18 : Nat) (q19 : Nat) (q23 : Nat) (q24 : Nat) (q25 : Nat) (ro : Nat) (co : Nat) (sl : Int32) (sn : Int32) (ts : Int32) (ra : Int32) (rr : Int32) (rw : Int32) (rn : Int32) (um : Int32) (bs : Int32) (bh : Int32) (km : Int32) (th : Nat → Int32) (mo : Nat → Int32) (tq : Nat) (tf : Nat → Int32) (at_ : Nat) (hat : at_ + 97 ≤ 776) : Cv l D cI cE yX9_lays cX9_lays 4 none 0 0 0 [.ref q0, .ref tq, .int (nI at_)] [(q0, .inr (9, [.int (nI ro), .int (nI co), .int sl, .ref q3, .ref q4, .int sn, .ref q6, .ref q7, .ref q8, .ref q9, .int ts, .int ra, .int rr, .int rw, .ref q14, .ref q15, .int rn, .ref q17, .ref q18, .ref q19, .int um, .int bs, .int bh, .ref q23, .ref q24, .ref q25, .int km])), (q3, .inl (cI, 48, .inl th)), (q4, .inl (cI, 48, .inl mo)), (tq, .inl (cI, 776, .inl tf))] (fun (u : Unit) => ((True))) (fun (u : Unit) => ([(q0, .inr (9, [.int (nI ro), .int (nI co), .int sl, .ref q3, .ref q4, .int sn, .ref q6, .ref q7, .ref q8, .ref q9, .int ts, .int ra, .int rr, .int rw, .ref q14, .ref q15, .int rn, .ref q17, .ref q18, .ref q19, .int um, .int bs, .int bh, .ref q23, .ref q24, .ref q25, .int km])), (q3, .inl (cI, 48, .inl th)), (q4, .inl (cI, 48, .inl mo)), (tq, .inl (cI, 776, .inl (noteA at_ sl th mo tf)))] : va_W)) :=
  Cv.of (by decide) (Nat.le_of_ble_eq_true rfl) (fun X h hR _ => w_X9_lays776 X h q0 q3 q4 q6 q7 q8 q9 q14 q15 q17 q18 q19 q23 q24 q25 ro co sl sn ts ra rr rw rn um bs bh km th mo tq tf at_ hat hR)
theorem yv_X9_lays : YV yX9_lays cX9_lays 4 none 2 := ⟨no_X9_lays, nv_X9_lays, ni_X9, nk_X9_lays, by decide +kernel⟩
set_option maxRecDepth 100000 in
set_option maxHeartbeats 4000000 in
theorem w_X9_takes776_9 (X : Cx) {cI cE : ClassId} (h : Ok X cX9_takes RX9 4 cI cE 0 0 0) (q0 : Nat) (q3 : Nat) (q4 : Nat) (q6 : Nat) (q7 : Nat) (q8 : Nat) (q9 : Nat) (q14 : Nat) (q15 : Nat) (q17 : Nat) (q18 : Nat) (q19 : Nat) (q23 : Nat) (q24 : Nat) (q25 : Nat) (ro : Nat) (co : Nat) (sl : Int32) (sn : Int32) (ts : Int32) (ra : Int32) (rr : Int32) (rw : Int32) (rn : Int32) (um : Int32) (bs : Int32) (bh : Int32) (km : Int32) (th : Nat → Int32) (mo : Nat → Int32) (tq : Nat) (tf : Nat → Int32) (at_ : Nat) (hat : at_ + 97 ≤ 776) (hR : ∀ (u : Unit), ((True)) → RetV X cX9_takes 4 0 0 [(q0, .inr (9, [.int (nI ro), .int (nI co), .int (tf at_), .ref q3, .ref q4, .int sn, .ref q6, .ref q7, .ref q8, .ref q9, .int ts, .int ra, .int rr, .int rw, .ref q14, .ref q15, .int rn, .ref q17, .ref q18, .ref q19, .int um, .int bs, .int bh, .ref q23, .ref q24, .ref q25, .int km])), (q3, .inl (cI, 48, .inl (tkT at_ tf))), (q4, .inl (cI, 48, .inl (tkO at_ tf))), (tq, .inl (cI, 776, .inl tf))]) : ∀ (n_9 : Nat) (i : Nat) (t1 : Nat → Int32) (m1 : Nat → Int32), (i ≤ 48) → (∀ j, j < i → t1 j = tkT at_ tf j) → (∀ j, j < i → m1 j = tkO at_ tf j) → 48 - i < n_9 → J X 4 0 0 9 [(0, .ref q0), (1, .ref tq), (2, .int (nI at_)), (3, .int (nI i))] [] [(q0, .inr (9, [.int (nI ro), .int (nI co), .int (tf at_), .ref q3, .ref q4, .int sn, .ref q6, .ref q7, .ref q8, .ref q9, .int ts, .int ra, .int rr, .int rw, .ref q14, .ref q15, .int rn, .ref q17, .ref q18, .ref q19, .int um, .int bs, .int bh, .ref q23, .ref q24, .ref q25, .int km])), (q3, .inl (cI, 48, .inl t1)), (q4, .inl (cI, 48, .inl m1)), (tq, .inl (cI, 776, .inl tf))] := by
  intro n_9
  induction n_9 with
  | zero => intro i t1 m1 hi h1 h2 hn_; exact absurd hn_ (Nat.not_lt_zero _)
  | succ n_9 ih_9 =>
    intro i t1 m1 hi h1 h2 hn_9
    refine J_iload_n h (i := 3) dX9_takes_9 rfl 3 rfl ?_
    refine J_bipush h (v := nI 48) dX9_takes_10 (by decide) ?_
    refine N_icmp_ge h 48 dX9_takes_12 (by decide) (by omega) (by omega) (fun c_12 => ?_) (fun c_12 => ?_)
    · skip
      refine J_arr (g := (tkT at_ tf)) (ws' := [(q0, .inr (9, [.int (nI ro), .int (nI co), .int (tf at_), .ref q3, .ref q4, .int sn, .ref q6, .ref q7, .ref q8, .ref q9, .int ts, .int ra, .int rr, .int rw, .ref q14, .ref q15, .int rn, .ref q17, .ref q18, .ref q19, .int um, .int bs, .int bh, .ref q23, .ref q24, .ref q25, .int km])), (q3, .inl (cI, 48, .inl (tkT at_ tf))), (q4, .inl (cI, 48, .inl m1)), (tq, .inl (cI, 776, .inl tf))]) 1 rfl (by exact fun j hj => h1 j (by omega)) rfl ?_
      refine J_arr (g := (tkO at_ tf)) (ws' := [(q0, .inr (9, [.int (nI ro), .int (nI co), .int (tf at_), .ref q3, .ref q4, .int sn, .ref q6, .ref q7, .ref q8, .ref q9, .int ts, .int ra, .int rr, .int rw, .ref q14, .ref q15, .int rn, .ref q17, .ref q18, .ref q19, .int um, .int bs, .int bh, .ref q23, .ref q24, .ref q25, .int km])), (q3, .inl (cI, 48, .inl (tkT at_ tf))), (q4, .inl (cI, 48, .inl (tkO at_ tf))), (tq, .inl (cI, 776, .inl tf))]) 2 rfl (by exact fun j hj => h2 j (by omega)) rfl ?_
      exact hR () (trivial) 48 _ dX9_takes_48
    · skip
      refine J_aload_n h (i := 0) dX9_takes_15 rfl 0 rfl ?_
      refine J_get h inX9 rfl 0 3 (by decide) rfl rfl nf_X9_7 dX9_takes_16 ?_
      refine J_iload_n h (i := 3) dX9_takes_19 rfl 3 rfl ?_
      refine J_aload_n h (i := 1) dX9_takes_20 rfl 1 rfl ?_
      refine J_iload_n h (i := 2) dX9_takes_21 rfl 2 rfl ?_
      refine J_iconst h (v := nI 1) dX9_takes_22 (by decide) ?_
      refine N_iadd h dX9_takes_23 ?_
      refine J_iload_n h (i := 3) dX9_takes_24 rfl 3 rfl ?_
      refine N_iadd h dX9_takes_25 ?_
      refine N_iald h 3 rfl (by decide) (by omega) dX9_takes_26 ?_
      refine N_iast h (ws' := [(q0, .inr (9, [.int (nI ro), .int (nI co), .int (tf at_), .ref q3, .ref q4, .int sn, .ref q6, .ref q7, .ref q8, .ref q9, .int ts, .int ra, .int rr, .int rw, .ref q14, .ref q15, .int rn, .ref q17, .ref q18, .ref q19, .int um, .int bs, .int bh, .ref q23, .ref q24, .ref q25, .int km])), (q3, .inl (cI, 48, .inl (upd t1 i (tf ((at_ + 1) + i))))), (q4, .inl (cI, 48, .inl m1)), (tq, .inl (cI, 776, .inl tf))]) 1 rfl (by decide) (by omega) dX9_takes_27 rfl ?_
      refine J_aload_n h (i := 0) dX9_takes_28 rfl 0 rfl ?_
      refine J_get h inX9 rfl 0 4 (by decide) rfl rfl nf_X9_13 dX9_takes_29 ?_
      refine J_iload_n h (i := 3) dX9_takes_32 rfl 3 rfl ?_
      refine J_aload_n h (i := 1) dX9_takes_33 rfl 1 rfl ?_
      refine J_iload_n h (i := 2) dX9_takes_34 rfl 2 rfl ?_
      refine J_bipush h (v := nI 49) dX9_takes_35 (by decide) ?_
      refine N_iadd h dX9_takes_37 ?_
      refine J_iload_n h (i := 3) dX9_takes_38 rfl 3 rfl ?_
      refine N_iadd h dX9_takes_39 ?_
      refine N_iald h 3 rfl (by decide) (by omega) dX9_takes_40 ?_
      refine N_iast h (ws' := [(q0, .inr (9, [.int (nI ro), .int (nI co), .int (tf at_), .ref q3, .ref q4, .int sn, .ref q6, .ref q7, .ref q8, .ref q9, .int ts, .int ra, .int rr, .int rw, .ref q14, .ref q15, .int rn, .ref q17, .ref q18, .ref q19, .int um, .int bs, .int bh, .ref q23, .ref q24, .ref q25, .int km])), (q3, .inl (cI, 48, .inl (upd t1 i (tf ((at_ + 1) + i))))), (q4, .inl (cI, 48, .inl (upd m1 i (tf ((at_ + 49) + i))))), (tq, .inl (cI, 776, .inl tf))]) 2 rfl (by decide) (by omega) dX9_takes_41 rfl ?_
      refine J_iinc h (v := nI (i + 1)) (lv' := [(3, .int (nI (i + 1))), (0, .ref q0), (1, .ref tq), (2, .int (nI at_))]) dX9_takes_42 3 rfl (inc_ok _ 1) (by decide) rfl ?_
      refine J_goto h 9 dX9_takes_45 (by decide) ?_
      refine J.loc [1, 2, 3, 0] (lv' := [(0, .ref q0), (1, .ref tq), (2, .int (nI at_)), (3, .int (nI (i + 1)))]) rfl ?_
      exact ih_9 (i + 1) (upd t1 i (tf ((at_ + 1) + i))) (upd m1 i (tf ((at_ + 49) + i))) (by first | exact hi |  assumption | omega | rfl) (by exact upd_extN h1 rfl) (by exact upd_extN h2 rfl) (by omega)
set_option maxRecDepth 100000 in
set_option maxHeartbeats 4000000 in
theorem w_X9_takes776 (X : Cx) {cI cE : ClassId} (h : Ok X cX9_takes RX9 4 cI cE 0 0 0) (q0 : Nat) (q3 : Nat) (q4 : Nat) (q6 : Nat) (q7 : Nat) (q8 : Nat) (q9 : Nat) (q14 : Nat) (q15 : Nat) (q17 : Nat) (q18 : Nat) (q19 : Nat) (q23 : Nat) (q24 : Nat) (q25 : Nat) (ro : Nat) (co : Nat) (sl : Int32) (sn : Int32) (ts : Int32) (ra : Int32) (rr : Int32) (rw : Int32) (rn : Int32) (um : Int32) (bs : Int32) (bh : Int32) (km : Int32) (th : Nat → Int32) (mo : Nat → Int32) (tq : Nat) (tf : Nat → Int32) (at_ : Nat) (hat : at_ + 97 ≤ 776) (hR : ∀ (u : Unit), ((True)) → RetV X cX9_takes 4 0 0 [(q0, .inr (9, [.int (nI ro), .int (nI co), .int (tf at_), .ref q3, .ref q4, .int sn, .ref q6, .ref q7, .ref q8, .ref q9, .int ts, .int ra, .int rr, .int rw, .ref q14, .ref q15, .int rn, .ref q17, .ref q18, .ref q19, .int um, .int bs, .int bh, .ref q23, .ref q24, .ref q25, .int km])), (q3, .inl (cI, 48, .inl (tkT at_ tf))), (q4, .inl (cI, 48, .inl (tkO at_ tf))), (tq, .inl (cI, 776, .inl tf))]) : J X 4 0 0 0 [(0, .ref q0), (1, .ref tq), (2, .int (nI at_))] [] [(q0, .inr (9, [.int (nI ro), .int (nI co), .int sl, .ref q3, .ref q4, .int sn, .ref q6, .ref q7, .ref q8, .ref q9, .int ts, .int ra, .int rr, .int rw, .ref q14, .ref q15, .int rn, .ref q17, .ref q18, .ref q19, .int um, .int bs, .int bh, .ref q23, .ref q24, .ref q25, .int km])), (q3, .inl (cI, 48, .inl th)), (q4, .inl (cI, 48, .inl mo)), (tq, .inl (cI, 776, .inl tf))] := by
  refine J_aload_n h (i := 0) dX9_takes_0 rfl 0 rfl ?_
  refine J_aload_n h (i := 1) dX9_takes_1 rfl 1 rfl ?_
  refine J_iload_n h (i := 2) dX9_takes_2 rfl 2 rfl ?_
  refine N_iald h 3 rfl (by decide) (by omega) dX9_takes_3 ?_
  refine J_put h (ws' := [(q0, .inr (9, [.int (nI ro), .int (nI co), .int (tf at_), .ref q3, .ref q4, .int sn, .ref q6, .ref q7, .ref q8, .ref q9, .int ts, .int ra, .int rr, .int rw, .ref q14, .ref q15, .int rn, .ref q17, .ref q18, .ref q19, .int um, .int bs, .int bh, .ref q23, .ref q24, .ref q25, .int km])), (q3, .inl (cI, 48, .inl th)), (q4, .inl (cI, 48, .inl mo)), (tq, .inl (cI, 776, .inl tf))]) inX9 tyX9 tyX9_ok nmX9 rfl 0 2 (by decide) rfl nf_X9_115 rfl rfl rfl rfl (Nat.le_of_ble_eq_true rfl) dX9_takes_4 rfl ?_
  refine J_iconst h (v := nI 0) dX9_takes_7 (by decide) ?_
  refine J_istore_n h (i := 3) (lv' := [(3, .int (nI 0)), (0, .ref q0), (1, .ref tq), (2, .int (nI at_))]) dX9_takes_8 rfl (by decide) rfl ?_
  refine J.loc [1, 2, 3, 0] (lv' := [(0, .ref q0), (1, .ref tq), (2, .int (nI at_)), (3, .int (nI 0))]) rfl ?_
  exact w_X9_takes776_9 X h q0 q3 q4 q6 q7 q8 q9 q14 q15 q17 q18 q19 q23 q24 q25 ro co sl sn ts ra rr rw rn um bs bh km th mo tq tf at_ hat hR  (48 - 0 + 1) 0 th mo (by first | assumption | omega | rfl) (by intro j hj; omega) (by intro j hj; omega) (by omega)
theorem c_X9_takes776 (l : Launch) (D : va_G) (cI cE : ClassId) (q0 : Nat) (q3 : Nat) (q4 : Nat) (q6 : Nat) (q7 : Nat) (q8 : Nat) (q9 : Nat) (q14 : Nat) (q15 : Nat) (q17 : Nat) (q18 : Nat) (q19 : Nat) (q23 : Nat) (q24 : Nat) (q25 : Nat) (ro : Nat) (co : Nat) (sl : Int32) (sn : Int32) (ts : Int32) (ra : Int32) (rr : Int32) (rw : Int32) (rn : Int32) (um : Int32) (bs : Int32) (bh : Int32) (km : Int32) (th : Nat → Int32) (mo : Nat → Int32) (tq : Nat) (tf : Nat → Int32) (at_ : Nat) (hat : at_ + 97 ≤ 776) : Cv l D cI cE yX9_takes cX9_takes 4 none 0 0 0 [.ref q0, .ref tq, .int (nI at_)] [(q0, .inr (9, [.int (nI ro), .int (nI co), .int sl, .ref q3, .ref q4, .int sn, .ref q6, .ref q7, .ref q8, .ref q9, .int ts, .int ra, .int rr, .int rw, .ref q14, .ref q15, .int rn, .ref q17, .ref q18, .ref q19, .int um, .int bs, .int bh, .ref q23, .ref q24, .ref q25, .int km])), (q3, .inl (cI, 48, .inl th)), (q4, .inl (cI, 48, .inl mo)), (tq, .inl (cI, 776, .inl tf))] (fun (u : Unit) => ((True))) (fun (u : Unit) => ([(q0, .inr (9, [.int (nI ro), .int (nI co), .int (tf at_), .ref q3, .ref q4, .int sn, .ref q6, .ref q7, .ref q8, .ref q9, .int ts, .int ra, .int rr, .int rw, .ref q14, .ref q15, .int rn, .ref q17, .ref q18, .ref q19, .int um, .int bs, .int bh, .ref q23, .ref q24, .ref q25, .int km])), (q3, .inl (cI, 48, .inl (tkT at_ tf))), (q4, .inl (cI, 48, .inl (tkO at_ tf))), (tq, .inl (cI, 776, .inl tf))] : va_W)) :=
  Cv.of (by decide) (Nat.le_of_ble_eq_true rfl) (fun X h hR _ => w_X9_takes776 X h q0 q3 q4 q6 q7 q8 q9 q14 q15 q17 q18 q19 q23 q24 q25 ro co sl sn ts ra rr rw rn um bs bh km th mo tq tf at_ hat hR)
theorem yv_X9_takes : YV yX9_takes cX9_takes 4 none 2 := ⟨no_X9_takes, nv_X9_takes, ni_X9, nk_X9_takes, by decide +kernel⟩
set_option maxRecDepth 100000 in
set_option maxHeartbeats 4000000 in
theorem w_X9_lays97_9 (X : Cx) {cI cE : ClassId} (h : Ok X cX9_lays RX9 4 cI cE 0 0 0) (q0 : Nat) (q3 : Nat) (q4 : Nat) (q6 : Nat) (q7 : Nat) (q8 : Nat) (q9 : Nat) (q14 : Nat) (q15 : Nat) (q17 : Nat) (q18 : Nat) (q19 : Nat) (q23 : Nat) (q24 : Nat) (q25 : Nat) (ro : Nat) (co : Nat) (sl : Int32) (sn : Int32) (ts : Int32) (ra : Int32) (rr : Int32) (rw : Int32) (rn : Int32) (um : Int32) (bs : Int32) (bh : Int32) (km : Int32) (th : Nat → Int32) (mo : Nat → Int32) (tq : Nat) (tf : Nat → Int32) (at_ : Nat) (hat : at_ + 97 ≤ 97) (hR : ∀ (u : Unit), ((True)) → RetV X cX9_lays 4 0 0 [(q0, .inr (9, [.int (nI ro), .int (nI co), .int sl, .ref q3, .ref q4, .int sn, .ref q6, .ref q7, .ref q8, .ref q9, .int ts, .int ra, .int rr, .int rw, .ref q14, .ref q15, .int rn, .ref q17, .ref q18, .ref q19, .int um, .int bs, .int bh, .ref q23, .ref q24, .ref q25, .int km])), (q3, .inl (cI, 48, .inl th)), (q4, .inl (cI, 48, .inl mo)), (tq, .inl (cI, 97, .inl (noteA at_ sl th mo tf)))]) : ∀ (n_9 : Nat) (i : Nat) (t1 : Nat → Int32), (i ≤ 48) → (t1 = noteI at_ i sl th mo tf) → 48 - i < n_9 → J X 4 0 0 9 [(0, .ref q0), (1, .ref tq), (2, .int (nI at_)), (3, .int (nI i))] [] [(q0, .inr (9, [.int (nI ro), .int (nI co), .int sl, .ref q3, .ref q4, .int sn, .ref q6, .ref q7, .ref q8, .ref q9, .int ts, .int ra, .int rr, .int rw, .ref q14, .ref q15, .int rn, .ref q17, .ref q18, .ref q19, .int um, .int bs, .int bh, .ref q23, .ref q24, .ref q25, .int km])), (q3, .inl (cI, 48, .inl th)), (q4, .inl (cI, 48, .inl mo)), (tq, .inl (cI, 97, .inl t1))] := by
  intro n_9
  induction n_9 with
  | zero => intro i t1 hi ht hn_; exact absurd hn_ (Nat.not_lt_zero _)
  | succ n_9 ih_9 =>
    intro i t1 hi ht hn_9
    refine J_iload_n h (i := 3) dX9_lays_9 rfl 3 rfl ?_
    refine J_bipush h (v := nI 48) dX9_lays_10 (by decide) ?_
    refine N_icmp_ge h 48 dX9_lays_12 (by decide) (by omega) (by omega) (fun c_12 => ?_) (fun c_12 => ?_)
    · skip
      refine J_arr (g := (noteA at_ sl th mo tf)) (ws' := [(q0, .inr (9, [.int (nI ro), .int (nI co), .int sl, .ref q3, .ref q4, .int sn, .ref q6, .ref q7, .ref q8, .ref q9, .int ts, .int ra, .int rr, .int rw, .ref q14, .ref q15, .int rn, .ref q17, .ref q18, .ref q19, .int um, .int bs, .int bh, .ref q23, .ref q24, .ref q25, .int km])), (q3, .inl (cI, 48, .inl th)), (q4, .inl (cI, 48, .inl mo)), (tq, .inl (cI, 97, .inl (noteA at_ sl th mo tf)))]) 3 rfl (by intro j hj; rw [ht, show i = 48 by omega, noteI_48]) rfl ?_
      exact hR () (trivial) 48 _ dX9_lays_48
    · skip
      refine J_aload_n h (i := 1) dX9_lays_15 rfl 1 rfl ?_
      refine J_iload_n h (i := 2) dX9_lays_16 rfl 2 rfl ?_
      refine J_iconst h (v := nI 1) dX9_lays_17 (by decide) ?_
      refine N_iadd h dX9_lays_18 ?_
      refine J_iload_n h (i := 3) dX9_lays_19 rfl 3 rfl ?_
      refine N_iadd h dX9_lays_20 ?_
      refine J_aload_n h (i := 0) dX9_lays_21 rfl 0 rfl ?_
      refine J_get h inX9 rfl 0 3 (by decide) rfl rfl nf_X9_7 dX9_lays_22 ?_
      refine J_iload_n h (i := 3) dX9_lays_25 rfl 3 rfl ?_
      refine N_iald h 1 rfl (by decide) (by omega) dX9_lays_26 ?_
      refine N_iast h (ws' := [(q0, .inr (9, [.int (nI ro), .int (nI co), .int sl, .ref q3, .ref q4, .int sn, .ref q6, .ref q7, .ref q8, .ref q9, .int ts, .int ra, .int rr, .int rw, .ref q14, .ref q15, .int rn, .ref q17, .ref q18, .ref q19, .int um, .int bs, .int bh, .ref q23, .ref q24, .ref q25, .int km])), (q3, .inl (cI, 48, .inl th)), (q4, .inl (cI, 48, .inl mo)), (tq, .inl (cI, 97, .inl (upd t1 ((at_ + 1) + i) (th i))))]) 3 rfl (by decide) (by omega) dX9_lays_27 rfl ?_
      refine J_aload_n h (i := 1) dX9_lays_28 rfl 1 rfl ?_
      refine J_iload_n h (i := 2) dX9_lays_29 rfl 2 rfl ?_
      refine J_bipush h (v := nI 49) dX9_lays_30 (by decide) ?_
      refine N_iadd h dX9_lays_32 ?_
      refine J_iload_n h (i := 3) dX9_lays_33 rfl 3 rfl ?_
      refine N_iadd h dX9_lays_34 ?_
      refine J_aload_n h (i := 0) dX9_lays_35 rfl 0 rfl ?_
      refine J_get h inX9 rfl 0 4 (by decide) rfl rfl nf_X9_13 dX9_lays_36 ?_
      refine J_iload_n h (i := 3) dX9_lays_39 rfl 3 rfl ?_
      refine N_iald h 2 rfl (by decide) (by omega) dX9_lays_40 ?_
      refine N_iast h (ws' := [(q0, .inr (9, [.int (nI ro), .int (nI co), .int sl, .ref q3, .ref q4, .int sn, .ref q6, .ref q7, .ref q8, .ref q9, .int ts, .int ra, .int rr, .int rw, .ref q14, .ref q15, .int rn, .ref q17, .ref q18, .ref q19, .int um, .int bs, .int bh, .ref q23, .ref q24, .ref q25, .int km])), (q3, .inl (cI, 48, .inl th)), (q4, .inl (cI, 48, .inl mo)), (tq, .inl (cI, 97, .inl (upd (upd t1 ((at_ + 1) + i) (th i)) ((at_ + 49) + i) (mo i))))]) 3 rfl (by decide) (by omega) dX9_lays_41 rfl ?_
      refine J_iinc h (v := nI (i + 1)) (lv' := [(3, .int (nI (i + 1))), (0, .ref q0), (1, .ref tq), (2, .int (nI at_))]) dX9_lays_42 3 rfl (inc_ok _ 1) (by decide) rfl ?_
      refine J_goto h 9 dX9_lays_45 (by decide) ?_
      refine J.loc [1, 2, 3, 0] (lv' := [(0, .ref q0), (1, .ref tq), (2, .int (nI at_)), (3, .int (nI (i + 1)))]) rfl ?_
      exact ih_9 (i + 1) (upd (upd t1 ((at_ + 1) + i) (th i)) ((at_ + 49) + i) (mo i)) (by first | exact hi |  assumption | omega | rfl) (by rw [ht]; exact noteI_s (by omega) _ _ _ _) (by omega)
set_option maxRecDepth 100000 in
set_option maxHeartbeats 4000000 in
theorem w_X9_lays97 (X : Cx) {cI cE : ClassId} (h : Ok X cX9_lays RX9 4 cI cE 0 0 0) (q0 : Nat) (q3 : Nat) (q4 : Nat) (q6 : Nat) (q7 : Nat) (q8 : Nat) (q9 : Nat) (q14 : Nat) (q15 : Nat) (q17 : Nat) (q18 : Nat) (q19 : Nat) (q23 : Nat) (q24 : Nat) (q25 : Nat) (ro : Nat) (co : Nat) (sl : Int32) (sn : Int32) (ts : Int32) (ra : Int32) (rr : Int32) (rw : Int32) (rn : Int32) (um : Int32) (bs : Int32) (bh : Int32) (km : Int32) (th : Nat → Int32) (mo : Nat → Int32) (tq : Nat) (tf : Nat → Int32) (at_ : Nat) (hat : at_ + 97 ≤ 97) (hR : ∀ (u : Unit), ((True)) → RetV X cX9_lays 4 0 0 [(q0, .inr (9, [.int (nI ro), .int (nI co), .int sl, .ref q3, .ref q4, .int sn, .ref q6, .ref q7, .ref q8, .ref q9, .int ts, .int ra, .int rr, .int rw, .ref q14, .ref q15, .int rn, .ref q17, .ref q18, .ref q19, .int um, .int bs, .int bh, .ref q23, .ref q24, .ref q25, .int km])), (q3, .inl (cI, 48, .inl th)), (q4, .inl (cI, 48, .inl mo)), (tq, .inl (cI, 97, .inl (noteA at_ sl th mo tf)))]) : J X 4 0 0 0 [(0, .ref q0), (1, .ref tq), (2, .int (nI at_))] [] [(q0, .inr (9, [.int (nI ro), .int (nI co), .int sl, .ref q3, .ref q4, .int sn, .ref q6, .ref q7, .ref q8, .ref q9, .int ts, .int ra, .int rr, .int rw, .ref q14, .ref q15, .int rn, .ref q17, .ref q18, .ref q19, .int um, .int bs, .int bh, .ref q23, .ref q24, .ref q25, .int km])), (q3, .inl (cI, 48, .inl th)), (q4, .inl (cI, 48, .inl mo)), (tq, .inl (cI, 97, .inl tf))] := by
  refine J_aload_n h (i := 1) dX9_lays_0 rfl 1 rfl ?_
  refine J_iload_n h (i := 2) dX9_lays_1 rfl 2 rfl ?_
  refine J_aload_n h (i := 0) dX9_lays_2 rfl 0 rfl ?_
  refine J_get h inX9 rfl 0 2 (by decide) rfl rfl nf_X9_115 dX9_lays_3 ?_
  refine N_iast h (ws' := [(q0, .inr (9, [.int (nI ro), .int (nI co), .int sl, .ref q3, .ref q4, .int sn, .ref q6, .ref q7, .ref q8, .ref q9, .int ts, .int ra, .int rr, .int rw, .ref q14, .ref q15, .int rn, .ref q17, .ref q18, .ref q19, .int um, .int bs, .int bh, .ref q23, .ref q24, .ref q25, .int km])), (q3, .inl (cI, 48, .inl th)), (q4, .inl (cI, 48, .inl mo)), (tq, .inl (cI, 97, .inl (upd tf at_ sl)))]) 3 rfl (by decide) (by omega) dX9_lays_6 rfl ?_
  refine J_iconst h (v := nI 0) dX9_lays_7 (by decide) ?_
  refine J_istore_n h (i := 3) (lv' := [(3, .int (nI 0)), (0, .ref q0), (1, .ref tq), (2, .int (nI at_))]) dX9_lays_8 rfl (by decide) rfl ?_
  refine J.loc [1, 2, 3, 0] (lv' := [(0, .ref q0), (1, .ref tq), (2, .int (nI at_)), (3, .int (nI 0))]) rfl ?_
  exact w_X9_lays97_9 X h q0 q3 q4 q6 q7 q8 q9 q14 q15 q17 q18 q19 q23 q24 q25 ro co sl sn ts ra rr rw rn um bs bh km th mo tq tf at_ hat hR  (48 - 0 + 1) 0 (upd tf at_ sl) (by first | assumption | omega | rfl) (by exact noteI_0 _ _ _ _ _) (by omega)
theorem c_X9_lays97 (l : Launch) (D : va_G) (cI cE : ClassId) (q0 : Nat) (q3 : Nat) (q4 : Nat) (q6 : Nat) (q7 : Nat) (q8 : Nat) (q9 : Nat) (q14 : Nat) (q15 : Nat) (q17 : Nat) (q18 : Nat) (q19 : Nat) (q23 : Nat) (q24 : Nat) (q25 : Nat) (ro : Nat) (co : Nat) (sl : Int32) (sn : Int32) (ts : Int32) (ra : Int32) (rr : Int32) (rw : Int32) (rn : Int32) (um : Int32) (bs : Int32) (bh : Int32) (km : Int32) (th : Nat → Int32) (mo : Nat → Int32) (tq : Nat) (tf : Nat → Int32) (at_ : Nat) (hat : at_ + 97 ≤ 97) : Cv l D cI cE yX9_lays cX9_lays 4 none 0 0 0 [.ref q0, .ref tq, .int (nI at_)] [(q0, .inr (9, [.int (nI ro), .int (nI co), .int sl, .ref q3, .ref q4, .int sn, .ref q6, .ref q7, .ref q8, .ref q9, .int ts, .int ra, .int rr, .int rw, .ref q14, .ref q15, .int rn, .ref q17, .ref q18, .ref q19, .int um, .int bs, .int bh, .ref q23, .ref q24, .ref q25, .int km])), (q3, .inl (cI, 48, .inl th)), (q4, .inl (cI, 48, .inl mo)), (tq, .inl (cI, 97, .inl tf))] (fun (u : Unit) => ((True))) (fun (u : Unit) => ([(q0, .inr (9, [.int (nI ro), .int (nI co), .int sl, .ref q3, .ref q4, .int sn, .ref q6, .ref q7, .ref q8, .ref q9, .int ts, .int ra, .int rr, .int rw, .ref q14, .ref q15, .int rn, .ref q17, .ref q18, .ref q19, .int um, .int bs, .int bh, .ref q23, .ref q24, .ref q25, .int km])), (q3, .inl (cI, 48, .inl th)), (q4, .inl (cI, 48, .inl mo)), (tq, .inl (cI, 97, .inl (noteA at_ sl th mo tf)))] : va_W)) :=
  Cv.of (by decide) (Nat.le_of_ble_eq_true rfl) (fun X h hR _ => w_X9_lays97 X h q0 q3 q4 q6 q7 q8 q9 q14 q15 q17 q18 q19 q23 q24 q25 ro co sl sn ts ra rr rw rn um bs bh km th mo tq tf at_ hat hR)
set_option maxRecDepth 100000 in
set_option maxHeartbeats 4000000 in
theorem w_X9_takes97_9 (X : Cx) {cI cE : ClassId} (h : Ok X cX9_takes RX9 4 cI cE 0 0 0) (q0 : Nat) (q3 : Nat) (q4 : Nat) (q6 : Nat) (q7 : Nat) (q8 : Nat) (q9 : Nat) (q14 : Nat) (q15 : Nat) (q17 : Nat) (q18 : Nat) (q19 : Nat) (q23 : Nat) (q24 : Nat) (q25 : Nat) (ro : Nat) (co : Nat) (sl : Int32) (sn : Int32) (ts : Int32) (ra : Int32) (rr : Int32) (rw : Int32) (rn : Int32) (um : Int32) (bs : Int32) (bh : Int32) (km : Int32) (th : Nat → Int32) (mo : Nat → Int32) (tq : Nat) (tf : Nat → Int32) (at_ : Nat) (hat : at_ + 97 ≤ 97) (hR : ∀ (u : Unit), ((True)) → RetV X cX9_takes 4 0 0 [(q0, .inr (9, [.int (nI ro), .int (nI co), .int (tf at_), .ref q3, .ref q4, .int sn, .ref q6, .ref q7, .ref q8, .ref q9, .int ts, .int ra, .int rr, .int rw, .ref q14, .ref q15, .int rn, .ref q17, .ref q18, .ref q19, .int um, .int bs, .int bh, .ref q23, .ref q24, .ref q25, .int km])), (q3, .inl (cI, 48, .inl (tkT at_ tf))), (q4, .inl (cI, 48, .inl (tkO at_ tf))), (tq, .inl (cI, 97, .inl tf))]) : ∀ (n_9 : Nat) (i : Nat) (t1 : Nat → Int32) (m1 : Nat → Int32), (i ≤ 48) → (∀ j, j < i → t1 j = tkT at_ tf j) → (∀ j, j < i → m1 j = tkO at_ tf j) → 48 - i < n_9 → J X 4 0 0 9 [(0, .ref q0), (1, .ref tq), (2, .int (nI at_)), (3, .int (nI i))] [] [(q0, .inr (9, [.int (nI ro), .int (nI co), .int (tf at_), .ref q3, .ref q4, .int sn, .ref q6, .ref q7, .ref q8, .ref q9, .int ts, .int ra, .int rr, .int rw, .ref q14, .ref q15, .int rn, .ref q17, .ref q18, .ref q19, .int um, .int bs, .int bh, .ref q23, .ref q24, .ref q25, .int km])), (q3, .inl (cI, 48, .inl t1)), (q4, .inl (cI, 48, .inl m1)), (tq, .inl (cI, 97, .inl tf))] := by
  intro n_9
  induction n_9 with
  | zero => intro i t1 m1 hi h1 h2 hn_; exact absurd hn_ (Nat.not_lt_zero _)
  | succ n_9 ih_9 =>
    intro i t1 m1 hi h1 h2 hn_9
    refine J_iload_n h (i := 3) dX9_takes_9 rfl 3 rfl ?_
    refine J_bipush h (v := nI 48) dX9_takes_10 (by decide) ?_
    refine N_icmp_ge h 48 dX9_takes_12 (by decide) (by omega) (by omega) (fun c_12 => ?_) (fun c_12 => ?_)
    · skip
      refine J_arr (g := (tkT at_ tf)) (ws' := [(q0, .inr (9, [.int (nI ro), .int (nI co), .int (tf at_), .ref q3, .ref q4, .int sn, .ref q6, .ref q7, .ref q8, .ref q9, .int ts, .int ra, .int rr, .int rw, .ref q14, .ref q15, .int rn, .ref q17, .ref q18, .ref q19, .int um, .int bs, .int bh, .ref q23, .ref q24, .ref q25, .int km])), (q3, .inl (cI, 48, .inl (tkT at_ tf))), (q4, .inl (cI, 48, .inl m1)), (tq, .inl (cI, 97, .inl tf))]) 1 rfl (by exact fun j hj => h1 j (by omega)) rfl ?_
      refine J_arr (g := (tkO at_ tf)) (ws' := [(q0, .inr (9, [.int (nI ro), .int (nI co), .int (tf at_), .ref q3, .ref q4, .int sn, .ref q6, .ref q7, .ref q8, .ref q9, .int ts, .int ra, .int rr, .int rw, .ref q14, .ref q15, .int rn, .ref q17, .ref q18, .ref q19, .int um, .int bs, .int bh, .ref q23, .ref q24, .ref q25, .int km])), (q3, .inl (cI, 48, .inl (tkT at_ tf))), (q4, .inl (cI, 48, .inl (tkO at_ tf))), (tq, .inl (cI, 97, .inl tf))]) 2 rfl (by exact fun j hj => h2 j (by omega)) rfl ?_
      exact hR () (trivial) 48 _ dX9_takes_48
    · skip
      refine J_aload_n h (i := 0) dX9_takes_15 rfl 0 rfl ?_
      refine J_get h inX9 rfl 0 3 (by decide) rfl rfl nf_X9_7 dX9_takes_16 ?_
      refine J_iload_n h (i := 3) dX9_takes_19 rfl 3 rfl ?_
      refine J_aload_n h (i := 1) dX9_takes_20 rfl 1 rfl ?_
      refine J_iload_n h (i := 2) dX9_takes_21 rfl 2 rfl ?_
      refine J_iconst h (v := nI 1) dX9_takes_22 (by decide) ?_
      refine N_iadd h dX9_takes_23 ?_
      refine J_iload_n h (i := 3) dX9_takes_24 rfl 3 rfl ?_
      refine N_iadd h dX9_takes_25 ?_
      refine N_iald h 3 rfl (by decide) (by omega) dX9_takes_26 ?_
      refine N_iast h (ws' := [(q0, .inr (9, [.int (nI ro), .int (nI co), .int (tf at_), .ref q3, .ref q4, .int sn, .ref q6, .ref q7, .ref q8, .ref q9, .int ts, .int ra, .int rr, .int rw, .ref q14, .ref q15, .int rn, .ref q17, .ref q18, .ref q19, .int um, .int bs, .int bh, .ref q23, .ref q24, .ref q25, .int km])), (q3, .inl (cI, 48, .inl (upd t1 i (tf ((at_ + 1) + i))))), (q4, .inl (cI, 48, .inl m1)), (tq, .inl (cI, 97, .inl tf))]) 1 rfl (by decide) (by omega) dX9_takes_27 rfl ?_
      refine J_aload_n h (i := 0) dX9_takes_28 rfl 0 rfl ?_
      refine J_get h inX9 rfl 0 4 (by decide) rfl rfl nf_X9_13 dX9_takes_29 ?_
      refine J_iload_n h (i := 3) dX9_takes_32 rfl 3 rfl ?_
      refine J_aload_n h (i := 1) dX9_takes_33 rfl 1 rfl ?_
      refine J_iload_n h (i := 2) dX9_takes_34 rfl 2 rfl ?_
      refine J_bipush h (v := nI 49) dX9_takes_35 (by decide) ?_
      refine N_iadd h dX9_takes_37 ?_
      refine J_iload_n h (i := 3) dX9_takes_38 rfl 3 rfl ?_
      refine N_iadd h dX9_takes_39 ?_
      refine N_iald h 3 rfl (by decide) (by omega) dX9_takes_40 ?_
      refine N_iast h (ws' := [(q0, .inr (9, [.int (nI ro), .int (nI co), .int (tf at_), .ref q3, .ref q4, .int sn, .ref q6, .ref q7, .ref q8, .ref q9, .int ts, .int ra, .int rr, .int rw, .ref q14, .ref q15, .int rn, .ref q17, .ref q18, .ref q19, .int um, .int bs, .int bh, .ref q23, .ref q24, .ref q25, .int km])), (q3, .inl (cI, 48, .inl (upd t1 i (tf ((at_ + 1) + i))))), (q4, .inl (cI, 48, .inl (upd m1 i (tf ((at_ + 49) + i))))), (tq, .inl (cI, 97, .inl tf))]) 2 rfl (by decide) (by omega) dX9_takes_41 rfl ?_
      refine J_iinc h (v := nI (i + 1)) (lv' := [(3, .int (nI (i + 1))), (0, .ref q0), (1, .ref tq), (2, .int (nI at_))]) dX9_takes_42 3 rfl (inc_ok _ 1) (by decide) rfl ?_
      refine J_goto h 9 dX9_takes_45 (by decide) ?_
      refine J.loc [1, 2, 3, 0] (lv' := [(0, .ref q0), (1, .ref tq), (2, .int (nI at_)), (3, .int (nI (i + 1)))]) rfl ?_
      exact ih_9 (i + 1) (upd t1 i (tf ((at_ + 1) + i))) (upd m1 i (tf ((at_ + 49) + i))) (by first | exact hi |  assumption | omega | rfl) (by exact upd_extN h1 rfl) (by exact upd_extN h2 rfl) (by omega)
set_option maxRecDepth 100000 in
set_option maxHeartbeats 4000000 in
theorem w_X9_takes97 (X : Cx) {cI cE : ClassId} (h : Ok X cX9_takes RX9 4 cI cE 0 0 0) (q0 : Nat) (q3 : Nat) (q4 : Nat) (q6 : Nat) (q7 : Nat) (q8 : Nat) (q9 : Nat) (q14 : Nat) (q15 : Nat) (q17 : Nat) (q18 : Nat) (q19 : Nat) (q23 : Nat) (q24 : Nat) (q25 : Nat) (ro : Nat) (co : Nat) (sl : Int32) (sn : Int32) (ts : Int32) (ra : Int32) (rr : Int32) (rw : Int32) (rn : Int32) (um : Int32) (bs : Int32) (bh : Int32) (km : Int32) (th : Nat → Int32) (mo : Nat → Int32) (tq : Nat) (tf : Nat → Int32) (at_ : Nat) (hat : at_ + 97 ≤ 97) (hR : ∀ (u : Unit), ((True)) → RetV X cX9_takes 4 0 0 [(q0, .inr (9, [.int (nI ro), .int (nI co), .int (tf at_), .ref q3, .ref q4, .int sn, .ref q6, .ref q7, .ref q8, .ref q9, .int ts, .int ra, .int rr, .int rw, .ref q14, .ref q15, .int rn, .ref q17, .ref q18, .ref q19, .int um, .int bs, .int bh, .ref q23, .ref q24, .ref q25, .int km])), (q3, .inl (cI, 48, .inl (tkT at_ tf))), (q4, .inl (cI, 48, .inl (tkO at_ tf))), (tq, .inl (cI, 97, .inl tf))]) : J X 4 0 0 0 [(0, .ref q0), (1, .ref tq), (2, .int (nI at_))] [] [(q0, .inr (9, [.int (nI ro), .int (nI co), .int sl, .ref q3, .ref q4, .int sn, .ref q6, .ref q7, .ref q8, .ref q9, .int ts, .int ra, .int rr, .int rw, .ref q14, .ref q15, .int rn, .ref q17, .ref q18, .ref q19, .int um, .int bs, .int bh, .ref q23, .ref q24, .ref q25, .int km])), (q3, .inl (cI, 48, .inl th)), (q4, .inl (cI, 48, .inl mo)), (tq, .inl (cI, 97, .inl tf))] := by
  refine J_aload_n h (i := 0) dX9_takes_0 rfl 0 rfl ?_
  refine J_aload_n h (i := 1) dX9_takes_1 rfl 1 rfl ?_
  refine J_iload_n h (i := 2) dX9_takes_2 rfl 2 rfl ?_
  refine N_iald h 3 rfl (by decide) (by omega) dX9_takes_3 ?_
  refine J_put h (ws' := [(q0, .inr (9, [.int (nI ro), .int (nI co), .int (tf at_), .ref q3, .ref q4, .int sn, .ref q6, .ref q7, .ref q8, .ref q9, .int ts, .int ra, .int rr, .int rw, .ref q14, .ref q15, .int rn, .ref q17, .ref q18, .ref q19, .int um, .int bs, .int bh, .ref q23, .ref q24, .ref q25, .int km])), (q3, .inl (cI, 48, .inl th)), (q4, .inl (cI, 48, .inl mo)), (tq, .inl (cI, 97, .inl tf))]) inX9 tyX9 tyX9_ok nmX9 rfl 0 2 (by decide) rfl nf_X9_115 rfl rfl rfl rfl (Nat.le_of_ble_eq_true rfl) dX9_takes_4 rfl ?_
  refine J_iconst h (v := nI 0) dX9_takes_7 (by decide) ?_
  refine J_istore_n h (i := 3) (lv' := [(3, .int (nI 0)), (0, .ref q0), (1, .ref tq), (2, .int (nI at_))]) dX9_takes_8 rfl (by decide) rfl ?_
  refine J.loc [1, 2, 3, 0] (lv' := [(0, .ref q0), (1, .ref tq), (2, .int (nI at_)), (3, .int (nI 0))]) rfl ?_
  exact w_X9_takes97_9 X h q0 q3 q4 q6 q7 q8 q9 q14 q15 q17 q18 q19 q23 q24 q25 ro co sl sn ts ra rr rw rn um bs bh km th mo tq tf at_ hat hR  (48 - 0 + 1) 0 th mo (by first | assumption | omega | rfl) (by intro j hj; omega) (by intro j hj; omega) (by omega)
theorem c_X9_takes97 (l : Launch) (D : va_G) (cI cE : ClassId) (q0 : Nat) (q3 : Nat) (q4 : Nat) (q6 : Nat) (q7 : Nat) (q8 : Nat) (q9 : Nat) (q14 : Nat) (q15 : Nat) (q17 : Nat) (q18 : Nat) (q19 : Nat) (q23 : Nat) (q24 : Nat) (q25 : Nat) (ro : Nat) (co : Nat) (sl : Int32) (sn : Int32) (ts : Int32) (ra : Int32) (rr : Int32) (rw : Int32) (rn : Int32) (um : Int32) (bs : Int32) (bh : Int32) (km : Int32) (th : Nat → Int32) (mo : Nat → Int32) (tq : Nat) (tf : Nat → Int32) (at_ : Nat) (hat : at_ + 97 ≤ 97) : Cv l D cI cE yX9_takes cX9_takes 4 none 0 0 0 [.ref q0, .ref tq, .int (nI at_)] [(q0, .inr (9, [.int (nI ro), .int (nI co), .int sl, .ref q3, .ref q4, .int sn, .ref q6, .ref q7, .ref q8, .ref q9, .int ts, .int ra, .int rr, .int rw, .ref q14, .ref q15, .int rn, .ref q17, .ref q18, .ref q19, .int um, .int bs, .int bh, .ref q23, .ref q24, .ref q25, .int km])), (q3, .inl (cI, 48, .inl th)), (q4, .inl (cI, 48, .inl mo)), (tq, .inl (cI, 97, .inl tf))] (fun (u : Unit) => ((True))) (fun (u : Unit) => ([(q0, .inr (9, [.int (nI ro), .int (nI co), .int (tf at_), .ref q3, .ref q4, .int sn, .ref q6, .ref q7, .ref q8, .ref q9, .int ts, .int ra, .int rr, .int rw, .ref q14, .ref q15, .int rn, .ref q17, .ref q18, .ref q19, .int um, .int bs, .int bh, .ref q23, .ref q24, .ref q25, .int km])), (q3, .inl (cI, 48, .inl (tkT at_ tf))), (q4, .inl (cI, 48, .inl (tkO at_ tf))), (tq, .inl (cI, 97, .inl tf))] : va_W)) :=
  Cv.of (by decide) (Nat.le_of_ble_eq_true rfl) (fun X h hR _ => w_X9_takes97 X h q0 q3 q4 q6 q7 q8 q9 q14 q15 q17 q18 q19 q23 q24 q25 ro co sl sn ts ra rr rw rn um bs bh km th mo tq tf at_ hat hR)
set_option maxRecDepth 100000 in
set_option maxHeartbeats 4000000 in
theorem w_X9_lays194_9 (X : Cx) {cI cE : ClassId} (h : Ok X cX9_lays RX9 4 cI cE 0 0 0) (q0 : Nat) (q3 : Nat) (q4 : Nat) (q6 : Nat) (q7 : Nat) (q8 : Nat) (q9 : Nat) (q14 : Nat) (q15 : Nat) (q17 : Nat) (q18 : Nat) (q19 : Nat) (q23 : Nat) (q24 : Nat) (q25 : Nat) (ro : Nat) (co : Nat) (sl : Int32) (sn : Int32) (ts : Int32) (ra : Int32) (rr : Int32) (rw : Int32) (rn : Int32) (um : Int32) (bs : Int32) (bh : Int32) (km : Int32) (th : Nat → Int32) (mo : Nat → Int32) (tq : Nat) (tf : Nat → Int32) (at_ : Nat) (hat : at_ + 97 ≤ 194) (hR : ∀ (u : Unit), ((True)) → RetV X cX9_lays 4 0 0 [(q0, .inr (9, [.int (nI ro), .int (nI co), .int sl, .ref q3, .ref q4, .int sn, .ref q6, .ref q7, .ref q8, .ref q9, .int ts, .int ra, .int rr, .int rw, .ref q14, .ref q15, .int rn, .ref q17, .ref q18, .ref q19, .int um, .int bs, .int bh, .ref q23, .ref q24, .ref q25, .int km])), (q3, .inl (cI, 48, .inl th)), (q4, .inl (cI, 48, .inl mo)), (tq, .inl (cI, 194, .inl (noteA at_ sl th mo tf)))]) : ∀ (n_9 : Nat) (i : Nat) (t1 : Nat → Int32), (i ≤ 48) → (t1 = noteI at_ i sl th mo tf) → 48 - i < n_9 → J X 4 0 0 9 [(0, .ref q0), (1, .ref tq), (2, .int (nI at_)), (3, .int (nI i))] [] [(q0, .inr (9, [.int (nI ro), .int (nI co), .int sl, .ref q3, .ref q4, .int sn, .ref q6, .ref q7, .ref q8, .ref q9, .int ts, .int ra, .int rr, .int rw, .ref q14, .ref q15, .int rn, .ref q17, .ref q18, .ref q19, .int um, .int bs, .int bh, .ref q23, .ref q24, .ref q25, .int km])), (q3, .inl (cI, 48, .inl th)), (q4, .inl (cI, 48, .inl mo)), (tq, .inl (cI, 194, .inl t1))] := by
  intro n_9
  induction n_9 with
  | zero => intro i t1 hi ht hn_; exact absurd hn_ (Nat.not_lt_zero _)
  | succ n_9 ih_9 =>
    intro i t1 hi ht hn_9
    refine J_iload_n h (i := 3) dX9_lays_9 rfl 3 rfl ?_
    refine J_bipush h (v := nI 48) dX9_lays_10 (by decide) ?_
    refine N_icmp_ge h 48 dX9_lays_12 (by decide) (by omega) (by omega) (fun c_12 => ?_) (fun c_12 => ?_)
    · skip
      refine J_arr (g := (noteA at_ sl th mo tf)) (ws' := [(q0, .inr (9, [.int (nI ro), .int (nI co), .int sl, .ref q3, .ref q4, .int sn, .ref q6, .ref q7, .ref q8, .ref q9, .int ts, .int ra, .int rr, .int rw, .ref q14, .ref q15, .int rn, .ref q17, .ref q18, .ref q19, .int um, .int bs, .int bh, .ref q23, .ref q24, .ref q25, .int km])), (q3, .inl (cI, 48, .inl th)), (q4, .inl (cI, 48, .inl mo)), (tq, .inl (cI, 194, .inl (noteA at_ sl th mo tf)))]) 3 rfl (by intro j hj; rw [ht, show i = 48 by omega, noteI_48]) rfl ?_
      exact hR () (trivial) 48 _ dX9_lays_48
    · skip
      refine J_aload_n h (i := 1) dX9_lays_15 rfl 1 rfl ?_
      refine J_iload_n h (i := 2) dX9_lays_16 rfl 2 rfl ?_
      refine J_iconst h (v := nI 1) dX9_lays_17 (by decide) ?_
      refine N_iadd h dX9_lays_18 ?_
      refine J_iload_n h (i := 3) dX9_lays_19 rfl 3 rfl ?_
      refine N_iadd h dX9_lays_20 ?_
      refine J_aload_n h (i := 0) dX9_lays_21 rfl 0 rfl ?_
      refine J_get h inX9 rfl 0 3 (by decide) rfl rfl nf_X9_7 dX9_lays_22 ?_
      refine J_iload_n h (i := 3) dX9_lays_25 rfl 3 rfl ?_
      refine N_iald h 1 rfl (by decide) (by omega) dX9_lays_26 ?_
      refine N_iast h (ws' := [(q0, .inr (9, [.int (nI ro), .int (nI co), .int sl, .ref q3, .ref q4, .int sn, .ref q6, .ref q7, .ref q8, .ref q9, .int ts, .int ra, .int rr, .int rw, .ref q14, .ref q15, .int rn, .ref q17, .ref q18, .ref q19, .int um, .int bs, .int bh, .ref q23, .ref q24, .ref q25, .int km])), (q3, .inl (cI, 48, .inl th)), (q4, .inl (cI, 48, .inl mo)), (tq, .inl (cI, 194, .inl (upd t1 ((at_ + 1) + i) (th i))))]) 3 rfl (by decide) (by omega) dX9_lays_27 rfl ?_
      refine J_aload_n h (i := 1) dX9_lays_28 rfl 1 rfl ?_
      refine J_iload_n h (i := 2) dX9_lays_29 rfl 2 rfl ?_
      refine J_bipush h (v := nI 49) dX9_lays_30 (by decide) ?_
      refine N_iadd h dX9_lays_32 ?_
      refine J_iload_n h (i := 3) dX9_lays_33 rfl 3 rfl ?_
      refine N_iadd h dX9_lays_34 ?_
      refine J_aload_n h (i := 0) dX9_lays_35 rfl 0 rfl ?_
      refine J_get h inX9 rfl 0 4 (by decide) rfl rfl nf_X9_13 dX9_lays_36 ?_
      refine J_iload_n h (i := 3) dX9_lays_39 rfl 3 rfl ?_
      refine N_iald h 2 rfl (by decide) (by omega) dX9_lays_40 ?_
      refine N_iast h (ws' := [(q0, .inr (9, [.int (nI ro), .int (nI co), .int sl, .ref q3, .ref q4, .int sn, .ref q6, .ref q7, .ref q8, .ref q9, .int ts, .int ra, .int rr, .int rw, .ref q14, .ref q15, .int rn, .ref q17, .ref q18, .ref q19, .int um, .int bs, .int bh, .ref q23, .ref q24, .ref q25, .int km])), (q3, .inl (cI, 48, .inl th)), (q4, .inl (cI, 48, .inl mo)), (tq, .inl (cI, 194, .inl (upd (upd t1 ((at_ + 1) + i) (th i)) ((at_ + 49) + i) (mo i))))]) 3 rfl (by decide) (by omega) dX9_lays_41 rfl ?_
      refine J_iinc h (v := nI (i + 1)) (lv' := [(3, .int (nI (i + 1))), (0, .ref q0), (1, .ref tq), (2, .int (nI at_))]) dX9_lays_42 3 rfl (inc_ok _ 1) (by decide) rfl ?_
      refine J_goto h 9 dX9_lays_45 (by decide) ?_
      refine J.loc [1, 2, 3, 0] (lv' := [(0, .ref q0), (1, .ref tq), (2, .int (nI at_)), (3, .int (nI (i + 1)))]) rfl ?_
      exact ih_9 (i + 1) (upd (upd t1 ((at_ + 1) + i) (th i)) ((at_ + 49) + i) (mo i)) (by first | exact hi |  assumption | omega | rfl) (by rw [ht]; exact noteI_s (by omega) _ _ _ _) (by omega)
set_option maxRecDepth 100000 in
set_option maxHeartbeats 4000000 in
theorem w_X9_lays194 (X : Cx) {cI cE : ClassId} (h : Ok X cX9_lays RX9 4 cI cE 0 0 0) (q0 : Nat) (q3 : Nat) (q4 : Nat) (q6 : Nat) (q7 : Nat) (q8 : Nat) (q9 : Nat) (q14 : Nat) (q15 : Nat) (q17 : Nat) (q18 : Nat) (q19 : Nat) (q23 : Nat) (q24 : Nat) (q25 : Nat) (ro : Nat) (co : Nat) (sl : Int32) (sn : Int32) (ts : Int32) (ra : Int32) (rr : Int32) (rw : Int32) (rn : Int32) (um : Int32) (bs : Int32) (bh : Int32) (km : Int32) (th : Nat → Int32) (mo : Nat → Int32) (tq : Nat) (tf : Nat → Int32) (at_ : Nat) (hat : at_ + 97 ≤ 194) (hR : ∀ (u : Unit), ((True)) → RetV X cX9_lays 4 0 0 [(q0, .inr (9, [.int (nI ro), .int (nI co), .int sl, .ref q3, .ref q4, .int sn, .ref q6, .ref q7, .ref q8, .ref q9, .int ts, .int ra, .int rr, .int rw, .ref q14, .ref q15, .int rn, .ref q17, .ref q18, .ref q19, .int um, .int bs, .int bh, .ref q23, .ref q24, .ref q25, .int km])), (q3, .inl (cI, 48, .inl th)), (q4, .inl (cI, 48, .inl mo)), (tq, .inl (cI, 194, .inl (noteA at_ sl th mo tf)))]) : J X 4 0 0 0 [(0, .ref q0), (1, .ref tq), (2, .int (nI at_))] [] [(q0, .inr (9, [.int (nI ro), .int (nI co), .int sl, .ref q3, .ref q4, .int sn, .ref q6, .ref q7, .ref q8, .ref q9, .int ts, .int ra, .int rr, .int rw, .ref q14, .ref q15, .int rn, .ref q17, .ref q18, .ref q19, .int um, .int bs, .int bh, .ref q23, .ref q24, .ref q25, .int km])), (q3, .inl (cI, 48, .inl th)), (q4, .inl (cI, 48, .inl mo)), (tq, .inl (cI, 194, .inl tf))] := by
  refine J_aload_n h (i := 1) dX9_lays_0 rfl 1 rfl ?_
  refine J_iload_n h (i := 2) dX9_lays_1 rfl 2 rfl ?_
  refine J_aload_n h (i := 0) dX9_lays_2 rfl 0 rfl ?_
  refine J_get h inX9 rfl 0 2 (by decide) rfl rfl nf_X9_115 dX9_lays_3 ?_
  refine N_iast h (ws' := [(q0, .inr (9, [.int (nI ro), .int (nI co), .int sl, .ref q3, .ref q4, .int sn, .ref q6, .ref q7, .ref q8, .ref q9, .int ts, .int ra, .int rr, .int rw, .ref q14, .ref q15, .int rn, .ref q17, .ref q18, .ref q19, .int um, .int bs, .int bh, .ref q23, .ref q24, .ref q25, .int km])), (q3, .inl (cI, 48, .inl th)), (q4, .inl (cI, 48, .inl mo)), (tq, .inl (cI, 194, .inl (upd tf at_ sl)))]) 3 rfl (by decide) (by omega) dX9_lays_6 rfl ?_
  refine J_iconst h (v := nI 0) dX9_lays_7 (by decide) ?_
  refine J_istore_n h (i := 3) (lv' := [(3, .int (nI 0)), (0, .ref q0), (1, .ref tq), (2, .int (nI at_))]) dX9_lays_8 rfl (by decide) rfl ?_
  refine J.loc [1, 2, 3, 0] (lv' := [(0, .ref q0), (1, .ref tq), (2, .int (nI at_)), (3, .int (nI 0))]) rfl ?_
  exact w_X9_lays194_9 X h q0 q3 q4 q6 q7 q8 q9 q14 q15 q17 q18 q19 q23 q24 q25 ro co sl sn ts ra rr rw rn um bs bh km th mo tq tf at_ hat hR  (48 - 0 + 1) 0 (upd tf at_ sl) (by first | assumption | omega | rfl) (by exact noteI_0 _ _ _ _ _) (by omega)
theorem c_X9_lays194 (l : Launch) (D : va_G) (cI cE : ClassId) (q0 : Nat) (q3 : Nat) (q4 : Nat) (q6 : Nat) (q7 : Nat) (q8 : Nat) (q9 : Nat) (q14 : Nat) (q15 : Nat) (q17 : Nat) (q18 : Nat) (q19 : Nat) (q23 : Nat) (q24 : Nat) (q25 : Nat) (ro : Nat) (co : Nat) (sl : Int32) (sn : Int32) (ts : Int32) (ra : Int32) (rr : Int32) (rw : Int32) (rn : Int32) (um : Int32) (bs : Int32) (bh : Int32) (km : Int32) (th : Nat → Int32) (mo : Nat → Int32) (tq : Nat) (tf : Nat → Int32) (at_ : Nat) (hat : at_ + 97 ≤ 194) : Cv l D cI cE yX9_lays cX9_lays 4 none 0 0 0 [.ref q0, .ref tq, .int (nI at_)] [(q0, .inr (9, [.int (nI ro), .int (nI co), .int sl, .ref q3, .ref q4, .int sn, .ref q6, .ref q7, .ref q8, .ref q9, .int ts, .int ra, .int rr, .int rw, .ref q14, .ref q15, .int rn, .ref q17, .ref q18, .ref q19, .int um, .int bs, .int bh, .ref q23, .ref q24, .ref q25, .int km])), (q3, .inl (cI, 48, .inl th)), (q4, .inl (cI, 48, .inl mo)), (tq, .inl (cI, 194, .inl tf))] (fun (u : Unit) => ((True))) (fun (u : Unit) => ([(q0, .inr (9, [.int (nI ro), .int (nI co), .int sl, .ref q3, .ref q4, .int sn, .ref q6, .ref q7, .ref q8, .ref q9, .int ts, .int ra, .int rr, .int rw, .ref q14, .ref q15, .int rn, .ref q17, .ref q18, .ref q19, .int um, .int bs, .int bh, .ref q23, .ref q24, .ref q25, .int km])), (q3, .inl (cI, 48, .inl th)), (q4, .inl (cI, 48, .inl mo)), (tq, .inl (cI, 194, .inl (noteA at_ sl th mo tf)))] : va_W)) :=
  Cv.of (by decide) (Nat.le_of_ble_eq_true rfl) (fun X h hR _ => w_X9_lays194 X h q0 q3 q4 q6 q7 q8 q9 q14 q15 q17 q18 q19 q23 q24 q25 ro co sl sn ts ra rr rw rn um bs bh km th mo tq tf at_ hat hR)
set_option maxRecDepth 100000 in
set_option maxHeartbeats 4000000 in
theorem w_X9_takes194_9 (X : Cx) {cI cE : ClassId} (h : Ok X cX9_takes RX9 4 cI cE 0 0 0) (q0 : Nat) (q3 : Nat) (q4 : Nat) (q6 : Nat) (q7 : Nat) (q8 : Nat) (q9 : Nat) (q14 : Nat) (q15 : Nat) (q17 : Nat) (q18 : Nat) (q19 : Nat) (q23 : Nat) (q24 : Nat) (q25 : Nat) (ro : Nat) (co : Nat) (sl : Int32) (sn : Int32) (ts : Int32) (ra : Int32) (rr : Int32) (rw : Int32) (rn : Int32) (um : Int32) (bs : Int32) (bh : Int32) (km : Int32) (th : Nat → Int32) (mo : Nat → Int32) (tq : Nat) (tf : Nat → Int32) (at_ : Nat) (hat : at_ + 97 ≤ 194) (hR : ∀ (u : Unit), ((True)) → RetV X cX9_takes 4 0 0 [(q0, .inr (9, [.int (nI ro), .int (nI co), .int (tf at_), .ref q3, .ref q4, .int sn, .ref q6, .ref q7, .ref q8, .ref q9, .int ts, .int ra, .int rr, .int rw, .ref q14, .ref q15, .int rn, .ref q17, .ref q18, .ref q19, .int um, .int bs, .int bh, .ref q23, .ref q24, .ref q25, .int km])), (q3, .inl (cI, 48, .inl (tkT at_ tf))), (q4, .inl (cI, 48, .inl (tkO at_ tf))), (tq, .inl (cI, 194, .inl tf))]) : ∀ (n_9 : Nat) (i : Nat) (t1 : Nat → Int32) (m1 : Nat → Int32), (i ≤ 48) → (∀ j, j < i → t1 j = tkT at_ tf j) → (∀ j, j < i → m1 j = tkO at_ tf j) → 48 - i < n_9 → J X 4 0 0 9 [(0, .ref q0), (1, .ref tq), (2, .int (nI at_)), (3, .int (nI i))] [] [(q0, .inr (9, [.int (nI ro), .int (nI co), .int (tf at_), .ref q3, .ref q4, .int sn, .ref q6, .ref q7, .ref q8, .ref q9, .int ts, .int ra, .int rr, .int rw, .ref q14, .ref q15, .int rn, .ref q17, .ref q18, .ref q19, .int um, .int bs, .int bh, .ref q23, .ref q24, .ref q25, .int km])), (q3, .inl (cI, 48, .inl t1)), (q4, .inl (cI, 48, .inl m1)), (tq, .inl (cI, 194, .inl tf))] := by
  intro n_9
  induction n_9 with
  | zero => intro i t1 m1 hi h1 h2 hn_; exact absurd hn_ (Nat.not_lt_zero _)
  | succ n_9 ih_9 =>
    intro i t1 m1 hi h1 h2 hn_9
    refine J_iload_n h (i := 3) dX9_takes_9 rfl 3 rfl ?_
    refine J_bipush h (v := nI 48) dX9_takes_10 (by decide) ?_
    refine N_icmp_ge h 48 dX9_takes_12 (by decide) (by omega) (by omega) (fun c_12 => ?_) (fun c_12 => ?_)
    · skip
      refine J_arr (g := (tkT at_ tf)) (ws' := [(q0, .inr (9, [.int (nI ro), .int (nI co), .int (tf at_), .ref q3, .ref q4, .int sn, .ref q6, .ref q7, .ref q8, .ref q9, .int ts, .int ra, .int rr, .int rw, .ref q14, .ref q15, .int rn, .ref q17, .ref q18, .ref q19, .int um, .int bs, .int bh, .ref q23, .ref q24, .ref q25, .int km])), (q3, .inl (cI, 48, .inl (tkT at_ tf))), (q4, .inl (cI, 48, .inl m1)), (tq, .inl (cI, 194, .inl tf))]) 1 rfl (by exact fun j hj => h1 j (by omega)) rfl ?_
      refine J_arr (g := (tkO at_ tf)) (ws' := [(q0, .inr (9, [.int (nI ro), .int (nI co), .int (tf at_), .ref q3, .ref q4, .int sn, .ref q6, .ref q7, .ref q8, .ref q9, .int ts, .int ra, .int rr, .int rw, .ref q14, .ref q15, .int rn, .ref q17, .ref q18, .ref q19, .int um, .int bs, .int bh, .ref q23, .ref q24, .ref q25, .int km])), (q3, .inl (cI, 48, .inl (tkT at_ tf))), (q4, .inl (cI, 48, .inl (tkO at_ tf))), (tq, .inl (cI, 194, .inl tf))]) 2 rfl (by exact fun j hj => h2 j (by omega)) rfl ?_
      exact hR () (trivial) 48 _ dX9_takes_48
    · skip
      refine J_aload_n h (i := 0) dX9_takes_15 rfl 0 rfl ?_
      refine J_get h inX9 rfl 0 3 (by decide) rfl rfl nf_X9_7 dX9_takes_16 ?_
      refine J_iload_n h (i := 3) dX9_takes_19 rfl 3 rfl ?_
      refine J_aload_n h (i := 1) dX9_takes_20 rfl 1 rfl ?_
      refine J_iload_n h (i := 2) dX9_takes_21 rfl 2 rfl ?_
      refine J_iconst h (v := nI 1) dX9_takes_22 (by decide) ?_
      refine N_iadd h dX9_takes_23 ?_
      refine J_iload_n h (i := 3) dX9_takes_24 rfl 3 rfl ?_
      refine N_iadd h dX9_takes_25 ?_
      refine N_iald h 3 rfl (by decide) (by omega) dX9_takes_26 ?_
      refine N_iast h (ws' := [(q0, .inr (9, [.int (nI ro), .int (nI co), .int (tf at_), .ref q3, .ref q4, .int sn, .ref q6, .ref q7, .ref q8, .ref q9, .int ts, .int ra, .int rr, .int rw, .ref q14, .ref q15, .int rn, .ref q17, .ref q18, .ref q19, .int um, .int bs, .int bh, .ref q23, .ref q24, .ref q25, .int km])), (q3, .inl (cI, 48, .inl (upd t1 i (tf ((at_ + 1) + i))))), (q4, .inl (cI, 48, .inl m1)), (tq, .inl (cI, 194, .inl tf))]) 1 rfl (by decide) (by omega) dX9_takes_27 rfl ?_
      refine J_aload_n h (i := 0) dX9_takes_28 rfl 0 rfl ?_
      refine J_get h inX9 rfl 0 4 (by decide) rfl rfl nf_X9_13 dX9_takes_29 ?_
      refine J_iload_n h (i := 3) dX9_takes_32 rfl 3 rfl ?_
      refine J_aload_n h (i := 1) dX9_takes_33 rfl 1 rfl ?_
      refine J_iload_n h (i := 2) dX9_takes_34 rfl 2 rfl ?_
      refine J_bipush h (v := nI 49) dX9_takes_35 (by decide) ?_
      refine N_iadd h dX9_takes_37 ?_
      refine J_iload_n h (i := 3) dX9_takes_38 rfl 3 rfl ?_
      refine N_iadd h dX9_takes_39 ?_
      refine N_iald h 3 rfl (by decide) (by omega) dX9_takes_40 ?_
      refine N_iast h (ws' := [(q0, .inr (9, [.int (nI ro), .int (nI co), .int (tf at_), .ref q3, .ref q4, .int sn, .ref q6, .ref q7, .ref q8, .ref q9, .int ts, .int ra, .int rr, .int rw, .ref q14, .ref q15, .int rn, .ref q17, .ref q18, .ref q19, .int um, .int bs, .int bh, .ref q23, .ref q24, .ref q25, .int km])), (q3, .inl (cI, 48, .inl (upd t1 i (tf ((at_ + 1) + i))))), (q4, .inl (cI, 48, .inl (upd m1 i (tf ((at_ + 49) + i))))), (tq, .inl (cI, 194, .inl tf))]) 2 rfl (by decide) (by omega) dX9_takes_41 rfl ?_
      refine J_iinc h (v := nI (i + 1)) (lv' := [(3, .int (nI (i + 1))), (0, .ref q0), (1, .ref tq), (2, .int (nI at_))]) dX9_takes_42 3 rfl (inc_ok _ 1) (by decide) rfl ?_
      refine J_goto h 9 dX9_takes_45 (by decide) ?_
      refine J.loc [1, 2, 3, 0] (lv' := [(0, .ref q0), (1, .ref tq), (2, .int (nI at_)), (3, .int (nI (i + 1)))]) rfl ?_
      exact ih_9 (i + 1) (upd t1 i (tf ((at_ + 1) + i))) (upd m1 i (tf ((at_ + 49) + i))) (by first | exact hi |  assumption | omega | rfl) (by exact upd_extN h1 rfl) (by exact upd_extN h2 rfl) (by omega)
set_option maxRecDepth 100000 in
set_option maxHeartbeats 4000000 in
theorem w_X9_takes194 (X : Cx) {cI cE : ClassId} (h : Ok X cX9_takes RX9 4 cI cE 0 0 0) (q0 : Nat) (q3 : Nat) (q4 : Nat) (q6 : Nat) (q7 : Nat) (q8 : Nat) (q9 : Nat) (q14 : Nat) (q15 : Nat) (q17 : Nat) (q18 : Nat) (q19 : Nat) (q23 : Nat) (q24 : Nat) (q25 : Nat) (ro : Nat) (co : Nat) (sl : Int32) (sn : Int32) (ts : Int32) (ra : Int32) (rr : Int32) (rw : Int32) (rn : Int32) (um : Int32) (bs : Int32) (bh : Int32) (km : Int32) (th : Nat → Int32) (mo : Nat → Int32) (tq : Nat) (tf : Nat → Int32) (at_ : Nat) (hat : at_ + 97 ≤ 194) (hR : ∀ (u : Unit), ((True)) → RetV X cX9_takes 4 0 0 [(q0, .inr (9, [.int (nI ro), .int (nI co), .int (tf at_), .ref q3, .ref q4, .int sn, .ref q6, .ref q7, .ref q8, .ref q9, .int ts, .int ra, .int rr, .int rw, .ref q14, .ref q15, .int rn, .ref q17, .ref q18, .ref q19, .int um, .int bs, .int bh, .ref q23, .ref q24, .ref q25, .int km])), (q3, .inl (cI, 48, .inl (tkT at_ tf))), (q4, .inl (cI, 48, .inl (tkO at_ tf))), (tq, .inl (cI, 194, .inl tf))]) : J X 4 0 0 0 [(0, .ref q0), (1, .ref tq), (2, .int (nI at_))] [] [(q0, .inr (9, [.int (nI ro), .int (nI co), .int sl, .ref q3, .ref q4, .int sn, .ref q6, .ref q7, .ref q8, .ref q9, .int ts, .int ra, .int rr, .int rw, .ref q14, .ref q15, .int rn, .ref q17, .ref q18, .ref q19, .int um, .int bs, .int bh, .ref q23, .ref q24, .ref q25, .int km])), (q3, .inl (cI, 48, .inl th)), (q4, .inl (cI, 48, .inl mo)), (tq, .inl (cI, 194, .inl tf))] := by
  refine J_aload_n h (i := 0) dX9_takes_0 rfl 0 rfl ?_
  refine J_aload_n h (i := 1) dX9_takes_1 rfl 1 rfl ?_
  refine J_iload_n h (i := 2) dX9_takes_2 rfl 2 rfl ?_
  refine N_iald h 3 rfl (by decide) (by omega) dX9_takes_3 ?_
  refine J_put h (ws' := [(q0, .inr (9, [.int (nI ro), .int (nI co), .int (tf at_), .ref q3, .ref q4, .int sn, .ref q6, .ref q7, .ref q8, .ref q9, .int ts, .int ra, .int rr, .int rw, .ref q14, .ref q15, .int rn, .ref q17, .ref q18, .ref q19, .int um, .int bs, .int bh, .ref q23, .ref q24, .ref q25, .int km])), (q3, .inl (cI, 48, .inl th)), (q4, .inl (cI, 48, .inl mo)), (tq, .inl (cI, 194, .inl tf))]) inX9 tyX9 tyX9_ok nmX9 rfl 0 2 (by decide) rfl nf_X9_115 rfl rfl rfl rfl (Nat.le_of_ble_eq_true rfl) dX9_takes_4 rfl ?_
  refine J_iconst h (v := nI 0) dX9_takes_7 (by decide) ?_
  refine J_istore_n h (i := 3) (lv' := [(3, .int (nI 0)), (0, .ref q0), (1, .ref tq), (2, .int (nI at_))]) dX9_takes_8 rfl (by decide) rfl ?_
  refine J.loc [1, 2, 3, 0] (lv' := [(0, .ref q0), (1, .ref tq), (2, .int (nI at_)), (3, .int (nI 0))]) rfl ?_
  exact w_X9_takes194_9 X h q0 q3 q4 q6 q7 q8 q9 q14 q15 q17 q18 q19 q23 q24 q25 ro co sl sn ts ra rr rw rn um bs bh km th mo tq tf at_ hat hR  (48 - 0 + 1) 0 th mo (by first | assumption | omega | rfl) (by intro j hj; omega) (by intro j hj; omega) (by omega)
theorem c_X9_takes194 (l : Launch) (D : va_G) (cI cE : ClassId) (q0 : Nat) (q3 : Nat) (q4 : Nat) (q6 : Nat) (q7 : Nat) (q8 : Nat) (q9 : Nat) (q14 : Nat) (q15 : Nat) (q17 : Nat) (q18 : Nat) (q19 : Nat) (q23 : Nat) (q24 : Nat) (q25 : Nat) (ro : Nat) (co : Nat) (sl : Int32) (sn : Int32) (ts : Int32) (ra : Int32) (rr : Int32) (rw : Int32) (rn : Int32) (um : Int32) (bs : Int32) (bh : Int32) (km : Int32) (th : Nat → Int32) (mo : Nat → Int32) (tq : Nat) (tf : Nat → Int32) (at_ : Nat) (hat : at_ + 97 ≤ 194) : Cv l D cI cE yX9_takes cX9_takes 4 none 0 0 0 [.ref q0, .ref tq, .int (nI at_)] [(q0, .inr (9, [.int (nI ro), .int (nI co), .int sl, .ref q3, .ref q4, .int sn, .ref q6, .ref q7, .ref q8, .ref q9, .int ts, .int ra, .int rr, .int rw, .ref q14, .ref q15, .int rn, .ref q17, .ref q18, .ref q19, .int um, .int bs, .int bh, .ref q23, .ref q24, .ref q25, .int km])), (q3, .inl (cI, 48, .inl th)), (q4, .inl (cI, 48, .inl mo)), (tq, .inl (cI, 194, .inl tf))] (fun (u : Unit) => ((True))) (fun (u : Unit) => ([(q0, .inr (9, [.int (nI ro), .int (nI co), .int (tf at_), .ref q3, .ref q4, .int sn, .ref q6, .ref q7, .ref q8, .ref q9, .int ts, .int ra, .int rr, .int rw, .ref q14, .ref q15, .int rn, .ref q17, .ref q18, .ref q19, .int um, .int bs, .int bh, .ref q23, .ref q24, .ref q25, .int km])), (q3, .inl (cI, 48, .inl (tkT at_ tf))), (q4, .inl (cI, 48, .inl (tkO at_ tf))), (tq, .inl (cI, 194, .inl tf))] : va_W)) :=
  Cv.of (by decide) (Nat.le_of_ble_eq_true rfl) (fun X h hR _ => w_X9_takes194 X h q0 q3 q4 q6 q7 q8 q9 q14 q15 q17 q18 q19 q23 q24 q25 ro co sl sn ts ra rr rw rn um bs bh km th mo tq tf at_ hat hR)
set_option maxRecDepth 100000 in
set_option maxHeartbeats 4000000 in
theorem w_X9_notes_11 (X : Cx) {cI cE : ClassId} (h : Ok X cX9_notes RX9 2 cI cE 1 0 0) (q0 : Nat) (q3 : Nat) (q4 : Nat) (q6 : Nat) (q7 : Nat) (q8 : Nat) (q9 : Nat) (q14 : Nat) (q15 : Nat) (q17 : Nat) (q18 : Nat) (q19 : Nat) (q23 : Nat) (q24 : Nat) (q25 : Nat) (ro : Nat) (co : Nat) (sl : Int32) (sn : Int32) (ts : Int32) (ra : Int32) (rr : Int32) (rw : Int32) (rn : Int32) (um : Nat) (bs : Int32) (bh : Int32) (km : Int32) (th : Nat → Int32) (mo : Nat → Int32) (ah : Nat → Int32) (hum : um ≤ 8) (hR : ∀ (u : Unit), ((True)) → RetV X cX9_notes 2 0 0 [(q0, .inr (9, [.int (nI ro), .int (nI co), .int sl, .ref q3, .ref q4, .int sn, .ref q6, .ref q7, .ref q8, .ref q9, .int ts, .int ra, .int rr, .int rw, .ref q14, .ref q15, .int rn, .ref q17, .ref q18, .ref q19, .int (nI (ntN um)), .int bs, .int bh, .ref q23, .ref q24, .ref q25, .int km])), (q3, .inl (cI, 48, .inl th)), (q4, .inl (cI, 48, .inl mo)), (q19, .inl (cI, 776, .inl (ntA um sl th mo ah)))]) : ∀ (n_11 : Nat) (i : Nat) (a1 : Nat → Int32), (i ≤ 679) → (um = 8) → (a1 = shiI i ah) → 679 - i < n_11 → J X 2 0 0 11 [(0, .ref q0), (1, .int (nI i))] [] [(q0, .inr (9, [.int (nI ro), .int (nI co), .int sl, .ref q3, .ref q4, .int sn, .ref q6, .ref q7, .ref q8, .ref q9, .int ts, .int ra, .int rr, .int rw, .ref q14, .ref q15, .int rn, .ref q17, .ref q18, .ref q19, .int (nI um), .int bs, .int bh, .ref q23, .ref q24, .ref q25, .int km])), (q3, .inl (cI, 48, .inl th)), (q4, .inl (cI, 48, .inl mo)), (q19, .inl (cI, 776, .inl a1))] := by
  intro n_11
  induction n_11 with
  | zero => intro i a1 hi e8 ha hn_; exact absurd hn_ (Nat.not_lt_zero _)
  | succ n_11 ih_11 =>
    intro i a1 hi e8 ha hn_11
    refine J_iload_n h (i := 1) dX9_notes_11 rfl 1 rfl ?_
    refine J_sipush h (v := nI 679) dX9_notes_12 (by decide) ?_
    refine N_icmp_ge h 39 dX9_notes_15 (by decide) (by omega) (by omega) (fun c_15 => ?_) (fun c_15 => ?_)
    · skip
      refine J_arr (g := (shiA ah)) (ws' := [(q0, .inr (9, [.int (nI ro), .int (nI co), .int sl, .ref q3, .ref q4, .int sn, .ref q6, .ref q7, .ref q8, .ref q9, .int ts, .int ra, .int rr, .int rw, .ref q14, .ref q15, .int rn, .ref q17, .ref q18, .ref q19, .int (nI um), .int bs, .int bh, .ref q23, .ref q24, .ref q25, .int km])), (q3, .inl (cI, 48, .inl th)), (q4, .inl (cI, 48, .inl mo)), (q19, .inl (cI, 776, .inl (shiA ah)))]) 3 rfl (by intro j hj; rw [ha, show i = 679 by omega]; rfl) rfl ?_
      refine J_aload_n h (i := 0) dX9_notes_39 rfl 0 rfl ?_
      refine J_dup h dX9_notes_40 rfl ?_
      refine J_get h inX9 rfl 0 20 (by decide) rfl rfl nf_X9_121 dX9_notes_41 ?_
      refine J_iconst h (v := nI 1) dX9_notes_44 (by decide) ?_
      refine N_isub h (by omega) dX9_notes_45 ?_
      refine J_put h (ws' := [(q0, .inr (9, [.int (nI ro), .int (nI co), .int sl, .ref q3, .ref q4, .int sn, .ref q6, .ref q7, .ref q8, .ref q9, .int ts, .int ra, .int rr, .int rw, .ref q14, .ref q15, .int rn, .ref q17, .ref q18, .ref q19, .int (nI (um - 1)), .int bs, .int bh, .ref q23, .ref q24, .ref q25, .int km])), (q3, .inl (cI, 48, .inl th)), (q4, .inl (cI, 48, .inl mo)), (q19, .inl (cI, 776, .inl (shiA ah)))]) inX9 tyX9 tyX9_ok nmX9 rfl 0 20 (by decide) rfl nf_X9_121 rfl rfl rfl rfl (Nat.le_of_ble_eq_true rfl) dX9_notes_46 rfl ?_
      refine J_aload_n h (i := 0) dX9_notes_49 rfl 0 rfl ?_
      refine J_aload_n h (i := 0) dX9_notes_50 rfl 0 rfl ?_
      refine J_get h inX9 rfl 0 19 (by decide) rfl rfl nf_X9_40 dX9_notes_51 ?_
      refine J_bipush h (v := nI 97) dX9_notes_54 (by decide) ?_
      refine J_aload_n h (i := 0) dX9_notes_56 rfl 0 rfl ?_
      refine J_get h inX9 rfl 0 20 (by decide) rfl rfl nf_X9_121 dX9_notes_57 ?_
      refine N_imul h dX9_notes_60 ?_
      refine K_vv h (wr := []) (c_X9_lays776 (xl X) (xD X) cI cE q0 q3 q4 q6 q7 q8 q9 q14 q15 q17 q18 q19 q23 q24 q25 ro co sl sn ts ra rr rw rn (nI (um - 1)) bs bh km th mo q19 (shiA ah) (97 * (um - 1)) (by first | assumption | omega | rfl)) yv_X9_lays nm_X9_148 (by decide) (by decide) rfl rfl 0 rfl rfl rfl rfl (Nat.le_of_ble_eq_true rfl) (Nat.le_refl _) (Nat.le_refl _) dX9_notes_61 (fun u_61 p_61 => ?_)
      show J X 2 0 0 64 [(0, .ref q0), (1, .int (nI i))] [] [(q0, .inr (9, [.int (nI ro), .int (nI co), .int sl, .ref q3, .ref q4, .int sn, .ref q6, .ref q7, .ref q8, .ref q9, .int ts, .int ra, .int rr, .int rw, .ref q14, .ref q15, .int rn, .ref q17, .ref q18, .ref q19, .int (nI (um - 1)), .int bs, .int bh, .ref q23, .ref q24, .ref q25, .int km])), (q3, .inl (cI, 48, .inl th)), (q4, .inl (cI, 48, .inl mo)), (q19, .inl (cI, 776, .inl (noteA (97 * (um - 1)) sl th mo (shiA ah))))]
      refine J_aload_n h (i := 0) dX9_notes_64 rfl 0 rfl ?_
      refine J_dup h dX9_notes_65 rfl ?_
      refine J_get h inX9 rfl 0 20 (by decide) rfl rfl nf_X9_121 dX9_notes_66 ?_
      refine J_iconst h (v := nI 1) dX9_notes_69 (by decide) ?_
      refine N_iadd h dX9_notes_70 ?_
      refine J_put h (ws' := [(q0, .inr (9, [.int (nI ro), .int (nI co), .int sl, .ref q3, .ref q4, .int sn, .ref q6, .ref q7, .ref q8, .ref q9, .int ts, .int ra, .int rr, .int rw, .ref q14, .ref q15, .int rn, .ref q17, .ref q18, .ref q19, .int (nI ((um - 1) + 1)), .int bs, .int bh, .ref q23, .ref q24, .ref q25, .int km])), (q3, .inl (cI, 48, .inl th)), (q4, .inl (cI, 48, .inl mo)), (q19, .inl (cI, 776, .inl (noteA (97 * (um - 1)) sl th mo (shiA ah))))]) inX9 tyX9 tyX9_ok nmX9 rfl 0 20 (by decide) rfl nf_X9_121 rfl rfl rfl rfl (Nat.le_of_ble_eq_true rfl) dX9_notes_71 rfl ?_
      refine J_eqw (ws' := [(q0, .inr (9, [.int (nI ro), .int (nI co), .int sl, .ref q3, .ref q4, .int sn, .ref q6, .ref q7, .ref q8, .ref q9, .int ts, .int ra, .int rr, .int rw, .ref q14, .ref q15, .int rn, .ref q17, .ref q18, .ref q19, .int (nI (ntN um)), .int bs, .int bh, .ref q23, .ref q24, .ref q25, .int km])), (q3, .inl (cI, 48, .inl th)), (q4, .inl (cI, 48, .inl mo)), (q19, .inl (cI, 776, .inl (ntA um sl th mo ah)))]) (by rw [show ntA um sl th mo ah = noteA (97 * (um - 1)) sl th mo (shiA ah) from by unfold ntA; rw [if_pos e8, show 97 * 7 = 97 * (um - 1) by omega], show ntN um = um - 1 + 1 from by unfold ntN; rw [if_pos e8]; omega]) ?_
      exact hR () (trivial) 74 _ dX9_notes_74
    · skip
      refine J_aload_n h (i := 0) dX9_notes_18 rfl 0 rfl ?_
      refine J_get h inX9 rfl 0 19 (by decide) rfl rfl nf_X9_40 dX9_notes_19 ?_
      refine J_iload_n h (i := 1) dX9_notes_22 rfl 1 rfl ?_
      refine J_aload_n h (i := 0) dX9_notes_23 rfl 0 rfl ?_
      refine J_get h inX9 rfl 0 19 (by decide) rfl rfl nf_X9_40 dX9_notes_24 ?_
      refine J_iload_n h (i := 1) dX9_notes_27 rfl 1 rfl ?_
      refine J_bipush h (v := nI 97) dX9_notes_28 (by decide) ?_
      refine N_iadd h dX9_notes_30 ?_
      refine N_iald h 3 rfl (by decide) (by omega) dX9_notes_31 ?_
      refine N_iast h (ws' := [(q0, .inr (9, [.int (nI ro), .int (nI co), .int sl, .ref q3, .ref q4, .int sn, .ref q6, .ref q7, .ref q8, .ref q9, .int ts, .int ra, .int rr, .int rw, .ref q14, .ref q15, .int rn, .ref q17, .ref q18, .ref q19, .int (nI um), .int bs, .int bh, .ref q23, .ref q24, .ref q25, .int km])), (q3, .inl (cI, 48, .inl th)), (q4, .inl (cI, 48, .inl mo)), (q19, .inl (cI, 776, .inl (upd a1 i (a1 (i + 97)))))]) 3 rfl (by decide) (by omega) dX9_notes_32 rfl ?_
      refine J_iinc h (v := nI (i + 1)) (lv' := [(1, .int (nI (i + 1))), (0, .ref q0)]) dX9_notes_33 1 rfl (inc_ok _ 1) (by decide) rfl ?_
      refine J_goto h 11 dX9_notes_36 (by decide) ?_
      refine J.loc [1, 0] (lv' := [(0, .ref q0), (1, .int (nI (i + 1)))]) rfl ?_
      exact ih_11 (i + 1) (upd a1 i (a1 (i + 97))) (by first | exact hi |  assumption | omega | rfl) (by first | exact e8 |  assumption | omega | rfl) (by rw [ha]; exact shiI_s _ _) (by omega)
set_option maxRecDepth 100000 in
set_option maxHeartbeats 4000000 in
theorem w_X9_notes (X : Cx) {cI cE : ClassId} (h : Ok X cX9_notes RX9 2 cI cE 1 0 0) (q0 : Nat) (q3 : Nat) (q4 : Nat) (q6 : Nat) (q7 : Nat) (q8 : Nat) (q9 : Nat) (q14 : Nat) (q15 : Nat) (q17 : Nat) (q18 : Nat) (q19 : Nat) (q23 : Nat) (q24 : Nat) (q25 : Nat) (ro : Nat) (co : Nat) (sl : Int32) (sn : Int32) (ts : Int32) (ra : Int32) (rr : Int32) (rw : Int32) (rn : Int32) (um : Nat) (bs : Int32) (bh : Int32) (km : Int32) (th : Nat → Int32) (mo : Nat → Int32) (ah : Nat → Int32) (hum : um ≤ 8) (hR : ∀ (u : Unit), ((True)) → RetV X cX9_notes 2 0 0 [(q0, .inr (9, [.int (nI ro), .int (nI co), .int sl, .ref q3, .ref q4, .int sn, .ref q6, .ref q7, .ref q8, .ref q9, .int ts, .int ra, .int rr, .int rw, .ref q14, .ref q15, .int rn, .ref q17, .ref q18, .ref q19, .int (nI (ntN um)), .int bs, .int bh, .ref q23, .ref q24, .ref q25, .int km])), (q3, .inl (cI, 48, .inl th)), (q4, .inl (cI, 48, .inl mo)), (q19, .inl (cI, 776, .inl (ntA um sl th mo ah)))]) : J X 2 0 0 0 [(0, .ref q0)] [] [(q0, .inr (9, [.int (nI ro), .int (nI co), .int sl, .ref q3, .ref q4, .int sn, .ref q6, .ref q7, .ref q8, .ref q9, .int ts, .int ra, .int rr, .int rw, .ref q14, .ref q15, .int rn, .ref q17, .ref q18, .ref q19, .int (nI um), .int bs, .int bh, .ref q23, .ref q24, .ref q25, .int km])), (q3, .inl (cI, 48, .inl th)), (q4, .inl (cI, 48, .inl mo)), (q19, .inl (cI, 776, .inl ah))] := by
  refine J_aload_n h (i := 0) dX9_notes_0 rfl 0 rfl ?_
  refine J_get h inX9 rfl 0 20 (by decide) rfl rfl nf_X9_121 dX9_notes_1 ?_
  refine J_bipush h (v := nI 8) dX9_notes_4 (by decide) ?_
  refine N_icmp_ne h 49 dX9_notes_6 (by decide) (by omega) (by omega) (fun c_6 => ?_) (fun c_6 => ?_)
  · skip
    refine J_aload_n h (i := 0) dX9_notes_49 rfl 0 rfl ?_
    refine J_aload_n h (i := 0) dX9_notes_50 rfl 0 rfl ?_
    refine J_get h inX9 rfl 0 19 (by decide) rfl rfl nf_X9_40 dX9_notes_51 ?_
    refine J_bipush h (v := nI 97) dX9_notes_54 (by decide) ?_
    refine J_aload_n h (i := 0) dX9_notes_56 rfl 0 rfl ?_
    refine J_get h inX9 rfl 0 20 (by decide) rfl rfl nf_X9_121 dX9_notes_57 ?_
    refine N_imul h dX9_notes_60 ?_
    refine K_vv h (wr := []) (c_X9_lays776 (xl X) (xD X) cI cE q0 q3 q4 q6 q7 q8 q9 q14 q15 q17 q18 q19 q23 q24 q25 ro co sl sn ts ra rr rw rn (nI um) bs bh km th mo q19 ah (97 * um) (by first | assumption | omega | rfl)) yv_X9_lays nm_X9_148 (by decide) (by decide) rfl rfl 0 rfl rfl rfl rfl (Nat.le_of_ble_eq_true rfl) (Nat.le_refl _) (Nat.le_refl _) dX9_notes_61 (fun u_61 p_61 => ?_)
    show J X 2 0 0 64 [(0, .ref q0)] [] [(q0, .inr (9, [.int (nI ro), .int (nI co), .int sl, .ref q3, .ref q4, .int sn, .ref q6, .ref q7, .ref q8, .ref q9, .int ts, .int ra, .int rr, .int rw, .ref q14, .ref q15, .int rn, .ref q17, .ref q18, .ref q19, .int (nI um), .int bs, .int bh, .ref q23, .ref q24, .ref q25, .int km])), (q3, .inl (cI, 48, .inl th)), (q4, .inl (cI, 48, .inl mo)), (q19, .inl (cI, 776, .inl (noteA (97 * um) sl th mo ah)))]
    refine J_aload_n h (i := 0) dX9_notes_64 rfl 0 rfl ?_
    refine J_dup h dX9_notes_65 rfl ?_
    refine J_get h inX9 rfl 0 20 (by decide) rfl rfl nf_X9_121 dX9_notes_66 ?_
    refine J_iconst h (v := nI 1) dX9_notes_69 (by decide) ?_
    refine N_iadd h dX9_notes_70 ?_
    refine J_put h (ws' := [(q0, .inr (9, [.int (nI ro), .int (nI co), .int sl, .ref q3, .ref q4, .int sn, .ref q6, .ref q7, .ref q8, .ref q9, .int ts, .int ra, .int rr, .int rw, .ref q14, .ref q15, .int rn, .ref q17, .ref q18, .ref q19, .int (nI (um + 1)), .int bs, .int bh, .ref q23, .ref q24, .ref q25, .int km])), (q3, .inl (cI, 48, .inl th)), (q4, .inl (cI, 48, .inl mo)), (q19, .inl (cI, 776, .inl (noteA (97 * um) sl th mo ah)))]) inX9 tyX9 tyX9_ok nmX9 rfl 0 20 (by decide) rfl nf_X9_121 rfl rfl rfl rfl (Nat.le_of_ble_eq_true rfl) dX9_notes_71 rfl ?_
    refine J_eqw (ws' := [(q0, .inr (9, [.int (nI ro), .int (nI co), .int sl, .ref q3, .ref q4, .int sn, .ref q6, .ref q7, .ref q8, .ref q9, .int ts, .int ra, .int rr, .int rw, .ref q14, .ref q15, .int rn, .ref q17, .ref q18, .ref q19, .int (nI (ntN um)), .int bs, .int bh, .ref q23, .ref q24, .ref q25, .int km])), (q3, .inl (cI, 48, .inl th)), (q4, .inl (cI, 48, .inl mo)), (q19, .inl (cI, 776, .inl (ntA um sl th mo ah)))]) (by rw [show ntA um sl th mo ah = noteA (97 * um) sl th mo ah from by unfold ntA; rw [if_neg (by omega)], show ntN um = um + 1 from by unfold ntN; rw [if_neg (by omega)]]) ?_
    exact hR () (trivial) 74 _ dX9_notes_74
  · skip
    refine J_iconst h (v := nI 0) dX9_notes_9 (by decide) ?_
    refine J_istore_n h (i := 1) (lv' := [(1, .int (nI 0)), (0, .ref q0)]) dX9_notes_10 rfl (by decide) rfl ?_
    refine J.loc [1, 0] (lv' := [(0, .ref q0), (1, .int (nI 0))]) rfl ?_
    exact w_X9_notes_11 X h q0 q3 q4 q6 q7 q8 q9 q14 q15 q17 q18 q19 q23 q24 q25 ro co sl sn ts ra rr rw rn um bs bh km th mo ah hum hR  (679 - 0 + 1) 0 ah (by first | assumption | omega | rfl) (by first | assumption | omega | rfl) (by exact shiI_0 _) (by omega)
theorem c_X9_notes (l : Launch) (D : va_G) (cI cE : ClassId) (q0 : Nat) (q3 : Nat) (q4 : Nat) (q6 : Nat) (q7 : Nat) (q8 : Nat) (q9 : Nat) (q14 : Nat) (q15 : Nat) (q17 : Nat) (q18 : Nat) (q19 : Nat) (q23 : Nat) (q24 : Nat) (q25 : Nat) (ro : Nat) (co : Nat) (sl : Int32) (sn : Int32) (ts : Int32) (ra : Int32) (rr : Int32) (rw : Int32) (rn : Int32) (um : Nat) (bs : Int32) (bh : Int32) (km : Int32) (th : Nat → Int32) (mo : Nat → Int32) (ah : Nat → Int32) (hum : um ≤ 8) : Cv l D cI cE yX9_notes cX9_notes 2 none 1 0 0 [.ref q0] [(q0, .inr (9, [.int (nI ro), .int (nI co), .int sl, .ref q3, .ref q4, .int sn, .ref q6, .ref q7, .ref q8, .ref q9, .int ts, .int ra, .int rr, .int rw, .ref q14, .ref q15, .int rn, .ref q17, .ref q18, .ref q19, .int (nI um), .int bs, .int bh, .ref q23, .ref q24, .ref q25, .int km])), (q3, .inl (cI, 48, .inl th)), (q4, .inl (cI, 48, .inl mo)), (q19, .inl (cI, 776, .inl ah))] (fun (u : Unit) => ((True))) (fun (u : Unit) => ([(q0, .inr (9, [.int (nI ro), .int (nI co), .int sl, .ref q3, .ref q4, .int sn, .ref q6, .ref q7, .ref q8, .ref q9, .int ts, .int ra, .int rr, .int rw, .ref q14, .ref q15, .int rn, .ref q17, .ref q18, .ref q19, .int (nI (ntN um)), .int bs, .int bh, .ref q23, .ref q24, .ref q25, .int km])), (q3, .inl (cI, 48, .inl th)), (q4, .inl (cI, 48, .inl mo)), (q19, .inl (cI, 776, .inl (ntA um sl th mo ah)))] : va_W)) :=
  Cv.of (by decide) (Nat.le_of_ble_eq_true rfl) (fun X h hR _ => w_X9_notes X h q0 q3 q4 q6 q7 q8 q9 q14 q15 q17 q18 q19 q23 q24 q25 ro co sl sn ts ra rr rw rn um bs bh km th mo ah hum hR)
theorem yv_X9_notes : YV yX9_notes cX9_notes 2 none 0 := ⟨no_X9_notes, nv_X9_notes, ni_X9, nk_X9_notes, by decide +kernel⟩
set_option maxRecDepth 100000 in
set_option maxHeartbeats 4000000 in
theorem w_X9_dig (X : Cx) {cI cE : ClassId} (h : Ok X cX9_dig RX9 4 cI cE 2 0 0) (q0 : Nat) (q3 : Nat) (q4 : Nat) (q6 : Nat) (q7 : Nat) (q8 : Nat) (q9 : Nat) (q14 : Nat) (q15 : Nat) (q17 : Nat) (q18 : Nat) (q19 : Nat) (q23 : Nat) (q24 : Nat) (q25 : Nat) (ro : Nat) (co : Nat) (sl : Int32) (sn : Int32) (ts : Int32) (ra : Int32) (rr : Int32) (rw : Int32) (rn : Int32) (um : Nat) (bs : Int32) (bh : Int32) (km : Int32) (th : Nat → Int32) (mo : Nat → Int32) (ah : Nat → Int32) (cth : Nat → Int32) (cow : Nat → Int32) (p0 : Int32) (p1 : Int32) (hrc : ro * co ≤ 48) (hco : co ≤ 6) (hro : ro ≤ 8) (hrel : rel (ro * co) th mo cth cow) (hum : um ≤ 8) (hR : ∀ (r : Int32) (u : (Nat → Int32) × (Nat) × (Nat → Int32)), ((cth (tn p0) = r) ∧ ((vCell (ro * co) p0 ∧ (0 ≤ p1.toInt ∧ p1.toInt < 4))) ∧ (cth (tn p0) ≠ p1) ∧ (rel (ro * co) u.1 mo (upd cth (tn p0) p1) cow) ∧ ((ntN um) = u.2.1) ∧ ((ntA um sl th mo ah) = u.2.2) ∧ (True)) ∨ (((-2) = r) ∧ ((vCell (ro * co) p0 ∧ (0 ≤ p1.toInt ∧ p1.toInt < 4))) ∧ (cth (tn p0) = p1) ∧ ((th) = u.1) ∧ ((um) = u.2.1) ∧ ((ah) = u.2.2) ∧ (True)) ∨ (((-1) = r) ∧ (¬ (vCell (ro * co) p0 ∧ (0 ≤ p1.toInt ∧ p1.toInt < 4))) ∧ ((th) = u.1) ∧ ((um) = u.2.1) ∧ ((ah) = u.2.2) ∧ (True)) → RetI X cX9_dig 4 0 0 r [(q0, .inr (9, [.int (nI ro), .int (nI co), .int sl, .ref q3, .ref q4, .int sn, .ref q6, .ref q7, .ref q8, .ref q9, .int ts, .int ra, .int rr, .int rw, .ref q14, .ref q15, .int rn, .ref q17, .ref q18, .ref q19, .int (nI u.2.1), .int bs, .int bh, .ref q23, .ref q24, .ref q25, .int km])), (q3, .inl (cI, 48, .inl u.1)), (q4, .inl (cI, 48, .inl mo)), (q19, .inl (cI, 776, .inl u.2.2))]) : J X 4 0 0 0 [(0, .ref q0), (1, .int p0), (2, .int p1)] [] [(q0, .inr (9, [.int (nI ro), .int (nI co), .int sl, .ref q3, .ref q4, .int sn, .ref q6, .ref q7, .ref q8, .ref q9, .int ts, .int ra, .int rr, .int rw, .ref q14, .ref q15, .int rn, .ref q17, .ref q18, .ref q19, .int (nI um), .int bs, .int bh, .ref q23, .ref q24, .ref q25, .int km])), (q3, .inl (cI, 48, .inl th)), (q4, .inl (cI, 48, .inl mo)), (q19, .inl (cI, 776, .inl ah))] := by
  refine J_aload_n h (i := 0) dX9_dig_0 rfl 0 rfl ?_
  refine J_iload_n h (i := 1) dX9_dig_1 rfl 1 rfl ?_
  refine K_vi h (wr := [(q3, .inl (cI, 48, .inl th)), (q4, .inl (cI, 48, .inl mo)), (q19, .inl (cI, 776, .inl ah))]) (c_X9_isCell (xl X) (xD X) cI cE q0 q3 q4 q6 q7 q8 q9 q14 q15 q17 q18 q19 q23 q24 q25 ro co sl sn ts ra rr rw rn (nI um) bs bh km p0 (by first | exact hrc |  assumption | omega | rfl)) yv_X9_isCell nm_X9_131 (by decide) (by decide) rfl rfl 0 rfl rfl rfl rfl (Nat.le_of_ble_eq_true rfl) (Nat.le_refl _) (Nat.le_refl _) dX9_dig_2 (fun r_2 u_2 p_2 => ?_)
  rcases p_2 with p_2 | p_2
  · obtain ⟨j_2, rfl, f0_2, rfl, -⟩ := p_2
    show J X 4 0 0 5 [(0, .ref q0), (1, .int (nI j_2)), (2, .int p1)] [.int (nI 1)] [(q0, .inr (9, [.int (nI ro), .int (nI co), .int sl, .ref q3, .ref q4, .int sn, .ref q6, .ref q7, .ref q8, .ref q9, .int ts, .int ra, .int rr, .int rw, .ref q14, .ref q15, .int rn, .ref q17, .ref q18, .ref q19, .int (nI um), .int bs, .int bh, .ref q23, .ref q24, .ref q25, .int km])), (q3, .inl (cI, 48, .inl th)), (q4, .inl (cI, 48, .inl mo)), (q19, .inl (cI, 776, .inl ah))]
    refine J_if_eq h 17 dX9_dig_5 (by decide) (fun z => absurd z (by decide)) (fun _ => ?_)
    refine J_iload_n h (i := 2) dX9_dig_8 rfl 2 rfl ?_
    refine J_iconst h (v := nI 0) dX9_dig_9 (by decide) ?_
    refine J_iconst h (v := nI 3) dX9_dig_10 (by decide) ?_
    refine K_si h (wr := [(q0, .inr (9, [.int (nI ro), .int (nI co), .int sl, .ref q3, .ref q4, .int sn, .ref q6, .ref q7, .ref q8, .ref q9, .int ts, .int ra, .int rr, .int rw, .ref q14, .ref q15, .int rn, .ref q17, .ref q18, .ref q19, .int (nI um), .int bs, .int bh, .ref q23, .ref q24, .ref q25, .int km])), (q3, .inl (cI, 48, .inl th)), (q4, .inl (cI, 48, .inl mo)), (q19, .inl (cI, 776, .inl ah))]) (c_X9_in (xl X) (xD X) cI cE p1 (nI 0) (nI 3) ((p1).toInt) 0 3 (by exact rfl) (by exact nI_toInt (by omega)) (by exact nI_toInt (by omega))) yv_X9_in nm_X9_67 (by decide) (by decide) rfl rfl rfl (Nat.le_of_ble_eq_true rfl) (Nat.le_refl _) (Nat.le_refl _) dX9_dig_11 (fun r_11 u_11 p_11 => ?_)
    rcases p_11 with p_11 | p_11
    · obtain ⟨rfl, f0_11, -⟩ := p_11
      show J X 4 0 0 14 [(0, .ref q0), (1, .int (nI j_2)), (2, .int p1)] [.int (nI 1)] [(q0, .inr (9, [.int (nI ro), .int (nI co), .int sl, .ref q3, .ref q4, .int sn, .ref q6, .ref q7, .ref q8, .ref q9, .int ts, .int ra, .int rr, .int rw, .ref q14, .ref q15, .int rn, .ref q17, .ref q18, .ref q19, .int (nI um), .int bs, .int bh, .ref q23, .ref q24, .ref q25, .int km])), (q3, .inl (cI, 48, .inl th)), (q4, .inl (cI, 48, .inl mo)), (q19, .inl (cI, 776, .inl ah))]
      refine J_if_ne h 19 dX9_dig_14 (by decide) (fun _ => ?_) (fun z => absurd z (by decide))
      have hje := rel_th hrel f0_2
      refine J_aload_n h (i := 0) dX9_dig_19 rfl 0 rfl ?_
      refine J_get h inX9 rfl 0 3 (by decide) rfl rfl nf_X9_7 dX9_dig_20 ?_
      refine J_iload_n h (i := 1) dX9_dig_23 rfl 1 rfl ?_
      refine N_iald h 1 rfl (by decide) (by omega) dX9_dig_24 ?_
      refine J_istore_n h (i := 3) (lv' := [(3, .int (th j_2)), (0, .ref q0), (1, .int (nI j_2)), (2, .int p1)]) dX9_dig_25 rfl (by decide) rfl ?_
      refine J_iload_n h (i := 3) dX9_dig_26 rfl 0 rfl ?_
      refine J_iload_n h (i := 2) dX9_dig_27 rfl 3 rfl ?_
      refine J_icmp_ne h 34 dX9_dig_28 (by decide) (fun c_28 => ?_) (fun c_28 => ?_)
      · skip
        refine J_aload_n h (i := 0) dX9_dig_34 rfl 1 rfl ?_
        refine K_vv h (wr := []) (c_X9_notes (xl X) (xD X) cI cE q0 q3 q4 q6 q7 q8 q9 q14 q15 q17 q18 q19 q23 q24 q25 ro co sl sn ts ra rr rw rn um bs bh km th mo ah (by first | exact hum |  assumption | omega | rfl)) yv_X9_notes nm_X9_152 (by decide) (by decide) rfl rfl 0 rfl rfl rfl rfl (Nat.le_of_ble_eq_true rfl) (Nat.le_refl _) (Nat.le_refl _) dX9_dig_35 (fun u_35 p_35 => ?_)
        show J X 4 0 0 38 [(3, .int (th j_2)), (0, .ref q0), (1, .int (nI j_2)), (2, .int p1)] [] [(q0, .inr (9, [.int (nI ro), .int (nI co), .int sl, .ref q3, .ref q4, .int sn, .ref q6, .ref q7, .ref q8, .ref q9, .int ts, .int ra, .int rr, .int rw, .ref q14, .ref q15, .int rn, .ref q17, .ref q18, .ref q19, .int (nI (ntN um)), .int bs, .int bh, .ref q23, .ref q24, .ref q25, .int km])), (q3, .inl (cI, 48, .inl th)), (q4, .inl (cI, 48, .inl mo)), (q19, .inl (cI, 776, .inl (ntA um sl th mo ah)))]
        refine J_aload_n h (i := 0) dX9_dig_38 rfl 1 rfl ?_
        refine J_get h inX9 rfl 0 3 (by decide) rfl rfl nf_X9_7 dX9_dig_39 ?_
        refine J_iload_n h (i := 1) dX9_dig_42 rfl 2 rfl ?_
        refine J_iload_n h (i := 2) dX9_dig_43 rfl 3 rfl ?_
        refine N_iast h (ws' := [(q0, .inr (9, [.int (nI ro), .int (nI co), .int sl, .ref q3, .ref q4, .int sn, .ref q6, .ref q7, .ref q8, .ref q9, .int ts, .int ra, .int rr, .int rw, .ref q14, .ref q15, .int rn, .ref q17, .ref q18, .ref q19, .int (nI (ntN um)), .int bs, .int bh, .ref q23, .ref q24, .ref q25, .int km])), (q3, .inl (cI, 48, .inl (upd th j_2 p1))), (q4, .inl (cI, 48, .inl mo)), (q19, .inl (cI, 776, .inl (ntA um sl th mo ah)))]) 1 rfl (by decide) (by omega) dX9_dig_44 rfl ?_
        refine J_iload_n h (i := 3) dX9_dig_45 rfl 0 rfl ?_
        exact hR (th j_2) (upd th j_2 p1, ntN um, ntA um sl th mo ah) (by exact Or.inl ⟨by rw [tnI (by omega)]; exact hje.symm, ⟨cellI (by omega) (by omega), by omega⟩, by rw [tnI (by omega), ← hje]; exact c_28, by rw [tnI (by omega)]; exact rel_updT hrel _ (by omega) (by omega), rfl, rfl, trivial⟩) 46 _ dX9_dig_46
      · skip
        refine J_bipush h (v := (-2)) dX9_dig_31 (by decide) ?_
        exact hR ((-2)) (th, um, ah) (by exact Or.inr (Or.inl ⟨rfl, ⟨cellI (by omega) (by omega), by omega⟩, by rw [tnI (by omega), ← hje]; exact c_28, rfl, rfl, rfl, trivial⟩)) 33 _ dX9_dig_33
    · obtain ⟨rfl, f0_11, -⟩ := p_11
      show J X 4 0 0 14 [(0, .ref q0), (1, .int (nI j_2)), (2, .int p1)] [.int (nI 0)] [(q0, .inr (9, [.int (nI ro), .int (nI co), .int sl, .ref q3, .ref q4, .int sn, .ref q6, .ref q7, .ref q8, .ref q9, .int ts, .int ra, .int rr, .int rw, .ref q14, .ref q15, .int rn, .ref q17, .ref q18, .ref q19, .int (nI um), .int bs, .int bh, .ref q23, .ref q24, .ref q25, .int km])), (q3, .inl (cI, 48, .inl th)), (q4, .inl (cI, 48, .inl mo)), (q19, .inl (cI, 776, .inl ah))]
      refine J_if_ne h 19 dX9_dig_14 (by decide) (fun z => absurd z (by decide)) (fun _ => ?_)
      refine J_iconst h (v := (-1)) dX9_dig_17 (by decide) ?_
      exact hR ((-1)) (th, um, ah) (by exact Or.inr (Or.inr ⟨rfl, by omega, rfl, rfl, rfl, trivial⟩)) 18 _ dX9_dig_18
  · obtain ⟨rfl, f0_2, -⟩ := p_2
    show J X 4 0 0 5 [(0, .ref q0), (1, .int p0), (2, .int p1)] [.int (nI 0)] [(q0, .inr (9, [.int (nI ro), .int (nI co), .int sl, .ref q3, .ref q4, .int sn, .ref q6, .ref q7, .ref q8, .ref q9, .int ts, .int ra, .int rr, .int rw, .ref q14, .ref q15, .int rn, .ref q17, .ref q18, .ref q19, .int (nI um), .int bs, .int bh, .ref q23, .ref q24, .ref q25, .int km])), (q3, .inl (cI, 48, .inl th)), (q4, .inl (cI, 48, .inl mo)), (q19, .inl (cI, 776, .inl ah))]
    refine J_if_eq h 17 dX9_dig_5 (by decide) (fun _ => ?_) (fun z => absurd z (by decide))
    refine J_iconst h (v := (-1)) dX9_dig_17 (by decide) ?_
    exact hR ((-1)) (th, um, ah) (by exact Or.inr (Or.inr ⟨rfl, by omega, rfl, rfl, rfl, trivial⟩)) 18 _ dX9_dig_18
theorem c_X9_dig (l : Launch) (D : va_G) (cI cE : ClassId) (q0 : Nat) (q3 : Nat) (q4 : Nat) (q6 : Nat) (q7 : Nat) (q8 : Nat) (q9 : Nat) (q14 : Nat) (q15 : Nat) (q17 : Nat) (q18 : Nat) (q19 : Nat) (q23 : Nat) (q24 : Nat) (q25 : Nat) (ro : Nat) (co : Nat) (sl : Int32) (sn : Int32) (ts : Int32) (ra : Int32) (rr : Int32) (rw : Int32) (rn : Int32) (um : Nat) (bs : Int32) (bh : Int32) (km : Int32) (th : Nat → Int32) (mo : Nat → Int32) (ah : Nat → Int32) (cth : Nat → Int32) (cow : Nat → Int32) (p0 : Int32) (p1 : Int32) (hrc : ro * co ≤ 48) (hco : co ≤ 6) (hro : ro ≤ 8) (hrel : rel (ro * co) th mo cth cow) (hum : um ≤ 8) : Ci l D cI cE yX9_dig cX9_dig 4 (some .int) 2 0 0 [.ref q0, .int p0, .int p1] [(q0, .inr (9, [.int (nI ro), .int (nI co), .int sl, .ref q3, .ref q4, .int sn, .ref q6, .ref q7, .ref q8, .ref q9, .int ts, .int ra, .int rr, .int rw, .ref q14, .ref q15, .int rn, .ref q17, .ref q18, .ref q19, .int (nI um), .int bs, .int bh, .ref q23, .ref q24, .ref q25, .int km])), (q3, .inl (cI, 48, .inl th)), (q4, .inl (cI, 48, .inl mo)), (q19, .inl (cI, 776, .inl ah))] (fun (r : Int32) (u : (Nat → Int32) × (Nat) × (Nat → Int32)) => ((cth (tn p0) = r) ∧ ((vCell (ro * co) p0 ∧ (0 ≤ p1.toInt ∧ p1.toInt < 4))) ∧ (cth (tn p0) ≠ p1) ∧ (rel (ro * co) u.1 mo (upd cth (tn p0) p1) cow) ∧ ((ntN um) = u.2.1) ∧ ((ntA um sl th mo ah) = u.2.2) ∧ (True)) ∨ (((-2) = r) ∧ ((vCell (ro * co) p0 ∧ (0 ≤ p1.toInt ∧ p1.toInt < 4))) ∧ (cth (tn p0) = p1) ∧ ((th) = u.1) ∧ ((um) = u.2.1) ∧ ((ah) = u.2.2) ∧ (True)) ∨ (((-1) = r) ∧ (¬ (vCell (ro * co) p0 ∧ (0 ≤ p1.toInt ∧ p1.toInt < 4))) ∧ ((th) = u.1) ∧ ((um) = u.2.1) ∧ ((ah) = u.2.2) ∧ (True))) (fun (u : (Nat → Int32) × (Nat) × (Nat → Int32)) => ([(q0, .inr (9, [.int (nI ro), .int (nI co), .int sl, .ref q3, .ref q4, .int sn, .ref q6, .ref q7, .ref q8, .ref q9, .int ts, .int ra, .int rr, .int rw, .ref q14, .ref q15, .int rn, .ref q17, .ref q18, .ref q19, .int (nI u.2.1), .int bs, .int bh, .ref q23, .ref q24, .ref q25, .int km])), (q3, .inl (cI, 48, .inl u.1)), (q4, .inl (cI, 48, .inl mo)), (q19, .inl (cI, 776, .inl u.2.2))] : va_W)) :=
  Ci.of (by decide) (Nat.le_of_ble_eq_true rfl) (fun _ _ _ => rfl) (fun X h hR => w_X9_dig X h q0 q3 q4 q6 q7 q8 q9 q14 q15 q17 q18 q19 q23 q24 q25 ro co sl sn ts ra rr rw rn um bs bh km th mo ah cth cow p0 p1 hrc hco hro hrel hum hR)
theorem yv_X9_dig : YV yX9_dig cX9_dig 4 (some .int) 2 := ⟨no_X9_dig, nv_X9_dig, ni_X9, nk_X9_dig, by decide +kernel⟩
set_option maxRecDepth 100000 in
set_option maxHeartbeats 4000000 in
theorem w_X9_undo (X : Cx) {cI cE : ClassId} (h : Ok X cX9_undo RX9 1 cI cE 1 0 0) (q0 : Nat) (q3 : Nat) (q4 : Nat) (q6 : Nat) (q7 : Nat) (q8 : Nat) (q9 : Nat) (q14 : Nat) (q15 : Nat) (q17 : Nat) (q18 : Nat) (q19 : Nat) (q23 : Nat) (q24 : Nat) (q25 : Nat) (ro : Nat) (co : Nat) (sl : Int32) (sn : Int32) (ts : Int32) (ra : Int32) (rr : Int32) (rw : Int32) (rn : Int32) (um : Nat) (bs : Int32) (bh : Int32) (km : Int32) (th : Nat → Int32) (mo : Nat → Int32) (ah : Nat → Int32) (hum : um ≤ 8) (hR : ∀ (r : Int32) (u : (Nat → Int32) × (Nat → Int32) × (Int32) × (Nat)), ((nI (um - 1) = r) ∧ (0 < um) ∧ ((tkT (97 * (um - 1)) ah) = u.1) ∧ ((tkO (97 * (um - 1)) ah) = u.2.1) ∧ ((ah (97 * (um - 1))) = u.2.2.1) ∧ ((um - 1) = u.2.2.2) ∧ (True)) ∨ (((-2) = r) ∧ (um = 0) ∧ ((th) = u.1) ∧ ((mo) = u.2.1) ∧ ((sl) = u.2.2.1) ∧ ((um) = u.2.2.2) ∧ (True)) → RetI X cX9_undo 1 0 0 r [(q0, .inr (9, [.int (nI ro), .int (nI co), .int u.2.2.1, .ref q3, .ref q4, .int sn, .ref q6, .ref q7, .ref q8, .ref q9, .int ts, .int ra, .int rr, .int rw, .ref q14, .ref q15, .int rn, .ref q17, .ref q18, .ref q19, .int (nI u.2.2.2), .int bs, .int bh, .ref q23, .ref q24, .ref q25, .int km])), (q3, .inl (cI, 48, .inl u.1)), (q4, .inl (cI, 48, .inl u.2.1)), (q19, .inl (cI, 776, .inl ah))]) : J X 1 0 0 0 [(0, .ref q0)] [] [(q0, .inr (9, [.int (nI ro), .int (nI co), .int sl, .ref q3, .ref q4, .int sn, .ref q6, .ref q7, .ref q8, .ref q9, .int ts, .int ra, .int rr, .int rw, .ref q14, .ref q15, .int rn, .ref q17, .ref q18, .ref q19, .int (nI um), .int bs, .int bh, .ref q23, .ref q24, .ref q25, .int km])), (q3, .inl (cI, 48, .inl th)), (q4, .inl (cI, 48, .inl mo)), (q19, .inl (cI, 776, .inl ah))] := by
  refine J_aload_n h (i := 0) dX9_undo_0 rfl 0 rfl ?_
  refine J_get h inX9 rfl 0 20 (by decide) rfl rfl nf_X9_121 dX9_undo_1 ?_
  refine N_if_ne h 10 dX9_undo_4 (by decide) (by omega) (fun c_4 => ?_) (fun c_4 => ?_)
  · skip
    refine J_aload_n h (i := 0) dX9_undo_10 rfl 0 rfl ?_
    refine J_dup h dX9_undo_11 rfl ?_
    refine J_get h inX9 rfl 0 20 (by decide) rfl rfl nf_X9_121 dX9_undo_12 ?_
    refine J_iconst h (v := nI 1) dX9_undo_15 (by decide) ?_
    refine N_isub h (by omega) dX9_undo_16 ?_
    refine J_put h (ws' := [(q0, .inr (9, [.int (nI ro), .int (nI co), .int sl, .ref q3, .ref q4, .int sn, .ref q6, .ref q7, .ref q8, .ref q9, .int ts, .int ra, .int rr, .int rw, .ref q14, .ref q15, .int rn, .ref q17, .ref q18, .ref q19, .int (nI (um - 1)), .int bs, .int bh, .ref q23, .ref q24, .ref q25, .int km])), (q3, .inl (cI, 48, .inl th)), (q4, .inl (cI, 48, .inl mo)), (q19, .inl (cI, 776, .inl ah))]) inX9 tyX9 tyX9_ok nmX9 rfl 0 20 (by decide) rfl nf_X9_121 rfl rfl rfl rfl (Nat.le_of_ble_eq_true rfl) dX9_undo_17 rfl ?_
    refine J_aload_n h (i := 0) dX9_undo_20 rfl 0 rfl ?_
    refine J_aload_n h (i := 0) dX9_undo_21 rfl 0 rfl ?_
    refine J_get h inX9 rfl 0 19 (by decide) rfl rfl nf_X9_40 dX9_undo_22 ?_
    refine J_bipush h (v := nI 97) dX9_undo_25 (by decide) ?_
    refine J_aload_n h (i := 0) dX9_undo_27 rfl 0 rfl ?_
    refine J_get h inX9 rfl 0 20 (by decide) rfl rfl nf_X9_121 dX9_undo_28 ?_
    refine N_imul h dX9_undo_31 ?_
    refine K_vv h (wr := []) (c_X9_takes776 (xl X) (xD X) cI cE q0 q3 q4 q6 q7 q8 q9 q14 q15 q17 q18 q19 q23 q24 q25 ro co sl sn ts ra rr rw rn (nI (um - 1)) bs bh km th mo q19 ah (97 * (um - 1)) (by first | assumption | omega | rfl)) yv_X9_takes nm_X9_167 (by decide) (by decide) rfl rfl 0 rfl rfl rfl rfl (Nat.le_of_ble_eq_true rfl) (Nat.le_refl _) (Nat.le_refl _) dX9_undo_32 (fun u_32 p_32 => ?_)
    show J X 1 0 0 35 [(0, .ref q0)] [] [(q0, .inr (9, [.int (nI ro), .int (nI co), .int (ah (97 * (um - 1))), .ref q3, .ref q4, .int sn, .ref q6, .ref q7, .ref q8, .ref q9, .int ts, .int ra, .int rr, .int rw, .ref q14, .ref q15, .int rn, .ref q17, .ref q18, .ref q19, .int (nI (um - 1)), .int bs, .int bh, .ref q23, .ref q24, .ref q25, .int km])), (q3, .inl (cI, 48, .inl (tkT (97 * (um - 1)) ah))), (q4, .inl (cI, 48, .inl (tkO (97 * (um - 1)) ah))), (q19, .inl (cI, 776, .inl ah))]
    refine J_aload_n h (i := 0) dX9_undo_35 rfl 0 rfl ?_
    refine J_get h inX9 rfl 0 20 (by decide) rfl rfl nf_X9_121 dX9_undo_36 ?_
    exact hR (nI (um - 1)) (tkT (97 * (um - 1)) ah, tkO (97 * (um - 1)) ah, ah (97 * (um - 1)), um - 1) (by exact Or.inl ⟨rfl, by omega, rfl, rfl, rfl, rfl, trivial⟩) 39 _ dX9_undo_39
  · skip
    refine J_bipush h (v := (-2)) dX9_undo_7 (by decide) ?_
    exact hR ((-2)) (th, mo, sl, um) (by exact Or.inr ⟨rfl, by omega, rfl, rfl, rfl, rfl, trivial⟩) 9 _ dX9_undo_9
theorem c_X9_undo (l : Launch) (D : va_G) (cI cE : ClassId) (q0 : Nat) (q3 : Nat) (q4 : Nat) (q6 : Nat) (q7 : Nat) (q8 : Nat) (q9 : Nat) (q14 : Nat) (q15 : Nat) (q17 : Nat) (q18 : Nat) (q19 : Nat) (q23 : Nat) (q24 : Nat) (q25 : Nat) (ro : Nat) (co : Nat) (sl : Int32) (sn : Int32) (ts : Int32) (ra : Int32) (rr : Int32) (rw : Int32) (rn : Int32) (um : Nat) (bs : Int32) (bh : Int32) (km : Int32) (th : Nat → Int32) (mo : Nat → Int32) (ah : Nat → Int32) (hum : um ≤ 8) : Ci l D cI cE yX9_undo cX9_undo 1 (some .int) 1 0 0 [.ref q0] [(q0, .inr (9, [.int (nI ro), .int (nI co), .int sl, .ref q3, .ref q4, .int sn, .ref q6, .ref q7, .ref q8, .ref q9, .int ts, .int ra, .int rr, .int rw, .ref q14, .ref q15, .int rn, .ref q17, .ref q18, .ref q19, .int (nI um), .int bs, .int bh, .ref q23, .ref q24, .ref q25, .int km])), (q3, .inl (cI, 48, .inl th)), (q4, .inl (cI, 48, .inl mo)), (q19, .inl (cI, 776, .inl ah))] (fun (r : Int32) (u : (Nat → Int32) × (Nat → Int32) × (Int32) × (Nat)) => ((nI (um - 1) = r) ∧ (0 < um) ∧ ((tkT (97 * (um - 1)) ah) = u.1) ∧ ((tkO (97 * (um - 1)) ah) = u.2.1) ∧ ((ah (97 * (um - 1))) = u.2.2.1) ∧ ((um - 1) = u.2.2.2) ∧ (True)) ∨ (((-2) = r) ∧ (um = 0) ∧ ((th) = u.1) ∧ ((mo) = u.2.1) ∧ ((sl) = u.2.2.1) ∧ ((um) = u.2.2.2) ∧ (True))) (fun (u : (Nat → Int32) × (Nat → Int32) × (Int32) × (Nat)) => ([(q0, .inr (9, [.int (nI ro), .int (nI co), .int u.2.2.1, .ref q3, .ref q4, .int sn, .ref q6, .ref q7, .ref q8, .ref q9, .int ts, .int ra, .int rr, .int rw, .ref q14, .ref q15, .int rn, .ref q17, .ref q18, .ref q19, .int (nI u.2.2.2), .int bs, .int bh, .ref q23, .ref q24, .ref q25, .int km])), (q3, .inl (cI, 48, .inl u.1)), (q4, .inl (cI, 48, .inl u.2.1)), (q19, .inl (cI, 776, .inl ah))] : va_W)) :=
  Ci.of (by decide) (Nat.le_of_ble_eq_true rfl) (fun _ _ _ => rfl) (fun X h hR => w_X9_undo X h q0 q3 q4 q6 q7 q8 q9 q14 q15 q17 q18 q19 q23 q24 q25 ro co sl sn ts ra rr rw rn um bs bh km th mo ah hum hR)
theorem yv_X9_undo : YV yX9_undo cX9_undo 1 (some .int) 0 := ⟨no_X9_undo, nv_X9_undo, ni_X9, nk_X9_undo, by decide +kernel⟩
set_option maxRecDepth 100000 in
set_option maxHeartbeats 4000000 in
theorem w_X9_keep (X : Cx) {cI cE : ClassId} (h : Ok X cX9_keep RX9 1 cI cE 1 0 0) (q0 : Nat) (q3 : Nat) (q4 : Nat) (q6 : Nat) (q7 : Nat) (q8 : Nat) (q9 : Nat) (q14 : Nat) (q15 : Nat) (q17 : Nat) (q18 : Nat) (q19 : Nat) (q23 : Nat) (q24 : Nat) (q25 : Nat) (ro : Nat) (co : Nat) (sl : Int32) (sn : Int32) (ts : Int32) (ra : Int32) (rr : Int32) (rw : Int32) (rn : Int32) (um : Nat) (bs : Int32) (bh : Int32) (km : Nat) (th : Nat → Int32) (mo : Nat → Int32) (kp : Nat → Int32) (hkm : km ≤ 2) (hR : ∀ (r : Int32) (u : (Nat → Int32) × (Nat)), ((nI (km + 1) = r) ∧ (km < 2) ∧ ((noteA (97 * km) sl th mo kp) = u.1) ∧ ((km + 1) = u.2) ∧ (True)) ∨ (((-3) = r) ∧ (km = 2) ∧ ((kp) = u.1) ∧ ((km) = u.2) ∧ (True)) → RetI X cX9_keep 1 0 0 r [(q0, .inr (9, [.int (nI ro), .int (nI co), .int sl, .ref q3, .ref q4, .int sn, .ref q6, .ref q7, .ref q8, .ref q9, .int ts, .int ra, .int rr, .int rw, .ref q14, .ref q15, .int rn, .ref q17, .ref q18, .ref q19, .int (nI um), .int bs, .int bh, .ref q23, .ref q24, .ref q25, .int (nI u.2)])), (q3, .inl (cI, 48, .inl th)), (q4, .inl (cI, 48, .inl mo)), (q25, .inl (cI, 194, .inl u.1))]) : J X 1 0 0 0 [(0, .ref q0)] [] [(q0, .inr (9, [.int (nI ro), .int (nI co), .int sl, .ref q3, .ref q4, .int sn, .ref q6, .ref q7, .ref q8, .ref q9, .int ts, .int ra, .int rr, .int rw, .ref q14, .ref q15, .int rn, .ref q17, .ref q18, .ref q19, .int (nI um), .int bs, .int bh, .ref q23, .ref q24, .ref q25, .int (nI km)])), (q3, .inl (cI, 48, .inl th)), (q4, .inl (cI, 48, .inl mo)), (q25, .inl (cI, 194, .inl kp))] := by
  refine J_aload_n h (i := 0) dX9_keep_0 rfl 0 rfl ?_
  refine J_get h inX9 rfl 0 26 (by decide) rfl rfl nf_X9_124 dX9_keep_1 ?_
  refine J_iconst h (v := nI 2) dX9_keep_4 (by decide) ?_
  refine N_icmp_ne h 11 dX9_keep_5 (by decide) (by omega) (by omega) (fun c_5 => ?_) (fun c_5 => ?_)
  · skip
    refine J_aload_n h (i := 0) dX9_keep_11 rfl 0 rfl ?_
    refine J_aload_n h (i := 0) dX9_keep_12 rfl 0 rfl ?_
    refine J_get h inX9 rfl 0 25 (by decide) rfl rfl nf_X9_49 dX9_keep_13 ?_
    refine J_bipush h (v := nI 97) dX9_keep_16 (by decide) ?_
    refine J_aload_n h (i := 0) dX9_keep_18 rfl 0 rfl ?_
    refine J_get h inX9 rfl 0 26 (by decide) rfl rfl nf_X9_124 dX9_keep_19 ?_
    refine N_imul h dX9_keep_22 ?_
    refine K_vv h (wr := []) (c_X9_lays194 (xl X) (xD X) cI cE q0 q3 q4 q6 q7 q8 q9 q14 q15 q17 q18 q19 q23 q24 q25 ro co sl sn ts ra rr rw rn (nI um) bs bh (nI km) th mo q25 kp (97 * km) (by first | assumption | omega | rfl)) yv_X9_lays nm_X9_148 (by decide) (by decide) rfl rfl 0 rfl rfl rfl rfl (Nat.le_of_ble_eq_true rfl) (Nat.le_refl _) (Nat.le_refl _) dX9_keep_23 (fun u_23 p_23 => ?_)
    show J X 1 0 0 26 [(0, .ref q0)] [] [(q0, .inr (9, [.int (nI ro), .int (nI co), .int sl, .ref q3, .ref q4, .int sn, .ref q6, .ref q7, .ref q8, .ref q9, .int ts, .int ra, .int rr, .int rw, .ref q14, .ref q15, .int rn, .ref q17, .ref q18, .ref q19, .int (nI um), .int bs, .int bh, .ref q23, .ref q24, .ref q25, .int (nI km)])), (q3, .inl (cI, 48, .inl th)), (q4, .inl (cI, 48, .inl mo)), (q25, .inl (cI, 194, .inl (noteA (97 * km) sl th mo kp)))]
    refine J_aload_n h (i := 0) dX9_keep_26 rfl 0 rfl ?_
    refine J_dup h dX9_keep_27 rfl ?_
    refine J_get h inX9 rfl 0 26 (by decide) rfl rfl nf_X9_124 dX9_keep_28 ?_
    refine J_iconst h (v := nI 1) dX9_keep_31 (by decide) ?_
    refine N_iadd h dX9_keep_32 ?_
    refine J_put h (ws' := [(q0, .inr (9, [.int (nI ro), .int (nI co), .int sl, .ref q3, .ref q4, .int sn, .ref q6, .ref q7, .ref q8, .ref q9, .int ts, .int ra, .int rr, .int rw, .ref q14, .ref q15, .int rn, .ref q17, .ref q18, .ref q19, .int (nI um), .int bs, .int bh, .ref q23, .ref q24, .ref q25, .int (nI (km + 1))])), (q3, .inl (cI, 48, .inl th)), (q4, .inl (cI, 48, .inl mo)), (q25, .inl (cI, 194, .inl (noteA (97 * km) sl th mo kp)))]) inX9 tyX9 tyX9_ok nmX9 rfl 0 26 (by decide) rfl nf_X9_124 rfl rfl rfl rfl (Nat.le_of_ble_eq_true rfl) dX9_keep_33 rfl ?_
    refine J_aload_n h (i := 0) dX9_keep_36 rfl 0 rfl ?_
    refine J_get h inX9 rfl 0 26 (by decide) rfl rfl nf_X9_124 dX9_keep_37 ?_
    exact hR (nI (km + 1)) (noteA (97 * km) sl th mo kp, km + 1) (by exact Or.inl ⟨rfl, by omega, rfl, rfl, trivial⟩) 40 _ dX9_keep_40
  · skip
    refine J_bipush h (v := (-3)) dX9_keep_8 (by decide) ?_
    exact hR ((-3)) (kp, km) (by exact Or.inr ⟨rfl, by omega, rfl, rfl, trivial⟩) 10 _ dX9_keep_10
theorem c_X9_keep (l : Launch) (D : va_G) (cI cE : ClassId) (q0 : Nat) (q3 : Nat) (q4 : Nat) (q6 : Nat) (q7 : Nat) (q8 : Nat) (q9 : Nat) (q14 : Nat) (q15 : Nat) (q17 : Nat) (q18 : Nat) (q19 : Nat) (q23 : Nat) (q24 : Nat) (q25 : Nat) (ro : Nat) (co : Nat) (sl : Int32) (sn : Int32) (ts : Int32) (ra : Int32) (rr : Int32) (rw : Int32) (rn : Int32) (um : Nat) (bs : Int32) (bh : Int32) (km : Nat) (th : Nat → Int32) (mo : Nat → Int32) (kp : Nat → Int32) (hkm : km ≤ 2) : Ci l D cI cE yX9_keep cX9_keep 1 (some .int) 1 0 0 [.ref q0] [(q0, .inr (9, [.int (nI ro), .int (nI co), .int sl, .ref q3, .ref q4, .int sn, .ref q6, .ref q7, .ref q8, .ref q9, .int ts, .int ra, .int rr, .int rw, .ref q14, .ref q15, .int rn, .ref q17, .ref q18, .ref q19, .int (nI um), .int bs, .int bh, .ref q23, .ref q24, .ref q25, .int (nI km)])), (q3, .inl (cI, 48, .inl th)), (q4, .inl (cI, 48, .inl mo)), (q25, .inl (cI, 194, .inl kp))] (fun (r : Int32) (u : (Nat → Int32) × (Nat)) => ((nI (km + 1) = r) ∧ (km < 2) ∧ ((noteA (97 * km) sl th mo kp) = u.1) ∧ ((km + 1) = u.2) ∧ (True)) ∨ (((-3) = r) ∧ (km = 2) ∧ ((kp) = u.1) ∧ ((km) = u.2) ∧ (True))) (fun (u : (Nat → Int32) × (Nat)) => ([(q0, .inr (9, [.int (nI ro), .int (nI co), .int sl, .ref q3, .ref q4, .int sn, .ref q6, .ref q7, .ref q8, .ref q9, .int ts, .int ra, .int rr, .int rw, .ref q14, .ref q15, .int rn, .ref q17, .ref q18, .ref q19, .int (nI um), .int bs, .int bh, .ref q23, .ref q24, .ref q25, .int (nI u.2)])), (q3, .inl (cI, 48, .inl th)), (q4, .inl (cI, 48, .inl mo)), (q25, .inl (cI, 194, .inl u.1))] : va_W)) :=
  Ci.of (by decide) (Nat.le_of_ble_eq_true rfl) (fun _ _ _ => rfl) (fun X h hR => w_X9_keep X h q0 q3 q4 q6 q7 q8 q9 q14 q15 q17 q18 q19 q23 q24 q25 ro co sl sn ts ra rr rw rn um bs bh km th mo kp hkm hR)
theorem yv_X9_keep : YV yX9_keep cX9_keep 1 (some .int) 0 := ⟨no_X9_keep, nv_X9_keep, ni_X9, nk_X9_keep, by decide +kernel⟩
set_option maxRecDepth 100000 in
set_option maxHeartbeats 4000000 in
theorem w_X9_back (X : Cx) {cI cE : ClassId} (h : Ok X cX9_back RX9 1 cI cE 1 0 0) (q0 : Nat) (q3 : Nat) (q4 : Nat) (q6 : Nat) (q7 : Nat) (q8 : Nat) (q9 : Nat) (q14 : Nat) (q15 : Nat) (q17 : Nat) (q18 : Nat) (q19 : Nat) (q23 : Nat) (q24 : Nat) (q25 : Nat) (ro : Nat) (co : Nat) (sl : Int32) (sn : Int32) (ts : Int32) (ra : Int32) (rr : Int32) (rw : Int32) (rn : Int32) (um : Nat) (bs : Int32) (bh : Int32) (km : Nat) (th : Nat → Int32) (mo : Nat → Int32) (kp : Nat → Int32) (hkm : km ≤ 2) (hR : ∀ (r : Int32) (u : (Nat → Int32) × (Nat → Int32) × (Int32) × (Nat) × (Nat)), ((nI (km - 1) = r) ∧ (0 < km) ∧ ((tkT (97 * (km - 1)) kp) = u.1) ∧ ((tkO (97 * (km - 1)) kp) = u.2.1) ∧ ((kp (97 * (km - 1))) = u.2.2.1) ∧ ((0) = u.2.2.2.1) ∧ ((km - 1) = u.2.2.2.2) ∧ (True)) ∨ (((-2) = r) ∧ (km = 0) ∧ ((th) = u.1) ∧ ((mo) = u.2.1) ∧ ((sl) = u.2.2.1) ∧ ((um) = u.2.2.2.1) ∧ ((km) = u.2.2.2.2) ∧ (True)) → RetI X cX9_back 1 0 0 r [(q0, .inr (9, [.int (nI ro), .int (nI co), .int u.2.2.1, .ref q3, .ref q4, .int sn, .ref q6, .ref q7, .ref q8, .ref q9, .int ts, .int ra, .int rr, .int rw, .ref q14, .ref q15, .int rn, .ref q17, .ref q18, .ref q19, .int (nI u.2.2.2.1), .int bs, .int bh, .ref q23, .ref q24, .ref q25, .int (nI u.2.2.2.2)])), (q3, .inl (cI, 48, .inl u.1)), (q4, .inl (cI, 48, .inl u.2.1)), (q25, .inl (cI, 194, .inl kp))]) : J X 1 0 0 0 [(0, .ref q0)] [] [(q0, .inr (9, [.int (nI ro), .int (nI co), .int sl, .ref q3, .ref q4, .int sn, .ref q6, .ref q7, .ref q8, .ref q9, .int ts, .int ra, .int rr, .int rw, .ref q14, .ref q15, .int rn, .ref q17, .ref q18, .ref q19, .int (nI um), .int bs, .int bh, .ref q23, .ref q24, .ref q25, .int (nI km)])), (q3, .inl (cI, 48, .inl th)), (q4, .inl (cI, 48, .inl mo)), (q25, .inl (cI, 194, .inl kp))] := by
  refine J_aload_n h (i := 0) dX9_back_0 rfl 0 rfl ?_
  refine J_get h inX9 rfl 0 26 (by decide) rfl rfl nf_X9_124 dX9_back_1 ?_
  refine N_if_ne h 10 dX9_back_4 (by decide) (by omega) (fun c_4 => ?_) (fun c_4 => ?_)
  · skip
    refine J_aload_n h (i := 0) dX9_back_10 rfl 0 rfl ?_
    refine J_dup h dX9_back_11 rfl ?_
    refine J_get h inX9 rfl 0 26 (by decide) rfl rfl nf_X9_124 dX9_back_12 ?_
    refine J_iconst h (v := nI 1) dX9_back_15 (by decide) ?_
    refine N_isub h (by omega) dX9_back_16 ?_
    refine J_put h (ws' := [(q0, .inr (9, [.int (nI ro), .int (nI co), .int sl, .ref q3, .ref q4, .int sn, .ref q6, .ref q7, .ref q8, .ref q9, .int ts, .int ra, .int rr, .int rw, .ref q14, .ref q15, .int rn, .ref q17, .ref q18, .ref q19, .int (nI um), .int bs, .int bh, .ref q23, .ref q24, .ref q25, .int (nI (km - 1))])), (q3, .inl (cI, 48, .inl th)), (q4, .inl (cI, 48, .inl mo)), (q25, .inl (cI, 194, .inl kp))]) inX9 tyX9 tyX9_ok nmX9 rfl 0 26 (by decide) rfl nf_X9_124 rfl rfl rfl rfl (Nat.le_of_ble_eq_true rfl) dX9_back_17 rfl ?_
    refine J_aload_n h (i := 0) dX9_back_20 rfl 0 rfl ?_
    refine J_aload_n h (i := 0) dX9_back_21 rfl 0 rfl ?_
    refine J_get h inX9 rfl 0 25 (by decide) rfl rfl nf_X9_49 dX9_back_22 ?_
    refine J_bipush h (v := nI 97) dX9_back_25 (by decide) ?_
    refine J_aload_n h (i := 0) dX9_back_27 rfl 0 rfl ?_
    refine J_get h inX9 rfl 0 26 (by decide) rfl rfl nf_X9_124 dX9_back_28 ?_
    refine N_imul h dX9_back_31 ?_
    refine K_vv h (wr := []) (c_X9_takes194 (xl X) (xD X) cI cE q0 q3 q4 q6 q7 q8 q9 q14 q15 q17 q18 q19 q23 q24 q25 ro co sl sn ts ra rr rw rn (nI um) bs bh (nI (km - 1)) th mo q25 kp (97 * (km - 1)) (by first | assumption | omega | rfl)) yv_X9_takes nm_X9_167 (by decide) (by decide) rfl rfl 0 rfl rfl rfl rfl (Nat.le_of_ble_eq_true rfl) (Nat.le_refl _) (Nat.le_refl _) dX9_back_32 (fun u_32 p_32 => ?_)
    show J X 1 0 0 35 [(0, .ref q0)] [] [(q0, .inr (9, [.int (nI ro), .int (nI co), .int (kp (97 * (km - 1))), .ref q3, .ref q4, .int sn, .ref q6, .ref q7, .ref q8, .ref q9, .int ts, .int ra, .int rr, .int rw, .ref q14, .ref q15, .int rn, .ref q17, .ref q18, .ref q19, .int (nI um), .int bs, .int bh, .ref q23, .ref q24, .ref q25, .int (nI (km - 1))])), (q3, .inl (cI, 48, .inl (tkT (97 * (km - 1)) kp))), (q4, .inl (cI, 48, .inl (tkO (97 * (km - 1)) kp))), (q25, .inl (cI, 194, .inl kp))]
    refine J_aload_n h (i := 0) dX9_back_35 rfl 0 rfl ?_
    refine J_iconst h (v := nI 0) dX9_back_36 (by decide) ?_
    refine J_put h (ws' := [(q0, .inr (9, [.int (nI ro), .int (nI co), .int (kp (97 * (km - 1))), .ref q3, .ref q4, .int sn, .ref q6, .ref q7, .ref q8, .ref q9, .int ts, .int ra, .int rr, .int rw, .ref q14, .ref q15, .int rn, .ref q17, .ref q18, .ref q19, .int (nI 0), .int bs, .int bh, .ref q23, .ref q24, .ref q25, .int (nI (km - 1))])), (q3, .inl (cI, 48, .inl (tkT (97 * (km - 1)) kp))), (q4, .inl (cI, 48, .inl (tkO (97 * (km - 1)) kp))), (q25, .inl (cI, 194, .inl kp))]) inX9 tyX9 tyX9_ok nmX9 rfl 0 20 (by decide) rfl nf_X9_121 rfl rfl rfl rfl (Nat.le_of_ble_eq_true rfl) dX9_back_37 rfl ?_
    refine J_aload_n h (i := 0) dX9_back_40 rfl 0 rfl ?_
    refine J_get h inX9 rfl 0 26 (by decide) rfl rfl nf_X9_124 dX9_back_41 ?_
    exact hR (nI (km - 1)) (tkT (97 * (km - 1)) kp, tkO (97 * (km - 1)) kp, kp (97 * (km - 1)), 0, km - 1) (by exact Or.inl ⟨rfl, by omega, rfl, rfl, rfl, rfl, rfl, trivial⟩) 44 _ dX9_back_44
  · skip
    refine J_bipush h (v := (-2)) dX9_back_7 (by decide) ?_
    exact hR ((-2)) (th, mo, sl, um, km) (by exact Or.inr ⟨rfl, by omega, rfl, rfl, rfl, rfl, rfl, trivial⟩) 9 _ dX9_back_9
theorem c_X9_back (l : Launch) (D : va_G) (cI cE : ClassId) (q0 : Nat) (q3 : Nat) (q4 : Nat) (q6 : Nat) (q7 : Nat) (q8 : Nat) (q9 : Nat) (q14 : Nat) (q15 : Nat) (q17 : Nat) (q18 : Nat) (q19 : Nat) (q23 : Nat) (q24 : Nat) (q25 : Nat) (ro : Nat) (co : Nat) (sl : Int32) (sn : Int32) (ts : Int32) (ra : Int32) (rr : Int32) (rw : Int32) (rn : Int32) (um : Nat) (bs : Int32) (bh : Int32) (km : Nat) (th : Nat → Int32) (mo : Nat → Int32) (kp : Nat → Int32) (hkm : km ≤ 2) : Ci l D cI cE yX9_back cX9_back 1 (some .int) 1 0 0 [.ref q0] [(q0, .inr (9, [.int (nI ro), .int (nI co), .int sl, .ref q3, .ref q4, .int sn, .ref q6, .ref q7, .ref q8, .ref q9, .int ts, .int ra, .int rr, .int rw, .ref q14, .ref q15, .int rn, .ref q17, .ref q18, .ref q19, .int (nI um), .int bs, .int bh, .ref q23, .ref q24, .ref q25, .int (nI km)])), (q3, .inl (cI, 48, .inl th)), (q4, .inl (cI, 48, .inl mo)), (q25, .inl (cI, 194, .inl kp))] (fun (r : Int32) (u : (Nat → Int32) × (Nat → Int32) × (Int32) × (Nat) × (Nat)) => ((nI (km - 1) = r) ∧ (0 < km) ∧ ((tkT (97 * (km - 1)) kp) = u.1) ∧ ((tkO (97 * (km - 1)) kp) = u.2.1) ∧ ((kp (97 * (km - 1))) = u.2.2.1) ∧ ((0) = u.2.2.2.1) ∧ ((km - 1) = u.2.2.2.2) ∧ (True)) ∨ (((-2) = r) ∧ (km = 0) ∧ ((th) = u.1) ∧ ((mo) = u.2.1) ∧ ((sl) = u.2.2.1) ∧ ((um) = u.2.2.2.1) ∧ ((km) = u.2.2.2.2) ∧ (True))) (fun (u : (Nat → Int32) × (Nat → Int32) × (Int32) × (Nat) × (Nat)) => ([(q0, .inr (9, [.int (nI ro), .int (nI co), .int u.2.2.1, .ref q3, .ref q4, .int sn, .ref q6, .ref q7, .ref q8, .ref q9, .int ts, .int ra, .int rr, .int rw, .ref q14, .ref q15, .int rn, .ref q17, .ref q18, .ref q19, .int (nI u.2.2.2.1), .int bs, .int bh, .ref q23, .ref q24, .ref q25, .int (nI u.2.2.2.2)])), (q3, .inl (cI, 48, .inl u.1)), (q4, .inl (cI, 48, .inl u.2.1)), (q25, .inl (cI, 194, .inl kp))] : va_W)) :=
  Ci.of (by decide) (Nat.le_of_ble_eq_true rfl) (fun _ _ _ => rfl) (fun X h hR => w_X9_back X h q0 q3 q4 q6 q7 q8 q9 q14 q15 q17 q18 q19 q23 q24 q25 ro co sl sn ts ra rr rw rn um bs bh km th mo kp hkm hR)
theorem yv_X9_back : YV yX9_back cX9_back 1 (some .int) 0 := ⟨no_X9_back, nv_X9_back, ni_X9, nk_X9_back, by decide +kernel⟩
set_option maxRecDepth 100000 in
set_option maxHeartbeats 4000000 in
theorem w_X9_gives_2 (X : Cx) {cI cE : ClassId} (h : Ok X cX9_gives RX9 3 cI cE 0 0 0) (q0 : Nat) (q3 : Nat) (q4 : Nat) (q6 : Nat) (q7 : Nat) (q8 : Nat) (q9 : Nat) (q14 : Nat) (q15 : Nat) (q17 : Nat) (q18 : Nat) (q19 : Nat) (q23 : Nat) (q24 : Nat) (q25 : Nat) (ro : Nat) (co : Nat) (sl : Int32) (sn : Int32) (ts : Int32) (ra : Int32) (rr : Int32) (rw : Int32) (rn : Int32) (um : Int32) (bs : Int32) (bh : Int32) (km : Int32) (th : Nat → Int32) (mo : Nat → Int32) (ce : Nat → Int32) (se : Nat → Int32) (cth : Nat → Int32) (cow : Nat → Int32) (p0 : Int32) (cl : Nat → Nat) (len : Nat) (hrc : ro * co ≤ 48) (hco : co ≤ 6) (hro : ro ≤ 8) (hrel : rel (ro * co) th mo cth cow) (hc : ∀ k, k < len → ce k = nI (cl k) ∧ cl k < ro * co) (hcn : ∀ k, len ≤ k → k < 8 → ce k = (-4)) (hl : len ≤ ro) (hs : 0 ≤ p0.toInt ∧ p0.toInt < 4) (hR : ∀ (u : (Nat → Int32)), ((rel (ro * co) th u cth (owB cow p0 cl len)) ∧ (True)) → RetV X cX9_gives 3 0 0 [(q0, .inr (9, [.int (nI ro), .int (nI co), .int sl, .ref q3, .ref q4, .int sn, .ref q6, .ref q7, .ref q8, .ref q9, .int ts, .int ra, .int rr, .int rw, .ref q14, .ref q15, .int rn, .ref q17, .ref q18, .ref q19, .int um, .int bs, .int bh, .ref q23, .ref q24, .ref q25, .int km])), (q3, .inl (cI, 48, .inl th)), (q4, .inl (cI, 48, .inl u)), (q17, .inl (cI, 8, .inl ce)), (q18, .inl (cI, 8, .inl se))]) : ∀ (n_2 : Nat) (i : Nat) (m1 : Nat → Int32), (i ≤ ro) → (rel (ro * co) th m1 cth (owB cow p0 cl (min i len))) → ro - i < n_2 → J X 3 0 0 2 [(0, .ref q0), (1, .int p0), (2, .int (nI i))] [] [(q0, .inr (9, [.int (nI ro), .int (nI co), .int sl, .ref q3, .ref q4, .int sn, .ref q6, .ref q7, .ref q8, .ref q9, .int ts, .int ra, .int rr, .int rw, .ref q14, .ref q15, .int rn, .ref q17, .ref q18, .ref q19, .int um, .int bs, .int bh, .ref q23, .ref q24, .ref q25, .int km])), (q3, .inl (cI, 48, .inl th)), (q4, .inl (cI, 48, .inl m1)), (q17, .inl (cI, 8, .inl ce)), (q18, .inl (cI, 8, .inl se))] := by
  intro n_2
  induction n_2 with
  | zero => intro i m1 hi hm hn_; exact absurd hn_ (Nat.not_lt_zero _)
  | succ n_2 ih_2 =>
    intro i m1 hi hm hn_2
    refine J_iload_n h (i := 2) dX9_gives_2 rfl 2 rfl ?_
    refine J_aload_n h (i := 0) dX9_gives_3 rfl 0 rfl ?_
    refine J_get h inX9 rfl 0 0 (by decide) rfl rfl nf_X9_60 dX9_gives_4 ?_
    refine N_icmp_ge h 39 dX9_gives_7 (by decide) (by omega) (by omega) (fun c_7 => ?_) (fun c_7 => ?_)
    · skip
      exact hR m1 (⟨(by rw [show len = min i len by omega]; exact hm), trivial⟩) 39 _ dX9_gives_39
    · skip
      refine J_aload_n h (i := 0) dX9_gives_10 rfl 0 rfl ?_
      refine J_get h inX9 rfl 0 17 (by decide) rfl rfl nf_X9_34 dX9_gives_11 ?_
      refine J_iload_n h (i := 2) dX9_gives_14 rfl 2 rfl ?_
      refine N_iald h 3 rfl (by decide) (by omega) dX9_gives_15 ?_
      refine J_bipush h (v := (-4)) dX9_gives_16 (by decide) ?_
      refine T_icmp_eq h (A := (ce i).toInt) (B := (-4)) 33 dX9_gives_18 (by decide) (rfl) (by decide) (fun c_18 => ?_) (fun c_18 => ?_)
      · skip
        refine J_iinc h (v := nI (i + 1)) (lv' := [(2, .int (nI (i + 1))), (0, .ref q0), (1, .int p0)]) dX9_gives_33 2 rfl (inc_ok _ 1) (by decide) rfl ?_
        refine J_goto h 2 dX9_gives_36 (by decide) ?_
        refine J.loc [1, 2, 0] (lv' := [(0, .ref q0), (1, .int p0), (2, .int (nI (i + 1)))]) rfl ?_
        exact ih_2 (i + 1) m1 (by first | exact hi |  assumption | omega | rfl) (by first | (rw [gv_same hrc hc c_18]; exact hm) | (rw [show min (i + 1) len = i + 1 by omega]; rw [show min i len = i by omega] at hm; exact rel_updO hm (cl i) (by unfold sON; rw [if_neg (by omega)]) (by omega) (by omega))) (by omega)
      · skip
        have hil := gv_lt hcn (show i < 8 by omega) c_18
        obtain ⟨hc1, hc2⟩ := hc i hil
        refine J_aload_n h (i := 0) dX9_gives_21 rfl 0 rfl ?_
        refine J_get h inX9 rfl 0 4 (by decide) rfl rfl nf_X9_13 dX9_gives_22 ?_
        refine J_aload_n h (i := 0) dX9_gives_25 rfl 0 rfl ?_
        refine J_get h inX9 rfl 0 17 (by decide) rfl rfl nf_X9_34 dX9_gives_26 ?_
        refine J_iload_n h (i := 2) dX9_gives_29 rfl 2 rfl ?_
        refine N_iald h 3 rfl (by decide) (by omega) dX9_gives_30 ?_
        refine J_eqs (st' := [.int (nI (cl i)), .ref q4]) (by rw [hc1]) ?_
        refine J_iload_n h (i := 1) dX9_gives_31 rfl 1 rfl ?_
        refine N_iast h (ws' := [(q0, .inr (9, [.int (nI ro), .int (nI co), .int sl, .ref q3, .ref q4, .int sn, .ref q6, .ref q7, .ref q8, .ref q9, .int ts, .int ra, .int rr, .int rw, .ref q14, .ref q15, .int rn, .ref q17, .ref q18, .ref q19, .int um, .int bs, .int bh, .ref q23, .ref q24, .ref q25, .int km])), (q3, .inl (cI, 48, .inl th)), (q4, .inl (cI, 48, .inl (upd m1 (cl i) p0))), (q17, .inl (cI, 8, .inl ce)), (q18, .inl (cI, 8, .inl se))]) 2 rfl (by decide) (by omega) dX9_gives_32 rfl ?_
        refine J_iinc h (v := nI (i + 1)) (lv' := [(2, .int (nI (i + 1))), (0, .ref q0), (1, .int p0)]) dX9_gives_33 2 rfl (inc_ok _ 1) (by decide) rfl ?_
        refine J_goto h 2 dX9_gives_36 (by decide) ?_
        refine J.loc [1, 2, 0] (lv' := [(0, .ref q0), (1, .int p0), (2, .int (nI (i + 1)))]) rfl ?_
        exact ih_2 (i + 1) (upd m1 (cl i) p0) (by first | exact hi |  assumption | omega | rfl) (by first | (rw [gv_same hrc hc c_18]; exact hm) | (rw [show min (i + 1) len = i + 1 by omega]; rw [show min i len = i by omega] at hm; exact rel_updO hm (cl i) (by unfold sON; rw [if_neg (by omega)]) (by omega) (by omega))) (by omega)
set_option maxRecDepth 100000 in
set_option maxHeartbeats 4000000 in
theorem w_X9_gives (X : Cx) {cI cE : ClassId} (h : Ok X cX9_gives RX9 3 cI cE 0 0 0) (q0 : Nat) (q3 : Nat) (q4 : Nat) (q6 : Nat) (q7 : Nat) (q8 : Nat) (q9 : Nat) (q14 : Nat) (q15 : Nat) (q17 : Nat) (q18 : Nat) (q19 : Nat) (q23 : Nat) (q24 : Nat) (q25 : Nat) (ro : Nat) (co : Nat) (sl : Int32) (sn : Int32) (ts : Int32) (ra : Int32) (rr : Int32) (rw : Int32) (rn : Int32) (um : Int32) (bs : Int32) (bh : Int32) (km : Int32) (th : Nat → Int32) (mo : Nat → Int32) (ce : Nat → Int32) (se : Nat → Int32) (cth : Nat → Int32) (cow : Nat → Int32) (p0 : Int32) (cl : Nat → Nat) (len : Nat) (hrc : ro * co ≤ 48) (hco : co ≤ 6) (hro : ro ≤ 8) (hrel : rel (ro * co) th mo cth cow) (hc : ∀ k, k < len → ce k = nI (cl k) ∧ cl k < ro * co) (hcn : ∀ k, len ≤ k → k < 8 → ce k = (-4)) (hl : len ≤ ro) (hs : 0 ≤ p0.toInt ∧ p0.toInt < 4) (hR : ∀ (u : (Nat → Int32)), ((rel (ro * co) th u cth (owB cow p0 cl len)) ∧ (True)) → RetV X cX9_gives 3 0 0 [(q0, .inr (9, [.int (nI ro), .int (nI co), .int sl, .ref q3, .ref q4, .int sn, .ref q6, .ref q7, .ref q8, .ref q9, .int ts, .int ra, .int rr, .int rw, .ref q14, .ref q15, .int rn, .ref q17, .ref q18, .ref q19, .int um, .int bs, .int bh, .ref q23, .ref q24, .ref q25, .int km])), (q3, .inl (cI, 48, .inl th)), (q4, .inl (cI, 48, .inl u)), (q17, .inl (cI, 8, .inl ce)), (q18, .inl (cI, 8, .inl se))]) : J X 3 0 0 0 [(0, .ref q0), (1, .int p0)] [] [(q0, .inr (9, [.int (nI ro), .int (nI co), .int sl, .ref q3, .ref q4, .int sn, .ref q6, .ref q7, .ref q8, .ref q9, .int ts, .int ra, .int rr, .int rw, .ref q14, .ref q15, .int rn, .ref q17, .ref q18, .ref q19, .int um, .int bs, .int bh, .ref q23, .ref q24, .ref q25, .int km])), (q3, .inl (cI, 48, .inl th)), (q4, .inl (cI, 48, .inl mo)), (q17, .inl (cI, 8, .inl ce)), (q18, .inl (cI, 8, .inl se))] := by
  refine J_iconst h (v := nI 0) dX9_gives_0 (by decide) ?_
  refine J_istore_n h (i := 2) (lv' := [(2, .int (nI 0)), (0, .ref q0), (1, .int p0)]) dX9_gives_1 rfl (by decide) rfl ?_
  refine J.loc [1, 2, 0] (lv' := [(0, .ref q0), (1, .int p0), (2, .int (nI 0))]) rfl ?_
  exact w_X9_gives_2 X h q0 q3 q4 q6 q7 q8 q9 q14 q15 q17 q18 q19 q23 q24 q25 ro co sl sn ts ra rr rw rn um bs bh km th mo ce se cth cow p0 cl len hrc hco hro hrel hc hcn hl hs hR  (ro - 0 + 1) 0 mo (by first | assumption | omega | rfl) (by rw [Nat.zero_min]; exact hrel) (by omega)
theorem c_X9_gives (l : Launch) (D : va_G) (cI cE : ClassId) (q0 : Nat) (q3 : Nat) (q4 : Nat) (q6 : Nat) (q7 : Nat) (q8 : Nat) (q9 : Nat) (q14 : Nat) (q15 : Nat) (q17 : Nat) (q18 : Nat) (q19 : Nat) (q23 : Nat) (q24 : Nat) (q25 : Nat) (ro : Nat) (co : Nat) (sl : Int32) (sn : Int32) (ts : Int32) (ra : Int32) (rr : Int32) (rw : Int32) (rn : Int32) (um : Int32) (bs : Int32) (bh : Int32) (km : Int32) (th : Nat → Int32) (mo : Nat → Int32) (ce : Nat → Int32) (se : Nat → Int32) (cth : Nat → Int32) (cow : Nat → Int32) (p0 : Int32) (cl : Nat → Nat) (len : Nat) (hrc : ro * co ≤ 48) (hco : co ≤ 6) (hro : ro ≤ 8) (hrel : rel (ro * co) th mo cth cow) (hc : ∀ k, k < len → ce k = nI (cl k) ∧ cl k < ro * co) (hcn : ∀ k, len ≤ k → k < 8 → ce k = (-4)) (hl : len ≤ ro) (hs : 0 ≤ p0.toInt ∧ p0.toInt < 4) : Cv l D cI cE yX9_gives cX9_gives 3 none 0 0 0 [.ref q0, .int p0] [(q0, .inr (9, [.int (nI ro), .int (nI co), .int sl, .ref q3, .ref q4, .int sn, .ref q6, .ref q7, .ref q8, .ref q9, .int ts, .int ra, .int rr, .int rw, .ref q14, .ref q15, .int rn, .ref q17, .ref q18, .ref q19, .int um, .int bs, .int bh, .ref q23, .ref q24, .ref q25, .int km])), (q3, .inl (cI, 48, .inl th)), (q4, .inl (cI, 48, .inl mo)), (q17, .inl (cI, 8, .inl ce)), (q18, .inl (cI, 8, .inl se))] (fun (u : (Nat → Int32)) => ((rel (ro * co) th u cth (owB cow p0 cl len)) ∧ (True))) (fun (u : (Nat → Int32)) => ([(q0, .inr (9, [.int (nI ro), .int (nI co), .int sl, .ref q3, .ref q4, .int sn, .ref q6, .ref q7, .ref q8, .ref q9, .int ts, .int ra, .int rr, .int rw, .ref q14, .ref q15, .int rn, .ref q17, .ref q18, .ref q19, .int um, .int bs, .int bh, .ref q23, .ref q24, .ref q25, .int km])), (q3, .inl (cI, 48, .inl th)), (q4, .inl (cI, 48, .inl u)), (q17, .inl (cI, 8, .inl ce)), (q18, .inl (cI, 8, .inl se))] : va_W)) :=
  Cv.of (by decide) (Nat.le_of_ble_eq_true rfl) (fun X h hR _ => w_X9_gives X h q0 q3 q4 q6 q7 q8 q9 q14 q15 q17 q18 q19 q23 q24 q25 ro co sl sn ts ra rr rw rn um bs bh km th mo ce se cth cow p0 cl len hrc hco hro hrel hc hcn hl hs hR)
theorem yv_X9_gives : YV yX9_gives cX9_gives 3 none 1 := ⟨no_X9_gives, nv_X9_gives, ni_X9, nk_X9_gives, by decide +kernel⟩
set_option maxRecDepth 100000 in
set_option maxHeartbeats 4000000 in
theorem w_X9_slide (X : Cx) {cI cE : ClassId} (h : Ok X cX9_slide RX9 6 cI cE 3 0 0) (q0 : Nat) (q3 : Nat) (q4 : Nat) (q6 : Nat) (q7 : Nat) (q8 : Nat) (q9 : Nat) (q14 : Nat) (q15 : Nat) (q17 : Nat) (q18 : Nat) (q19 : Nat) (q23 : Nat) (q24 : Nat) (q25 : Nat) (ro : Nat) (co : Nat) (sl : Int32) (sn : Int32) (ts : Int32) (ra : Int32) (rr : Int32) (rw : Int32) (rn : Int32) (um : Nat) (bs : Int32) (bh : Int32) (km : Int32) (th : Nat → Int32) (mo : Nat → Int32) (ce : Nat → Int32) (se : Nat → Int32) (ah : Nat → Int32) (cth : Nat → Int32) (cow : Nat → Int32) (p0 : Int32) (p1 : Int32) (p2 : Int32) (p3 : Int32) (hrc : ro * co ≤ 48) (hco : co ≤ 6) (hro : ro ≤ 8) (hrel : rel (ro * co) th mo cth cow) (hum : um ≤ 8) (hR : ∀ (r : Int32) (u : (Nat → Int32) × (Int32) × (Nat) × (Nat → Int32) × (Nat → Int32) × (Nat → Int32)), ((nI (ren cth co ro (tn p3) (tn p1) (tn p2)) = r) ∧ (vSide p0) ∧ (vRide co p1 p2 p3) ∧ (rel (ro * co) th u.1 cth (owB cow p0 (rcl cth co (tn p3) (tn p1) (tn p2)) (rln cth co ro (tn p3) (tn p1) (tn p2)))) ∧ ((sl + nI 1) = u.2.1) ∧ ((ntN um) = u.2.2.1) ∧ ((ntA um sl th mo ah) = u.2.2.2.1) ∧ (True)) ∨ (((-1) = r) ∧ (¬ (vSide p0 ∧ vRide co p1 p2 p3)) ∧ ((mo) = u.1) ∧ ((sl) = u.2.1) ∧ ((um) = u.2.2.1) ∧ ((ah) = u.2.2.2.1) ∧ (True)) → RetI X cX9_slide 6 0 0 r [(q0, .inr (9, [.int (nI ro), .int (nI co), .int u.2.1, .ref q3, .ref q4, .int sn, .ref q6, .ref q7, .ref q8, .ref q9, .int ts, .int ra, .int rr, .int rw, .ref q14, .ref q15, .int rn, .ref q17, .ref q18, .ref q19, .int (nI u.2.2.1), .int bs, .int bh, .ref q23, .ref q24, .ref q25, .int km])), (q3, .inl (cI, 48, .inl th)), (q4, .inl (cI, 48, .inl u.1)), (q17, .inl (cI, 8, .inl u.2.2.2.2.1)), (q18, .inl (cI, 8, .inl u.2.2.2.2.2)), (q19, .inl (cI, 776, .inl u.2.2.2.1))]) : J X 6 0 0 0 [(0, .ref q0), (1, .int p0), (2, .int p1), (3, .int p2), (4, .int p3)] [] [(q0, .inr (9, [.int (nI ro), .int (nI co), .int sl, .ref q3, .ref q4, .int sn, .ref q6, .ref q7, .ref q8, .ref q9, .int ts, .int ra, .int rr, .int rw, .ref q14, .ref q15, .int rn, .ref q17, .ref q18, .ref q19, .int (nI um), .int bs, .int bh, .ref q23, .ref q24, .ref q25, .int km])), (q3, .inl (cI, 48, .inl th)), (q4, .inl (cI, 48, .inl mo)), (q17, .inl (cI, 8, .inl ce)), (q18, .inl (cI, 8, .inl se)), (q19, .inl (cI, 776, .inl ah))] := by
  refine J_iload_n h (i := 1) dX9_slide_0 rfl 1 rfl ?_
  refine K_si h (wr := [(q0, .inr (9, [.int (nI ro), .int (nI co), .int sl, .ref q3, .ref q4, .int sn, .ref q6, .ref q7, .ref q8, .ref q9, .int ts, .int ra, .int rr, .int rw, .ref q14, .ref q15, .int rn, .ref q17, .ref q18, .ref q19, .int (nI um), .int bs, .int bh, .ref q23, .ref q24, .ref q25, .int km])), (q3, .inl (cI, 48, .inl th)), (q4, .inl (cI, 48, .inl mo)), (q17, .inl (cI, 8, .inl ce)), (q18, .inl (cI, 8, .inl se)), (q19, .inl (cI, 776, .inl ah))]) (c_X9_isSide (xl X) (xD X) cI cE p0 ((p0).toInt) (by exact rfl)) yv_X9_isSide nm_X9_141 (by decide) (by decide) rfl rfl rfl (Nat.le_of_ble_eq_true rfl) (Nat.le_refl _) (Nat.le_refl _) dX9_slide_1 (fun r_1 u_1 p_1 => ?_)
  rcases p_1 with p_1 | p_1
  · obtain ⟨rfl, f0_1, -⟩ := p_1
    show J X 6 0 0 4 [(0, .ref q0), (1, .int p0), (2, .int p1), (3, .int p2), (4, .int p3)] [.int (nI 1)] [(q0, .inr (9, [.int (nI ro), .int (nI co), .int sl, .ref q3, .ref q4, .int sn, .ref q6, .ref q7, .ref q8, .ref q9, .int ts, .int ra, .int rr, .int rw, .ref q14, .ref q15, .int rn, .ref q17, .ref q18, .ref q19, .int (nI um), .int bs, .int bh, .ref q23, .ref q24, .ref q25, .int km])), (q3, .inl (cI, 48, .inl th)), (q4, .inl (cI, 48, .inl mo)), (q17, .inl (cI, 8, .inl ce)), (q18, .inl (cI, 8, .inl se)), (q19, .inl (cI, 776, .inl ah))]
    refine J_if_eq h 18 dX9_slide_4 (by decide) (fun z => absurd z (by decide)) (fun _ => ?_)
    refine J_aload_n h (i := 0) dX9_slide_7 rfl 0 rfl ?_
    refine J_iload_n h (i := 2) dX9_slide_8 rfl 2 rfl ?_
    refine J_iload_n h (i := 3) dX9_slide_9 rfl 3 rfl ?_
    refine J_iload h dX9_slide_10 4 rfl ?_
    refine K_vi h (wr := [(q3, .inl (cI, 48, .inl th)), (q4, .inl (cI, 48, .inl mo)), (q17, .inl (cI, 8, .inl ce)), (q18, .inl (cI, 8, .inl se)), (q19, .inl (cI, 776, .inl ah))]) (c_X9_isSlide (xl X) (xD X) cI cE q0 q3 q4 q6 q7 q8 q9 q14 q15 q17 q18 q19 q23 q24 q25 ro co sl sn ts ra rr rw rn (nI um) bs bh km p1 p2 p3 (by first | exact hco |  assumption | omega | rfl)) yv_X9_isSlide nm_X9_134 (by decide) (by decide) rfl rfl 0 rfl rfl rfl rfl (Nat.le_of_ble_eq_true rfl) (Nat.le_refl _) (Nat.le_refl _) dX9_slide_12 (fun r_12 u_12 p_12 => ?_)
    rcases p_12 with p_12 | p_12
    · obtain ⟨jx_12, jw_12, jh_12, rfl, f0_12, f1_12, f2_12, f3_12, f4_12, rfl, rfl, rfl, -⟩ := p_12
      show J X 6 0 0 15 [(0, .ref q0), (1, .int p0), (2, .int (nI jx_12)), (3, .int (nI jw_12)), (4, .int (nI jh_12))] [.int (nI 1)] [(q0, .inr (9, [.int (nI ro), .int (nI co), .int sl, .ref q3, .ref q4, .int sn, .ref q6, .ref q7, .ref q8, .ref q9, .int ts, .int ra, .int rr, .int rw, .ref q14, .ref q15, .int rn, .ref q17, .ref q18, .ref q19, .int (nI um), .int bs, .int bh, .ref q23, .ref q24, .ref q25, .int km])), (q3, .inl (cI, 48, .inl th)), (q4, .inl (cI, 48, .inl mo)), (q17, .inl (cI, 8, .inl ce)), (q18, .inl (cI, 8, .inl se)), (q19, .inl (cI, 776, .inl ah))]
      refine J_if_ne h 20 dX9_slide_15 (by decide) (fun _ => ?_) (fun z => absurd z (by decide))
      refine J_aload_n h (i := 0) dX9_slide_20 rfl 0 rfl ?_
      refine J.wld [0, 1, 2, 5, 3, 4] (ws' := [(q0, .inr (9, [.int (nI ro), .int (nI co), .int sl, .ref q3, .ref q4, .int sn, .ref q6, .ref q7, .ref q8, .ref q9, .int ts, .int ra, .int rr, .int rw, .ref q14, .ref q15, .int rn, .ref q17, .ref q18, .ref q19, .int (nI um), .int bs, .int bh, .ref q23, .ref q24, .ref q25, .int km])), (q3, .inl (cI, 48, .inl th)), (q4, .inl (cI, 48, .inl mo)), (q19, .inl (cI, 776, .inl ah)), (q17, .inl (cI, 8, .inl ce)), (q18, .inl (cI, 8, .inl se))]) rfl rfl ?_
      refine K_vv h (wr := [(q17, .inl (cI, 8, .inl ce)), (q18, .inl (cI, 8, .inl se))]) (c_X9_notes (xl X) (xD X) cI cE q0 q3 q4 q6 q7 q8 q9 q14 q15 q17 q18 q19 q23 q24 q25 ro co sl sn ts ra rr rw rn um bs bh km th mo ah (by first | exact hum |  assumption | omega | rfl)) yv_X9_notes nm_X9_152 (by decide) (by decide) rfl rfl 0 rfl rfl rfl rfl (Nat.le_of_ble_eq_true rfl) (Nat.le_refl _) (Nat.le_refl _) dX9_slide_21 (fun u_21 p_21 => ?_)
      show J X 6 0 0 24 [(0, .ref q0), (1, .int p0), (2, .int (nI jx_12)), (3, .int (nI jw_12)), (4, .int (nI jh_12))] [] [(q0, .inr (9, [.int (nI ro), .int (nI co), .int sl, .ref q3, .ref q4, .int sn, .ref q6, .ref q7, .ref q8, .ref q9, .int ts, .int ra, .int rr, .int rw, .ref q14, .ref q15, .int rn, .ref q17, .ref q18, .ref q19, .int (nI (ntN um)), .int bs, .int bh, .ref q23, .ref q24, .ref q25, .int km])), (q3, .inl (cI, 48, .inl th)), (q4, .inl (cI, 48, .inl mo)), (q19, .inl (cI, 776, .inl (ntA um sl th mo ah))), (q17, .inl (cI, 8, .inl ce)), (q18, .inl (cI, 8, .inl se))]
      refine J_aload_n h (i := 0) dX9_slide_24 rfl 0 rfl ?_
      refine J_iload_n h (i := 2) dX9_slide_25 rfl 2 rfl ?_
      refine J_iload_n h (i := 3) dX9_slide_26 rfl 3 rfl ?_
      refine J_iload h dX9_slide_27 4 rfl ?_
      refine J.wld [0, 1, 4, 5, 2, 3] (ws' := [(q0, .inr (9, [.int (nI ro), .int (nI co), .int sl, .ref q3, .ref q4, .int sn, .ref q6, .ref q7, .ref q8, .ref q9, .int ts, .int ra, .int rr, .int rw, .ref q14, .ref q15, .int rn, .ref q17, .ref q18, .ref q19, .int (nI (ntN um)), .int bs, .int bh, .ref q23, .ref q24, .ref q25, .int km])), (q3, .inl (cI, 48, .inl th)), (q17, .inl (cI, 8, .inl ce)), (q18, .inl (cI, 8, .inl se)), (q4, .inl (cI, 48, .inl mo)), (q19, .inl (cI, 776, .inl (ntA um sl th mo ah)))]) rfl rfl ?_
      refine K_vi h (wr := [(q4, .inl (cI, 48, .inl mo)), (q19, .inl (cI, 776, .inl (ntA um sl th mo ah)))]) (c_X9_goes (xl X) (xD X) cI cE q0 q3 q4 q6 q7 q8 q9 q14 q15 q17 q18 q19 q23 q24 q25 ro co sl sn ts ra rr rw rn (nI (ntN um)) bs bh km th ce se cth jx_12 jw_12 jh_12 (by first | exact hrc |  assumption | omega | rfl) (by first | exact hco |  assumption | omega | rfl) (by first | exact hro |  assumption | omega | rfl) (by first | assumption | omega | rfl) (by first | assumption | omega | rfl) (by first | assumption | omega | rfl) (by exact rel_T hrel)) yv_X9_goes nm_X9_137 (by decide) (by decide) rfl rfl 0 rfl rfl rfl rfl (Nat.le_of_ble_eq_true rfl) (Nat.le_refl _) (Nat.le_refl _) dX9_slide_29 (fun r_29 u_29 p_29 => ?_)
      obtain ⟨ce2_29, se2_29⟩ := u_29
      try dsimp only at p_29
      obtain ⟨rfl, f0_29, f1_29, f2_29, f3_29, -⟩ := p_29
      show J X 6 0 0 32 [(0, .ref q0), (1, .int p0), (2, .int (nI jx_12)), (3, .int (nI jw_12)), (4, .int (nI jh_12))] [.int (nI (ren cth co ro jh_12 jx_12 jw_12))] [(q0, .inr (9, [.int (nI ro), .int (nI co), .int sl, .ref q3, .ref q4, .int sn, .ref q6, .ref q7, .ref q8, .ref q9, .int ts, .int ra, .int rr, .int rw, .ref q14, .ref q15, .int rn, .ref q17, .ref q18, .ref q19, .int (nI (ntN um)), .int bs, .int bh, .ref q23, .ref q24, .ref q25, .int km])), (q3, .inl (cI, 48, .inl th)), (q17, .inl (cI, 8, .inl ce2_29)), (q18, .inl (cI, 8, .inl se2_29)), (q4, .inl (cI, 48, .inl mo)), (q19, .inl (cI, 776, .inl (ntA um sl th mo ah)))]
      refine J_istore h (lv' := [(5, .int (nI (ren cth co ro jh_12 jx_12 jw_12))), (0, .ref q0), (1, .int p0), (2, .int (nI jx_12)), (3, .int (nI jw_12)), (4, .int (nI jh_12))]) dX9_slide_32 (by decide) rfl ?_
      refine J_aload_n h (i := 0) dX9_slide_34 rfl 1 rfl ?_
      refine J_iload_n h (i := 1) dX9_slide_35 rfl 2 rfl ?_
      refine J.wld [0, 1, 4, 2, 3, 5] (ws' := [(q0, .inr (9, [.int (nI ro), .int (nI co), .int sl, .ref q3, .ref q4, .int sn, .ref q6, .ref q7, .ref q8, .ref q9, .int ts, .int ra, .int rr, .int rw, .ref q14, .ref q15, .int rn, .ref q17, .ref q18, .ref q19, .int (nI (ntN um)), .int bs, .int bh, .ref q23, .ref q24, .ref q25, .int km])), (q3, .inl (cI, 48, .inl th)), (q4, .inl (cI, 48, .inl mo)), (q17, .inl (cI, 8, .inl ce2_29)), (q18, .inl (cI, 8, .inl se2_29)), (q19, .inl (cI, 776, .inl (ntA um sl th mo ah)))]) rfl rfl ?_
      refine K_vv h (wr := [(q19, .inl (cI, 776, .inl (ntA um sl th mo ah)))]) (c_X9_gives (xl X) (xD X) cI cE q0 q3 q4 q6 q7 q8 q9 q14 q15 q17 q18 q19 q23 q24 q25 ro co sl sn ts ra rr rw rn (nI (ntN um)) bs bh km th mo ce2_29 se2_29 cth cow p0 (rcl cth co jh_12 jx_12 jw_12) (rln cth co ro jh_12 jx_12 jw_12) (by first | exact hrc |  assumption | omega | rfl) (by first | exact hco |  assumption | omega | rfl) (by first | exact hro |  assumption | omega | rfl) (by first | exact hrel |  assumption | omega | rfl) (by intro k hk; exact ⟨f0_29 k hk, rcl_lt cth (by assumption) (by assumption) (Nat.lt_of_lt_of_le hk (rln_le _ _ _ _ _ _))⟩) (by exact f2_29) (by exact rln_le _ _ _ _ _ _) (by first | assumption | omega | rfl)) yv_X9_gives nm_X9_155 (by decide) (by decide) rfl rfl 0 rfl rfl rfl rfl (Nat.le_of_ble_eq_true rfl) (Nat.le_refl _) (Nat.le_refl _) dX9_slide_36 (fun u_36 p_36 => ?_)
      obtain ⟨mo2_36, rfl⟩ : ∃ z, z = u_36 := ⟨_, rfl⟩
      obtain ⟨f0_36, -⟩ := p_36
      show J X 6 0 0 39 [(5, .int (nI (ren cth co ro jh_12 jx_12 jw_12))), (0, .ref q0), (1, .int p0), (2, .int (nI jx_12)), (3, .int (nI jw_12)), (4, .int (nI jh_12))] [] [(q0, .inr (9, [.int (nI ro), .int (nI co), .int sl, .ref q3, .ref q4, .int sn, .ref q6, .ref q7, .ref q8, .ref q9, .int ts, .int ra, .int rr, .int rw, .ref q14, .ref q15, .int rn, .ref q17, .ref q18, .ref q19, .int (nI (ntN um)), .int bs, .int bh, .ref q23, .ref q24, .ref q25, .int km])), (q3, .inl (cI, 48, .inl th)), (q4, .inl (cI, 48, .inl mo2_36)), (q17, .inl (cI, 8, .inl ce2_29)), (q18, .inl (cI, 8, .inl se2_29)), (q19, .inl (cI, 776, .inl (ntA um sl th mo ah)))]
      refine J_aload_n h (i := 0) dX9_slide_39 rfl 1 rfl ?_
      refine J_dup h dX9_slide_40 rfl ?_
      refine J_get h inX9 rfl 0 2 (by decide) rfl rfl nf_X9_115 dX9_slide_41 ?_
      refine J_iconst h (v := nI 1) dX9_slide_44 (by decide) ?_
      refine J_iadd h dX9_slide_45 ?_
      refine J_put h (ws' := [(q0, .inr (9, [.int (nI ro), .int (nI co), .int (sl + (nI 1)), .ref q3, .ref q4, .int sn, .ref q6, .ref q7, .ref q8, .ref q9, .int ts, .int ra, .int rr, .int rw, .ref q14, .ref q15, .int rn, .ref q17, .ref q18, .ref q19, .int (nI (ntN um)), .int bs, .int bh, .ref q23, .ref q24, .ref q25, .int km])), (q3, .inl (cI, 48, .inl th)), (q4, .inl (cI, 48, .inl mo2_36)), (q17, .inl (cI, 8, .inl ce2_29)), (q18, .inl (cI, 8, .inl se2_29)), (q19, .inl (cI, 776, .inl (ntA um sl th mo ah)))]) inX9 tyX9 tyX9_ok nmX9 rfl 0 2 (by decide) rfl nf_X9_115 rfl rfl rfl rfl (Nat.le_of_ble_eq_true rfl) dX9_slide_46 rfl ?_
      refine J_iload h dX9_slide_49 0 rfl ?_
      exact hR (nI (ren cth co ro jh_12 jx_12 jw_12)) (mo2_36, sl + (nI 1), ntN um, ntA um sl th mo ah, ce2_29, se2_29) (by exact Or.inl ⟨by rw [tnI (by omega), tnI (by omega), tnI (by omega)], by omega, by assumption, by rw [tnI (by omega), tnI (by omega), tnI (by omega)]; exact f0_36, rfl, rfl, rfl, trivial⟩) 51 _ dX9_slide_51
    · obtain ⟨rfl, f0_12, -⟩ := p_12
      show J X 6 0 0 15 [(0, .ref q0), (1, .int p0), (2, .int p1), (3, .int p2), (4, .int p3)] [.int (nI 0)] [(q0, .inr (9, [.int (nI ro), .int (nI co), .int sl, .ref q3, .ref q4, .int sn, .ref q6, .ref q7, .ref q8, .ref q9, .int ts, .int ra, .int rr, .int rw, .ref q14, .ref q15, .int rn, .ref q17, .ref q18, .ref q19, .int (nI um), .int bs, .int bh, .ref q23, .ref q24, .ref q25, .int km])), (q3, .inl (cI, 48, .inl th)), (q4, .inl (cI, 48, .inl mo)), (q17, .inl (cI, 8, .inl ce)), (q18, .inl (cI, 8, .inl se)), (q19, .inl (cI, 776, .inl ah))]
      refine J_if_ne h 20 dX9_slide_15 (by decide) (fun z => absurd z (by decide)) (fun _ => ?_)
      refine J_iconst h (v := (-1)) dX9_slide_18 (by decide) ?_
      exact hR ((-1)) (mo, sl, um, ah, ce, se) (by exact Or.inr ⟨rfl, by omega, rfl, rfl, rfl, rfl, trivial⟩) 19 _ dX9_slide_19
  · obtain ⟨rfl, f0_1, -⟩ := p_1
    show J X 6 0 0 4 [(0, .ref q0), (1, .int p0), (2, .int p1), (3, .int p2), (4, .int p3)] [.int (nI 0)] [(q0, .inr (9, [.int (nI ro), .int (nI co), .int sl, .ref q3, .ref q4, .int sn, .ref q6, .ref q7, .ref q8, .ref q9, .int ts, .int ra, .int rr, .int rw, .ref q14, .ref q15, .int rn, .ref q17, .ref q18, .ref q19, .int (nI um), .int bs, .int bh, .ref q23, .ref q24, .ref q25, .int km])), (q3, .inl (cI, 48, .inl th)), (q4, .inl (cI, 48, .inl mo)), (q17, .inl (cI, 8, .inl ce)), (q18, .inl (cI, 8, .inl se)), (q19, .inl (cI, 776, .inl ah))]
    refine J_if_eq h 18 dX9_slide_4 (by decide) (fun _ => ?_) (fun z => absurd z (by decide))
    refine J_iconst h (v := (-1)) dX9_slide_18 (by decide) ?_
    exact hR ((-1)) (mo, sl, um, ah, ce, se) (by exact Or.inr ⟨rfl, by omega, rfl, rfl, rfl, rfl, trivial⟩) 19 _ dX9_slide_19
theorem c_X9_slide (l : Launch) (D : va_G) (cI cE : ClassId) (q0 : Nat) (q3 : Nat) (q4 : Nat) (q6 : Nat) (q7 : Nat) (q8 : Nat) (q9 : Nat) (q14 : Nat) (q15 : Nat) (q17 : Nat) (q18 : Nat) (q19 : Nat) (q23 : Nat) (q24 : Nat) (q25 : Nat) (ro : Nat) (co : Nat) (sl : Int32) (sn : Int32) (ts : Int32) (ra : Int32) (rr : Int32) (rw : Int32) (rn : Int32) (um : Nat) (bs : Int32) (bh : Int32) (km : Int32) (th : Nat → Int32) (mo : Nat → Int32) (ce : Nat → Int32) (se : Nat → Int32) (ah : Nat → Int32) (cth : Nat → Int32) (cow : Nat → Int32) (p0 : Int32) (p1 : Int32) (p2 : Int32) (p3 : Int32) (hrc : ro * co ≤ 48) (hco : co ≤ 6) (hro : ro ≤ 8) (hrel : rel (ro * co) th mo cth cow) (hum : um ≤ 8) : Ci l D cI cE yX9_slide cX9_slide 6 (some .int) 3 0 0 [.ref q0, .int p0, .int p1, .int p2, .int p3] [(q0, .inr (9, [.int (nI ro), .int (nI co), .int sl, .ref q3, .ref q4, .int sn, .ref q6, .ref q7, .ref q8, .ref q9, .int ts, .int ra, .int rr, .int rw, .ref q14, .ref q15, .int rn, .ref q17, .ref q18, .ref q19, .int (nI um), .int bs, .int bh, .ref q23, .ref q24, .ref q25, .int km])), (q3, .inl (cI, 48, .inl th)), (q4, .inl (cI, 48, .inl mo)), (q17, .inl (cI, 8, .inl ce)), (q18, .inl (cI, 8, .inl se)), (q19, .inl (cI, 776, .inl ah))] (fun (r : Int32) (u : (Nat → Int32) × (Int32) × (Nat) × (Nat → Int32) × (Nat → Int32) × (Nat → Int32)) => ((nI (ren cth co ro (tn p3) (tn p1) (tn p2)) = r) ∧ (vSide p0) ∧ (vRide co p1 p2 p3) ∧ (rel (ro * co) th u.1 cth (owB cow p0 (rcl cth co (tn p3) (tn p1) (tn p2)) (rln cth co ro (tn p3) (tn p1) (tn p2)))) ∧ ((sl + nI 1) = u.2.1) ∧ ((ntN um) = u.2.2.1) ∧ ((ntA um sl th mo ah) = u.2.2.2.1) ∧ (True)) ∨ (((-1) = r) ∧ (¬ (vSide p0 ∧ vRide co p1 p2 p3)) ∧ ((mo) = u.1) ∧ ((sl) = u.2.1) ∧ ((um) = u.2.2.1) ∧ ((ah) = u.2.2.2.1) ∧ (True))) (fun (u : (Nat → Int32) × (Int32) × (Nat) × (Nat → Int32) × (Nat → Int32) × (Nat → Int32)) => ([(q0, .inr (9, [.int (nI ro), .int (nI co), .int u.2.1, .ref q3, .ref q4, .int sn, .ref q6, .ref q7, .ref q8, .ref q9, .int ts, .int ra, .int rr, .int rw, .ref q14, .ref q15, .int rn, .ref q17, .ref q18, .ref q19, .int (nI u.2.2.1), .int bs, .int bh, .ref q23, .ref q24, .ref q25, .int km])), (q3, .inl (cI, 48, .inl th)), (q4, .inl (cI, 48, .inl u.1)), (q17, .inl (cI, 8, .inl u.2.2.2.2.1)), (q18, .inl (cI, 8, .inl u.2.2.2.2.2)), (q19, .inl (cI, 776, .inl u.2.2.2.1))] : va_W)) :=
  Ci.of (by decide) (Nat.le_of_ble_eq_true rfl) (fun _ _ _ => rfl) (fun X h hR => w_X9_slide X h q0 q3 q4 q6 q7 q8 q9 q14 q15 q17 q18 q19 q23 q24 q25 ro co sl sn ts ra rr rw rn um bs bh km th mo ce se ah cth cow p0 p1 p2 p3 hrc hco hro hrel hum hR)
theorem yv_X9_slide : YV yX9_slide cX9_slide 6 (some .int) 4 := ⟨no_X9_slide, nv_X9_slide, ni_X9, nk_X9_slide, by decide +kernel⟩
set_option maxRecDepth 100000 in
set_option maxHeartbeats 4000000 in
theorem w_X9_give (X : Cx) {cI cE : ClassId} (h : Ok X cX9_give RX9 5 cI cE 2 0 0) (q0 : Nat) (q3 : Nat) (q4 : Nat) (q6 : Nat) (q7 : Nat) (q8 : Nat) (q9 : Nat) (q14 : Nat) (q15 : Nat) (q17 : Nat) (q18 : Nat) (q19 : Nat) (q23 : Nat) (q24 : Nat) (q25 : Nat) (ro : Nat) (co : Nat) (sl : Int32) (sn : Int32) (ts : Int32) (ra : Int32) (rr : Int32) (rw : Int32) (rn : Int32) (um : Nat) (bs : Int32) (bh : Int32) (km : Int32) (th : Nat → Int32) (mo : Nat → Int32) (ah : Nat → Int32) (cth : Nat → Int32) (cow : Nat → Int32) (p0 : Int32) (p1 : Int32) (hrc : ro * co ≤ 48) (hco : co ≤ 6) (hro : ro ≤ 8) (hrel : rel (ro * co) th mo cth cow) (hum : um ≤ 8) (hR : ∀ (r : Int32) (u : (Nat → Int32) × (Nat) × (Nat → Int32)), ((sON (cow (tn p0)) = r) ∧ ((vCell (ro * co) p0 ∧ (0 ≤ p1.toInt ∧ p1.toInt ≤ 4))) ∧ (cow (tn p0) ≠ p1) ∧ (rel (ro * co) th u.1 cth (upd cow (tn p0) p1)) ∧ ((ntN um) = u.2.1) ∧ ((ntA um sl th mo ah) = u.2.2) ∧ (True)) ∨ (((-2) = r) ∧ ((vCell (ro * co) p0 ∧ (0 ≤ p1.toInt ∧ p1.toInt ≤ 4))) ∧ (cow (tn p0) = p1) ∧ ((mo) = u.1) ∧ ((um) = u.2.1) ∧ ((ah) = u.2.2) ∧ (True)) ∨ (((-1) = r) ∧ (¬ (vCell (ro * co) p0 ∧ (0 ≤ p1.toInt ∧ p1.toInt ≤ 4))) ∧ ((mo) = u.1) ∧ ((um) = u.2.1) ∧ ((ah) = u.2.2) ∧ (True)) → RetI X cX9_give 5 0 0 r [(q0, .inr (9, [.int (nI ro), .int (nI co), .int sl, .ref q3, .ref q4, .int sn, .ref q6, .ref q7, .ref q8, .ref q9, .int ts, .int ra, .int rr, .int rw, .ref q14, .ref q15, .int rn, .ref q17, .ref q18, .ref q19, .int (nI u.2.1), .int bs, .int bh, .ref q23, .ref q24, .ref q25, .int km])), (q3, .inl (cI, 48, .inl th)), (q4, .inl (cI, 48, .inl u.1)), (q19, .inl (cI, 776, .inl u.2.2))]) : J X 5 0 0 0 [(0, .ref q0), (1, .int p0), (2, .int p1)] [] [(q0, .inr (9, [.int (nI ro), .int (nI co), .int sl, .ref q3, .ref q4, .int sn, .ref q6, .ref q7, .ref q8, .ref q9, .int ts, .int ra, .int rr, .int rw, .ref q14, .ref q15, .int rn, .ref q17, .ref q18, .ref q19, .int (nI um), .int bs, .int bh, .ref q23, .ref q24, .ref q25, .int km])), (q3, .inl (cI, 48, .inl th)), (q4, .inl (cI, 48, .inl mo)), (q19, .inl (cI, 776, .inl ah))] := by
  refine J_aload_n h (i := 0) dX9_give_0 rfl 0 rfl ?_
  refine J_iload_n h (i := 1) dX9_give_1 rfl 1 rfl ?_
  refine K_vi h (wr := [(q3, .inl (cI, 48, .inl th)), (q4, .inl (cI, 48, .inl mo)), (q19, .inl (cI, 776, .inl ah))]) (c_X9_isCell (xl X) (xD X) cI cE q0 q3 q4 q6 q7 q8 q9 q14 q15 q17 q18 q19 q23 q24 q25 ro co sl sn ts ra rr rw rn (nI um) bs bh km p0 (by first | exact hrc |  assumption | omega | rfl)) yv_X9_isCell nm_X9_131 (by decide) (by decide) rfl rfl 0 rfl rfl rfl rfl (Nat.le_of_ble_eq_true rfl) (Nat.le_refl _) (Nat.le_refl _) dX9_give_2 (fun r_2 u_2 p_2 => ?_)
  rcases p_2 with p_2 | p_2
  · obtain ⟨j_2, rfl, f0_2, rfl, -⟩ := p_2
    show J X 5 0 0 5 [(0, .ref q0), (1, .int (nI j_2)), (2, .int p1)] [.int (nI 1)] [(q0, .inr (9, [.int (nI ro), .int (nI co), .int sl, .ref q3, .ref q4, .int sn, .ref q6, .ref q7, .ref q8, .ref q9, .int ts, .int ra, .int rr, .int rw, .ref q14, .ref q15, .int rn, .ref q17, .ref q18, .ref q19, .int (nI um), .int bs, .int bh, .ref q23, .ref q24, .ref q25, .int km])), (q3, .inl (cI, 48, .inl th)), (q4, .inl (cI, 48, .inl mo)), (q19, .inl (cI, 776, .inl ah))]
    refine J_if_eq h 17 dX9_give_5 (by decide) (fun z => absurd z (by decide)) (fun _ => ?_)
    refine J_iload_n h (i := 2) dX9_give_8 rfl 2 rfl ?_
    refine J_iconst h (v := nI 0) dX9_give_9 (by decide) ?_
    refine J_iconst h (v := nI 4) dX9_give_10 (by decide) ?_
    refine K_si h (wr := [(q0, .inr (9, [.int (nI ro), .int (nI co), .int sl, .ref q3, .ref q4, .int sn, .ref q6, .ref q7, .ref q8, .ref q9, .int ts, .int ra, .int rr, .int rw, .ref q14, .ref q15, .int rn, .ref q17, .ref q18, .ref q19, .int (nI um), .int bs, .int bh, .ref q23, .ref q24, .ref q25, .int km])), (q3, .inl (cI, 48, .inl th)), (q4, .inl (cI, 48, .inl mo)), (q19, .inl (cI, 776, .inl ah))]) (c_X9_in (xl X) (xD X) cI cE p1 (nI 0) (nI 4) ((p1).toInt) 0 4 (by exact rfl) (by exact nI_toInt (by omega)) (by exact nI_toInt (by omega))) yv_X9_in nm_X9_67 (by decide) (by decide) rfl rfl rfl (Nat.le_of_ble_eq_true rfl) (Nat.le_refl _) (Nat.le_refl _) dX9_give_11 (fun r_11 u_11 p_11 => ?_)
    rcases p_11 with p_11 | p_11
    · obtain ⟨rfl, f0_11, -⟩ := p_11
      show J X 5 0 0 14 [(0, .ref q0), (1, .int (nI j_2)), (2, .int p1)] [.int (nI 1)] [(q0, .inr (9, [.int (nI ro), .int (nI co), .int sl, .ref q3, .ref q4, .int sn, .ref q6, .ref q7, .ref q8, .ref q9, .int ts, .int ra, .int rr, .int rw, .ref q14, .ref q15, .int rn, .ref q17, .ref q18, .ref q19, .int (nI um), .int bs, .int bh, .ref q23, .ref q24, .ref q25, .int km])), (q3, .inl (cI, 48, .inl th)), (q4, .inl (cI, 48, .inl mo)), (q19, .inl (cI, 776, .inl ah))]
      refine J_if_ne h 19 dX9_give_14 (by decide) (fun _ => ?_) (fun z => absurd z (by decide))
      have hje := rel_mo hrel f0_2
      have hgi := rel_giv hrel f0_2 (f := p1) (by omega) (by omega)
      refine J_aload_n h (i := 0) dX9_give_19 rfl 0 rfl ?_
      refine J_get h inX9 rfl 0 4 (by decide) rfl rfl nf_X9_13 dX9_give_20 ?_
      refine J_iload_n h (i := 1) dX9_give_23 rfl 1 rfl ?_
      refine N_iald h 2 rfl (by decide) (by omega) dX9_give_24 ?_
      refine J_istore_n h (i := 3) (lv' := [(3, .int (mo j_2)), (0, .ref q0), (1, .int (nI j_2)), (2, .int p1)]) dX9_give_25 rfl (by decide) rfl ?_
      refine J_iload_n h (i := 2) dX9_give_26 rfl 3 rfl ?_
      refine J_iconst h (v := nI 4) dX9_give_27 (by decide) ?_
      refine T_icmp_ne h (A := (p1).toInt) (B := 4) 36 dX9_give_28 (by decide) (rfl) (nI_toInt (by omega)) (fun c_28 => ?_) (fun c_28 => ?_)
      · skip
        refine J_iload_n h (i := 2) dX9_give_36 rfl 3 rfl ?_
        refine J_istore h (lv' := [(4, .int p1), (3, .int (mo j_2)), (0, .ref q0), (1, .int (nI j_2)), (2, .int p1)]) dX9_give_37 (by decide) rfl ?_
        refine J_eql (lv' := [(4, .int (sON p1)), (3, .int (mo j_2)), (0, .ref q0), (1, .int (nI j_2)), (2, .int p1)]) (by unfold sON; first | (rw [if_pos (by omega)]; done) | (rw [if_neg (by omega)]; done)) ?_
        refine J_iload_n h (i := 3) dX9_give_39 rfl 1 rfl ?_
        refine J_iload h dX9_give_40 0 rfl ?_
        refine J_icmp_ne h 48 dX9_give_42 (by decide) (fun c_42 => ?_) (fun c_42 => ?_)
        · skip
          refine J_aload_n h (i := 0) dX9_give_48 rfl 2 rfl ?_
          refine K_vv h (wr := []) (c_X9_notes (xl X) (xD X) cI cE q0 q3 q4 q6 q7 q8 q9 q14 q15 q17 q18 q19 q23 q24 q25 ro co sl sn ts ra rr rw rn um bs bh km th mo ah (by first | exact hum |  assumption | omega | rfl)) yv_X9_notes nm_X9_152 (by decide) (by decide) rfl rfl 0 rfl rfl rfl rfl (Nat.le_of_ble_eq_true rfl) (Nat.le_refl _) (Nat.le_refl _) dX9_give_49 (fun u_49 p_49 => ?_)
          show J X 5 0 0 52 [(4, .int (sON p1)), (3, .int (mo j_2)), (0, .ref q0), (1, .int (nI j_2)), (2, .int p1)] [] [(q0, .inr (9, [.int (nI ro), .int (nI co), .int sl, .ref q3, .ref q4, .int sn, .ref q6, .ref q7, .ref q8, .ref q9, .int ts, .int ra, .int rr, .int rw, .ref q14, .ref q15, .int rn, .ref q17, .ref q18, .ref q19, .int (nI (ntN um)), .int bs, .int bh, .ref q23, .ref q24, .ref q25, .int km])), (q3, .inl (cI, 48, .inl th)), (q4, .inl (cI, 48, .inl mo)), (q19, .inl (cI, 776, .inl (ntA um sl th mo ah)))]
          refine J_aload_n h (i := 0) dX9_give_52 rfl 2 rfl ?_
          refine J_get h inX9 rfl 0 4 (by decide) rfl rfl nf_X9_13 dX9_give_53 ?_
          refine J_iload_n h (i := 1) dX9_give_56 rfl 3 rfl ?_
          refine J_iload h dX9_give_57 0 rfl ?_
          refine N_iast h (ws' := [(q0, .inr (9, [.int (nI ro), .int (nI co), .int sl, .ref q3, .ref q4, .int sn, .ref q6, .ref q7, .ref q8, .ref q9, .int ts, .int ra, .int rr, .int rw, .ref q14, .ref q15, .int rn, .ref q17, .ref q18, .ref q19, .int (nI (ntN um)), .int bs, .int bh, .ref q23, .ref q24, .ref q25, .int km])), (q3, .inl (cI, 48, .inl th)), (q4, .inl (cI, 48, .inl (upd mo j_2 (sON p1)))), (q19, .inl (cI, 776, .inl (ntA um sl th mo ah)))]) 2 rfl (by decide) (by omega) dX9_give_59 rfl ?_
          refine J_iload_n h (i := 3) dX9_give_60 rfl 1 rfl ?_
          exact hR (mo j_2) (upd mo j_2 (sON p1), ntN um, ntA um sl th mo ah) (by exact Or.inl ⟨by rw [tnI (by omega)]; exact hje.symm, ⟨cellI (by omega) (by omega), by omega⟩, by rw [tnI (by omega)]; exact fun q => c_42 (hgi.mpr q), by rw [tnI (by omega)]; exact rel_updO hrel _ rfl (by omega) (by omega), rfl, rfl, trivial⟩) 61 _ dX9_give_61
        · skip
          refine J_bipush h (v := (-2)) dX9_give_45 (by decide) ?_
          exact hR ((-2)) (mo, um, ah) (by exact Or.inr (Or.inl ⟨rfl, ⟨cellI (by omega) (by omega), by omega⟩, by rw [tnI (by omega)]; exact hgi.mp c_42, rfl, rfl, rfl, trivial⟩)) 47 _ dX9_give_47
      · skip
        refine J_bipush h (v := (-4)) dX9_give_31 (by decide) ?_
        refine J_goto h 37 dX9_give_33 (by decide) ?_
        refine J_istore h (lv' := [(4, .int ((-4))), (3, .int (mo j_2)), (0, .ref q0), (1, .int (nI j_2)), (2, .int p1)]) dX9_give_37 (by decide) rfl ?_
        refine J_eql (lv' := [(4, .int (sON p1)), (3, .int (mo j_2)), (0, .ref q0), (1, .int (nI j_2)), (2, .int p1)]) (by unfold sON; first | (rw [if_pos (by omega)]; done) | (rw [if_neg (by omega)]; done)) ?_
        refine J_iload_n h (i := 3) dX9_give_39 rfl 1 rfl ?_
        refine J_iload h dX9_give_40 0 rfl ?_
        refine J_icmp_ne h 48 dX9_give_42 (by decide) (fun c_42 => ?_) (fun c_42 => ?_)
        · skip
          refine J_aload_n h (i := 0) dX9_give_48 rfl 2 rfl ?_
          refine K_vv h (wr := []) (c_X9_notes (xl X) (xD X) cI cE q0 q3 q4 q6 q7 q8 q9 q14 q15 q17 q18 q19 q23 q24 q25 ro co sl sn ts ra rr rw rn um bs bh km th mo ah (by first | exact hum |  assumption | omega | rfl)) yv_X9_notes nm_X9_152 (by decide) (by decide) rfl rfl 0 rfl rfl rfl rfl (Nat.le_of_ble_eq_true rfl) (Nat.le_refl _) (Nat.le_refl _) dX9_give_49 (fun u_49 p_49 => ?_)
          show J X 5 0 0 52 [(4, .int (sON p1)), (3, .int (mo j_2)), (0, .ref q0), (1, .int (nI j_2)), (2, .int p1)] [] [(q0, .inr (9, [.int (nI ro), .int (nI co), .int sl, .ref q3, .ref q4, .int sn, .ref q6, .ref q7, .ref q8, .ref q9, .int ts, .int ra, .int rr, .int rw, .ref q14, .ref q15, .int rn, .ref q17, .ref q18, .ref q19, .int (nI (ntN um)), .int bs, .int bh, .ref q23, .ref q24, .ref q25, .int km])), (q3, .inl (cI, 48, .inl th)), (q4, .inl (cI, 48, .inl mo)), (q19, .inl (cI, 776, .inl (ntA um sl th mo ah)))]
          refine J_aload_n h (i := 0) dX9_give_52 rfl 2 rfl ?_
          refine J_get h inX9 rfl 0 4 (by decide) rfl rfl nf_X9_13 dX9_give_53 ?_
          refine J_iload_n h (i := 1) dX9_give_56 rfl 3 rfl ?_
          refine J_iload h dX9_give_57 0 rfl ?_
          refine N_iast h (ws' := [(q0, .inr (9, [.int (nI ro), .int (nI co), .int sl, .ref q3, .ref q4, .int sn, .ref q6, .ref q7, .ref q8, .ref q9, .int ts, .int ra, .int rr, .int rw, .ref q14, .ref q15, .int rn, .ref q17, .ref q18, .ref q19, .int (nI (ntN um)), .int bs, .int bh, .ref q23, .ref q24, .ref q25, .int km])), (q3, .inl (cI, 48, .inl th)), (q4, .inl (cI, 48, .inl (upd mo j_2 (sON p1)))), (q19, .inl (cI, 776, .inl (ntA um sl th mo ah)))]) 2 rfl (by decide) (by omega) dX9_give_59 rfl ?_
          refine J_iload_n h (i := 3) dX9_give_60 rfl 1 rfl ?_
          exact hR (mo j_2) (upd mo j_2 (sON p1), ntN um, ntA um sl th mo ah) (by exact Or.inl ⟨by rw [tnI (by omega)]; exact hje.symm, ⟨cellI (by omega) (by omega), by omega⟩, by rw [tnI (by omega)]; exact fun q => c_42 (hgi.mpr q), by rw [tnI (by omega)]; exact rel_updO hrel _ rfl (by omega) (by omega), rfl, rfl, trivial⟩) 61 _ dX9_give_61
        · skip
          refine J_bipush h (v := (-2)) dX9_give_45 (by decide) ?_
          exact hR ((-2)) (mo, um, ah) (by exact Or.inr (Or.inl ⟨rfl, ⟨cellI (by omega) (by omega), by omega⟩, by rw [tnI (by omega)]; exact hgi.mp c_42, rfl, rfl, rfl, trivial⟩)) 47 _ dX9_give_47
    · obtain ⟨rfl, f0_11, -⟩ := p_11
      show J X 5 0 0 14 [(0, .ref q0), (1, .int (nI j_2)), (2, .int p1)] [.int (nI 0)] [(q0, .inr (9, [.int (nI ro), .int (nI co), .int sl, .ref q3, .ref q4, .int sn, .ref q6, .ref q7, .ref q8, .ref q9, .int ts, .int ra, .int rr, .int rw, .ref q14, .ref q15, .int rn, .ref q17, .ref q18, .ref q19, .int (nI um), .int bs, .int bh, .ref q23, .ref q24, .ref q25, .int km])), (q3, .inl (cI, 48, .inl th)), (q4, .inl (cI, 48, .inl mo)), (q19, .inl (cI, 776, .inl ah))]
      refine J_if_ne h 19 dX9_give_14 (by decide) (fun z => absurd z (by decide)) (fun _ => ?_)
      refine J_iconst h (v := (-1)) dX9_give_17 (by decide) ?_
      exact hR ((-1)) (mo, um, ah) (by exact Or.inr (Or.inr ⟨rfl, by omega, rfl, rfl, rfl, trivial⟩)) 18 _ dX9_give_18
  · obtain ⟨rfl, f0_2, -⟩ := p_2
    show J X 5 0 0 5 [(0, .ref q0), (1, .int p0), (2, .int p1)] [.int (nI 0)] [(q0, .inr (9, [.int (nI ro), .int (nI co), .int sl, .ref q3, .ref q4, .int sn, .ref q6, .ref q7, .ref q8, .ref q9, .int ts, .int ra, .int rr, .int rw, .ref q14, .ref q15, .int rn, .ref q17, .ref q18, .ref q19, .int (nI um), .int bs, .int bh, .ref q23, .ref q24, .ref q25, .int km])), (q3, .inl (cI, 48, .inl th)), (q4, .inl (cI, 48, .inl mo)), (q19, .inl (cI, 776, .inl ah))]
    refine J_if_eq h 17 dX9_give_5 (by decide) (fun _ => ?_) (fun z => absurd z (by decide))
    refine J_iconst h (v := (-1)) dX9_give_17 (by decide) ?_
    exact hR ((-1)) (mo, um, ah) (by exact Or.inr (Or.inr ⟨rfl, by omega, rfl, rfl, rfl, trivial⟩)) 18 _ dX9_give_18
theorem c_X9_give (l : Launch) (D : va_G) (cI cE : ClassId) (q0 : Nat) (q3 : Nat) (q4 : Nat) (q6 : Nat) (q7 : Nat) (q8 : Nat) (q9 : Nat) (q14 : Nat) (q15 : Nat) (q17 : Nat) (q18 : Nat) (q19 : Nat) (q23 : Nat) (q24 : Nat) (q25 : Nat) (ro : Nat) (co : Nat) (sl : Int32) (sn : Int32) (ts : Int32) (ra : Int32) (rr : Int32) (rw : Int32) (rn : Int32) (um : Nat) (bs : Int32) (bh : Int32) (km : Int32) (th : Nat → Int32) (mo : Nat → Int32) (ah : Nat → Int32) (cth : Nat → Int32) (cow : Nat → Int32) (p0 : Int32) (p1 : Int32) (hrc : ro * co ≤ 48) (hco : co ≤ 6) (hro : ro ≤ 8) (hrel : rel (ro * co) th mo cth cow) (hum : um ≤ 8) : Ci l D cI cE yX9_give cX9_give 5 (some .int) 2 0 0 [.ref q0, .int p0, .int p1] [(q0, .inr (9, [.int (nI ro), .int (nI co), .int sl, .ref q3, .ref q4, .int sn, .ref q6, .ref q7, .ref q8, .ref q9, .int ts, .int ra, .int rr, .int rw, .ref q14, .ref q15, .int rn, .ref q17, .ref q18, .ref q19, .int (nI um), .int bs, .int bh, .ref q23, .ref q24, .ref q25, .int km])), (q3, .inl (cI, 48, .inl th)), (q4, .inl (cI, 48, .inl mo)), (q19, .inl (cI, 776, .inl ah))] (fun (r : Int32) (u : (Nat → Int32) × (Nat) × (Nat → Int32)) => ((sON (cow (tn p0)) = r) ∧ ((vCell (ro * co) p0 ∧ (0 ≤ p1.toInt ∧ p1.toInt ≤ 4))) ∧ (cow (tn p0) ≠ p1) ∧ (rel (ro * co) th u.1 cth (upd cow (tn p0) p1)) ∧ ((ntN um) = u.2.1) ∧ ((ntA um sl th mo ah) = u.2.2) ∧ (True)) ∨ (((-2) = r) ∧ ((vCell (ro * co) p0 ∧ (0 ≤ p1.toInt ∧ p1.toInt ≤ 4))) ∧ (cow (tn p0) = p1) ∧ ((mo) = u.1) ∧ ((um) = u.2.1) ∧ ((ah) = u.2.2) ∧ (True)) ∨ (((-1) = r) ∧ (¬ (vCell (ro * co) p0 ∧ (0 ≤ p1.toInt ∧ p1.toInt ≤ 4))) ∧ ((mo) = u.1) ∧ ((um) = u.2.1) ∧ ((ah) = u.2.2) ∧ (True))) (fun (u : (Nat → Int32) × (Nat) × (Nat → Int32)) => ([(q0, .inr (9, [.int (nI ro), .int (nI co), .int sl, .ref q3, .ref q4, .int sn, .ref q6, .ref q7, .ref q8, .ref q9, .int ts, .int ra, .int rr, .int rw, .ref q14, .ref q15, .int rn, .ref q17, .ref q18, .ref q19, .int (nI u.2.1), .int bs, .int bh, .ref q23, .ref q24, .ref q25, .int km])), (q3, .inl (cI, 48, .inl th)), (q4, .inl (cI, 48, .inl u.1)), (q19, .inl (cI, 776, .inl u.2.2))] : va_W)) :=
  Ci.of (by decide) (Nat.le_of_ble_eq_true rfl) (fun _ _ _ => rfl) (fun X h hR => w_X9_give X h q0 q3 q4 q6 q7 q8 q9 q14 q15 q17 q18 q19 q23 q24 q25 ro co sl sn ts ra rr rw rn um bs bh km th mo ah cth cow p0 p1 hrc hco hro hrel hum hR)
theorem yv_X9_give : YV yX9_give cX9_give 5 (some .int) 2 := ⟨no_X9_give, nv_X9_give, ni_X9, nk_X9_give, by decide +kernel⟩
set_option maxRecDepth 100000 in
set_option maxHeartbeats 4000000 in
theorem w_X9_frozen (X : Cx) {cI cE : ClassId} (h : Ok X cX9_frozen RX9 1 cI cE 0 0 0) (p0 : Int32)  (hR : ∀ (r : Int32) (u : Unit), ((fz p0 = r) ∧ (True)) → RetI X cX9_frozen 1 0 0 r []) : J X 1 0 0 0 [(0, .int p0)] [] [] := by
  refine J_iload_n h (i := 0) dX9_frozen_0 rfl 0 rfl ?_
  refine T_if_ne h (A := (p0).toInt) 8 dX9_frozen_1 (by decide) (rfl) (fun c_1 => ?_) (fun c_1 => ?_)
  · skip
    refine J_iload_n h (i := 0) dX9_frozen_8 rfl 0 rfl ?_
    refine J_iconst h (v := nI 2) dX9_frozen_9 (by decide) ?_
    refine T_icmp_ne h (A := (p0).toInt) (B := 2) 17 dX9_frozen_10 (by decide) (rfl) (nI_toInt (by omega)) (fun c_10 => ?_) (fun c_10 => ?_)
    · skip
      refine J_iload_n h (i := 0) dX9_frozen_17 rfl 0 rfl ?_
      exact hR p0 () (⟨(by unfold fz; first | (rw [if_pos (by omega)]; done) | (rw [if_neg (by omega), if_pos (by omega)]; done) | (rw [if_neg (by omega), if_neg (by omega)]; done)), trivial⟩) 18 _ dX9_frozen_18
    · skip
      refine J_iconst h (v := nI 0) dX9_frozen_13 (by decide) ?_
      refine J_goto h 18 dX9_frozen_14 (by decide) ?_
      exact hR (nI 0) () (⟨(by unfold fz; first | (rw [if_pos (by omega)]; done) | (rw [if_neg (by omega), if_pos (by omega)]; done) | (rw [if_neg (by omega), if_neg (by omega)]; done)), trivial⟩) 18 _ dX9_frozen_18
  · skip
    refine J_iconst h (v := nI 1) dX9_frozen_4 (by decide) ?_
    refine J_goto h 18 dX9_frozen_5 (by decide) ?_
    exact hR (nI 1) () (⟨(by unfold fz; first | (rw [if_pos (by omega)]; done) | (rw [if_neg (by omega), if_pos (by omega)]; done) | (rw [if_neg (by omega), if_neg (by omega)]; done)), trivial⟩) 18 _ dX9_frozen_18
theorem c_X9_frozen (l : Launch) (D : va_G) (cI cE : ClassId) (p0 : Int32)  : Ci l D cI cE yX9_frozen cX9_frozen 1 (some .int) 0 0 0 [.int p0] [] (fun (r : Int32) (u : Unit) => ((fz p0 = r) ∧ (True))) (fun (u : Unit) => ([] : va_W)) :=
  Ci.of (by decide) (Nat.le_of_ble_eq_true rfl) (fun _ _ _ => rfl) (fun X h hR => w_X9_frozen X h p0 hR)
theorem yv_X9_frozen : YS yX9_frozen cX9_frozen 1 (some .int) 1 := ⟨ns_X9_frozen, ni_X9, nk_X9_frozen, by decide +kernel⟩
set_option maxRecDepth 100000 in
set_option maxHeartbeats 4000000 in
theorem w_X9_others_4 (X : Cx) {cI cE : ClassId} (h : Ok X cX9_others RX9 5 cI cE 1 0 0) (q0 : Nat) (q3 : Nat) (q4 : Nat) (q6 : Nat) (q7 : Nat) (q8 : Nat) (q9 : Nat) (q14 : Nat) (q15 : Nat) (q17 : Nat) (q18 : Nat) (q19 : Nat) (q23 : Nat) (q24 : Nat) (q25 : Nat) (ro : Nat) (co : Nat) (sl : Int32) (sn : Int32) (ts : Int32) (ra : Int32) (rr : Int32) (rw : Int32) (rn : Int32) (um : Int32) (bs : Int32) (bh : Int32) (km : Int32) (th : Nat → Int32) (mo : Nat → Int32) (cth : Nat → Int32) (cow : Nat → Int32) (p0 : Nat) (hrc : ro * co ≤ 48) (hco : co ≤ 6) (hro : ro ≤ 8) (hrel : rel (ro * co) th mo cth cow) (hp0 : p0 < ro) (hR : ∀ (r : Int32) (u : Unit), ((nI (cntP (fun k => decide (fz (cth (p0 * co + k)) ≠ cth (p0 * co + k))) co) = r) ∧ (True)) → RetI X cX9_others 5 0 0 r [(q0, .inr (9, [.int (nI ro), .int (nI co), .int sl, .ref q3, .ref q4, .int sn, .ref q6, .ref q7, .ref q8, .ref q9, .int ts, .int ra, .int rr, .int rw, .ref q14, .ref q15, .int rn, .ref q17, .ref q18, .ref q19, .int um, .int bs, .int bh, .ref q23, .ref q24, .ref q25, .int km])), (q3, .inl (cI, 48, .inl th)), (q4, .inl (cI, 48, .inl mo))]) : ∀ (n_4 : Nat) (i : Nat) (n : Nat), (i ≤ co) → (n = cntP (fun k => decide (fz (cth (p0 * co + k)) ≠ cth (p0 * co + k))) i) → co - i < n_4 → J X 5 0 0 4 [(0, .ref q0), (1, .int (nI p0)), (2, .int (nI n)), (3, .int (nI i))] [] [(q0, .inr (9, [.int (nI ro), .int (nI co), .int sl, .ref q3, .ref q4, .int sn, .ref q6, .ref q7, .ref q8, .ref q9, .int ts, .int ra, .int rr, .int rw, .ref q14, .ref q15, .int rn, .ref q17, .ref q18, .ref q19, .int um, .int bs, .int bh, .ref q23, .ref q24, .ref q25, .int km])), (q3, .inl (cI, 48, .inl th)), (q4, .inl (cI, 48, .inl mo))] := by
  intro n_4
  induction n_4 with
  | zero => intro i n hi hn hn_; exact absurd hn_ (Nat.not_lt_zero _)
  | succ n_4 ih_4 =>
    intro i n hi hn hn_4
    have hlt : p0 * co + co ≤ ro * co := by rw [← Nat.succ_mul]; exact Nat.mul_le_mul_right _ hp0
    refine J_iload_n h (i := 3) dX9_others_4 rfl 3 rfl ?_
    refine J_aload_n h (i := 0) dX9_others_5 rfl 0 rfl ?_
    refine J_get h inX9 rfl 0 1 (by decide) rfl rfl nf_X9_52 dX9_others_6 ?_
    refine N_icmp_ge h 51 dX9_others_9 (by decide) (by omega) (by omega) (fun c_9 => ?_) (fun c_9 => ?_)
    · skip
      refine J_iload_n h (i := 2) dX9_others_51 rfl 2 rfl ?_
      exact hR (nI n) () (⟨(by rw [hn, show i = co by omega]), trivial⟩) 52 _ dX9_others_52
    · skip
      refine J_aload_n h (i := 0) dX9_others_12 rfl 0 rfl ?_
      refine J_get h inX9 rfl 0 3 (by decide) rfl rfl nf_X9_7 dX9_others_13 ?_
      refine J_aload_n h (i := 0) dX9_others_16 rfl 0 rfl ?_
      refine J_get h inX9 rfl 0 1 (by decide) rfl rfl nf_X9_52 dX9_others_17 ?_
      refine J_iload_n h (i := 1) dX9_others_20 rfl 1 rfl ?_
      refine N_imul h dX9_others_21 ?_
      refine J_iload_n h (i := 3) dX9_others_22 rfl 3 rfl ?_
      refine N_iadd h dX9_others_23 ?_
      refine J_eqs (st' := [.int (nI (p0 * co + i)), .ref q3]) (by rw [Nat.mul_comm co p0]) ?_
      refine N_iald h 1 rfl (by decide) (by omega) dX9_others_24 ?_
      refine J_eqs (st' := [.int (cth (p0 * co + i))]) (by rw [rel_th hrel (show p0 * co + i < ro * co by omega)]) ?_
      refine J_istore h (lv' := [(4, .int (cth (p0 * co + i))), (0, .ref q0), (1, .int (nI p0)), (2, .int (nI n)), (3, .int (nI i))]) dX9_others_25 (by decide) rfl ?_
      refine J_iload_n h (i := 2) dX9_others_27 rfl 3 rfl ?_
      refine J_iload h dX9_others_28 0 rfl ?_
      refine K_si h (wr := [(q0, .inr (9, [.int (nI ro), .int (nI co), .int sl, .ref q3, .ref q4, .int sn, .ref q6, .ref q7, .ref q8, .ref q9, .int ts, .int ra, .int rr, .int rw, .ref q14, .ref q15, .int rn, .ref q17, .ref q18, .ref q19, .int um, .int bs, .int bh, .ref q23, .ref q24, .ref q25, .int km])), (q3, .inl (cI, 48, .inl th)), (q4, .inl (cI, 48, .inl mo))]) (c_X9_frozen (xl X) (xD X) cI cE (cth (p0 * co + i)) ) yv_X9_frozen nm_X9_158 (by decide) (by decide) rfl rfl rfl (Nat.le_of_ble_eq_true rfl) (Nat.le_refl _) (Nat.le_refl _) dX9_others_30 (fun r_30 u_30 p_30 => ?_)
      obtain ⟨rfl, -⟩ := p_30
      show J X 5 0 0 33 [(4, .int (cth (p0 * co + i))), (0, .ref q0), (1, .int (nI p0)), (2, .int (nI n)), (3, .int (nI i))] [.int (fz (cth (p0 * co + i))), .int (nI n)] [(q0, .inr (9, [.int (nI ro), .int (nI co), .int sl, .ref q3, .ref q4, .int sn, .ref q6, .ref q7, .ref q8, .ref q9, .int ts, .int ra, .int rr, .int rw, .ref q14, .ref q15, .int rn, .ref q17, .ref q18, .ref q19, .int um, .int bs, .int bh, .ref q23, .ref q24, .ref q25, .int km])), (q3, .inl (cI, 48, .inl th)), (q4, .inl (cI, 48, .inl mo))]
      refine J_iload h dX9_others_33 0 rfl ?_
      refine J_icmp_ne h 42 dX9_others_35 (by decide) (fun c_35 => ?_) (fun c_35 => ?_)
      · skip
        refine J_iconst h (v := nI 1) dX9_others_42 (by decide) ?_
        refine N_iadd h dX9_others_43 ?_
        refine J_istore_n h (i := 2) (lv' := [(2, .int (nI (n + 1))), (4, .int (cth (p0 * co + i))), (0, .ref q0), (1, .int (nI p0)), (3, .int (nI i))]) dX9_others_44 rfl (by decide) rfl ?_
        refine J_iinc h (v := nI (i + 1)) (lv' := [(3, .int (nI (i + 1))), (2, .int (nI (n + 1))), (4, .int (cth (p0 * co + i))), (0, .ref q0), (1, .int (nI p0))]) dX9_others_45 4 rfl (inc_ok _ 1) (by decide) rfl ?_
        refine J_goto h 4 dX9_others_48 (by decide) ?_
        refine J.loc [3, 4, 1, 0] (lv' := [(0, .ref q0), (1, .int (nI p0)), (2, .int (nI (n + 1))), (3, .int (nI (i + 1)))]) rfl ?_
        exact ih_4 (i + 1) (n + 1) (by first | exact hi |  assumption | omega | rfl) (by first | (rw [hn, cntP_yes (decide_eq_true c_35)]; done) | (rw [hn, cntP_no (fun q => (of_decide_eq_true q) c_35)]; rfl)) (by omega)
      · skip
        refine J_iconst h (v := nI 0) dX9_others_38 (by decide) ?_
        refine J_goto h 43 dX9_others_39 (by decide) ?_
        refine N_iadd h dX9_others_43 ?_
        refine J_istore_n h (i := 2) (lv' := [(2, .int (nI (n + 0))), (4, .int (cth (p0 * co + i))), (0, .ref q0), (1, .int (nI p0)), (3, .int (nI i))]) dX9_others_44 rfl (by decide) rfl ?_
        refine J_iinc h (v := nI (i + 1)) (lv' := [(3, .int (nI (i + 1))), (2, .int (nI (n + 0))), (4, .int (cth (p0 * co + i))), (0, .ref q0), (1, .int (nI p0))]) dX9_others_45 4 rfl (inc_ok _ 1) (by decide) rfl ?_
        refine J_goto h 4 dX9_others_48 (by decide) ?_
        refine J.loc [3, 4, 1, 0] (lv' := [(0, .ref q0), (1, .int (nI p0)), (2, .int (nI (n + 0))), (3, .int (nI (i + 1)))]) rfl ?_
        exact ih_4 (i + 1) (n + 0) (by first | exact hi |  assumption | omega | rfl) (by first | (rw [hn, cntP_yes (decide_eq_true c_35)]; done) | (rw [hn, cntP_no (fun q => (of_decide_eq_true q) c_35)]; rfl)) (by omega)
set_option maxRecDepth 100000 in
set_option maxHeartbeats 4000000 in
theorem w_X9_others (X : Cx) {cI cE : ClassId} (h : Ok X cX9_others RX9 5 cI cE 1 0 0) (q0 : Nat) (q3 : Nat) (q4 : Nat) (q6 : Nat) (q7 : Nat) (q8 : Nat) (q9 : Nat) (q14 : Nat) (q15 : Nat) (q17 : Nat) (q18 : Nat) (q19 : Nat) (q23 : Nat) (q24 : Nat) (q25 : Nat) (ro : Nat) (co : Nat) (sl : Int32) (sn : Int32) (ts : Int32) (ra : Int32) (rr : Int32) (rw : Int32) (rn : Int32) (um : Int32) (bs : Int32) (bh : Int32) (km : Int32) (th : Nat → Int32) (mo : Nat → Int32) (cth : Nat → Int32) (cow : Nat → Int32) (p0 : Nat) (hrc : ro * co ≤ 48) (hco : co ≤ 6) (hro : ro ≤ 8) (hrel : rel (ro * co) th mo cth cow) (hp0 : p0 < ro) (hR : ∀ (r : Int32) (u : Unit), ((nI (cntP (fun k => decide (fz (cth (p0 * co + k)) ≠ cth (p0 * co + k))) co) = r) ∧ (True)) → RetI X cX9_others 5 0 0 r [(q0, .inr (9, [.int (nI ro), .int (nI co), .int sl, .ref q3, .ref q4, .int sn, .ref q6, .ref q7, .ref q8, .ref q9, .int ts, .int ra, .int rr, .int rw, .ref q14, .ref q15, .int rn, .ref q17, .ref q18, .ref q19, .int um, .int bs, .int bh, .ref q23, .ref q24, .ref q25, .int km])), (q3, .inl (cI, 48, .inl th)), (q4, .inl (cI, 48, .inl mo))]) : J X 5 0 0 0 [(0, .ref q0), (1, .int (nI p0))] [] [(q0, .inr (9, [.int (nI ro), .int (nI co), .int sl, .ref q3, .ref q4, .int sn, .ref q6, .ref q7, .ref q8, .ref q9, .int ts, .int ra, .int rr, .int rw, .ref q14, .ref q15, .int rn, .ref q17, .ref q18, .ref q19, .int um, .int bs, .int bh, .ref q23, .ref q24, .ref q25, .int km])), (q3, .inl (cI, 48, .inl th)), (q4, .inl (cI, 48, .inl mo))] := by
  refine J_iconst h (v := nI 0) dX9_others_0 (by decide) ?_
  refine J_istore_n h (i := 2) (lv' := [(2, .int (nI 0)), (0, .ref q0), (1, .int (nI p0))]) dX9_others_1 rfl (by decide) rfl ?_
  refine J_iconst h (v := nI 0) dX9_others_2 (by decide) ?_
  refine J_istore_n h (i := 3) (lv' := [(3, .int (nI 0)), (2, .int (nI 0)), (0, .ref q0), (1, .int (nI p0))]) dX9_others_3 rfl (by decide) rfl ?_
  refine J.loc [2, 3, 1, 0] (lv' := [(0, .ref q0), (1, .int (nI p0)), (2, .int (nI 0)), (3, .int (nI 0))]) rfl ?_
  exact w_X9_others_4 X h q0 q3 q4 q6 q7 q8 q9 q14 q15 q17 q18 q19 q23 q24 q25 ro co sl sn ts ra rr rw rn um bs bh km th mo cth cow p0 hrc hco hro hrel hp0 hR  (co - 0 + 1) 0 0 (by first | assumption | omega | rfl) (by rfl) (by omega)
theorem c_X9_others (l : Launch) (D : va_G) (cI cE : ClassId) (q0 : Nat) (q3 : Nat) (q4 : Nat) (q6 : Nat) (q7 : Nat) (q8 : Nat) (q9 : Nat) (q14 : Nat) (q15 : Nat) (q17 : Nat) (q18 : Nat) (q19 : Nat) (q23 : Nat) (q24 : Nat) (q25 : Nat) (ro : Nat) (co : Nat) (sl : Int32) (sn : Int32) (ts : Int32) (ra : Int32) (rr : Int32) (rw : Int32) (rn : Int32) (um : Int32) (bs : Int32) (bh : Int32) (km : Int32) (th : Nat → Int32) (mo : Nat → Int32) (cth : Nat → Int32) (cow : Nat → Int32) (p0 : Nat) (hrc : ro * co ≤ 48) (hco : co ≤ 6) (hro : ro ≤ 8) (hrel : rel (ro * co) th mo cth cow) (hp0 : p0 < ro) : Ci l D cI cE yX9_others cX9_others 5 (some .int) 1 0 0 [.ref q0, .int (nI p0)] [(q0, .inr (9, [.int (nI ro), .int (nI co), .int sl, .ref q3, .ref q4, .int sn, .ref q6, .ref q7, .ref q8, .ref q9, .int ts, .int ra, .int rr, .int rw, .ref q14, .ref q15, .int rn, .ref q17, .ref q18, .ref q19, .int um, .int bs, .int bh, .ref q23, .ref q24, .ref q25, .int km])), (q3, .inl (cI, 48, .inl th)), (q4, .inl (cI, 48, .inl mo))] (fun (r : Int32) (u : Unit) => ((nI (cntP (fun k => decide (fz (cth (p0 * co + k)) ≠ cth (p0 * co + k))) co) = r) ∧ (True))) (fun (u : Unit) => ([(q0, .inr (9, [.int (nI ro), .int (nI co), .int sl, .ref q3, .ref q4, .int sn, .ref q6, .ref q7, .ref q8, .ref q9, .int ts, .int ra, .int rr, .int rw, .ref q14, .ref q15, .int rn, .ref q17, .ref q18, .ref q19, .int um, .int bs, .int bh, .ref q23, .ref q24, .ref q25, .int km])), (q3, .inl (cI, 48, .inl th)), (q4, .inl (cI, 48, .inl mo))] : va_W)) :=
  Ci.of (by decide) (Nat.le_of_ble_eq_true rfl) (fun _ _ _ => rfl) (fun X h hR => w_X9_others X h q0 q3 q4 q6 q7 q8 q9 q14 q15 q17 q18 q19 q23 q24 q25 ro co sl sn ts ra rr rw rn um bs bh km th mo cth cow p0 hrc hco hro hrel hp0 hR)
theorem yv_X9_others : YV yX9_others cX9_others 5 (some .int) 1 := ⟨no_X9_others, nv_X9_others, ni_X9, nk_X9_others, by decide +kernel⟩
set_option maxRecDepth 100000 in
set_option maxHeartbeats 4000000 in
theorem w_X9_freezes_2 (X : Cx) {cI cE : ClassId} (h : Ok X cX9_freezes RX9 3 cI cE 1 0 0) (q0 : Nat) (q3 : Nat) (q4 : Nat) (q6 : Nat) (q7 : Nat) (q8 : Nat) (q9 : Nat) (q14 : Nat) (q15 : Nat) (q17 : Nat) (q18 : Nat) (q19 : Nat) (q23 : Nat) (q24 : Nat) (q25 : Nat) (ro : Nat) (co : Nat) (sl : Int32) (sn : Int32) (ts : Int32) (ra : Int32) (rr : Int32) (rw : Int32) (rn : Int32) (um : Int32) (bs : Int32) (bh : Int32) (km : Int32) (th : Nat → Int32) (p0 : Nat) (hrc : ro * co ≤ 48) (hco : co ≤ 6) (hro : ro ≤ 8) (hp0 : p0 < ro) (hR : ∀ (u : Unit), ((True)) → RetV X cX9_freezes 3 0 0 [(q0, .inr (9, [.int (nI ro), .int (nI co), .int sl, .ref q3, .ref q4, .int sn, .ref q6, .ref q7, .ref q8, .ref q9, .int ts, .int ra, .int rr, .int rw, .ref q14, .ref q15, .int rn, .ref q17, .ref q18, .ref q19, .int um, .int bs, .int bh, .ref q23, .ref q24, .ref q25, .int km])), (q3, .inl (cI, 48, .inl (sgm (p0 * co) co fz th)))]) : ∀ (n_2 : Nat) (i : Nat) (t1 : Nat → Int32), (i ≤ co) → (t1 = sgm (p0 * co) i fz th) → co - i < n_2 → J X 3 0 0 2 [(0, .ref q0), (1, .int (nI p0)), (2, .int (nI i))] [] [(q0, .inr (9, [.int (nI ro), .int (nI co), .int sl, .ref q3, .ref q4, .int sn, .ref q6, .ref q7, .ref q8, .ref q9, .int ts, .int ra, .int rr, .int rw, .ref q14, .ref q15, .int rn, .ref q17, .ref q18, .ref q19, .int um, .int bs, .int bh, .ref q23, .ref q24, .ref q25, .int km])), (q3, .inl (cI, 48, .inl t1))] := by
  intro n_2
  induction n_2 with
  | zero => intro i t1 hi ht hn_; exact absurd hn_ (Nat.not_lt_zero _)
  | succ n_2 ih_2 =>
    intro i t1 hi ht hn_2
    have hlt : p0 * co + co ≤ ro * co := by rw [← Nat.succ_mul]; exact Nat.mul_le_mul_right _ hp0
    refine J_iload_n h (i := 2) dX9_freezes_2 rfl 2 rfl ?_
    refine J_aload_n h (i := 0) dX9_freezes_3 rfl 0 rfl ?_
    refine J_get h inX9 rfl 0 1 (by decide) rfl rfl nf_X9_52 dX9_freezes_4 ?_
    refine N_icmp_ge h 45 dX9_freezes_7 (by decide) (by omega) (by omega) (fun c_7 => ?_) (fun c_7 => ?_)
    · skip
      refine J_arr (g := (sgm (p0 * co) co fz th)) (ws' := [(q0, .inr (9, [.int (nI ro), .int (nI co), .int sl, .ref q3, .ref q4, .int sn, .ref q6, .ref q7, .ref q8, .ref q9, .int ts, .int ra, .int rr, .int rw, .ref q14, .ref q15, .int rn, .ref q17, .ref q18, .ref q19, .int um, .int bs, .int bh, .ref q23, .ref q24, .ref q25, .int km])), (q3, .inl (cI, 48, .inl (sgm (p0 * co) co fz th)))]) 1 rfl (by intro j hj; rw [ht, show i = co by omega]) rfl ?_
      exact hR () (trivial) 45 _ dX9_freezes_45
    · skip
      refine J_aload_n h (i := 0) dX9_freezes_10 rfl 0 rfl ?_
      refine J_get h inX9 rfl 0 3 (by decide) rfl rfl nf_X9_7 dX9_freezes_11 ?_
      refine J_aload_n h (i := 0) dX9_freezes_14 rfl 0 rfl ?_
      refine J_get h inX9 rfl 0 1 (by decide) rfl rfl nf_X9_52 dX9_freezes_15 ?_
      refine J_iload_n h (i := 1) dX9_freezes_18 rfl 1 rfl ?_
      refine N_imul h dX9_freezes_19 ?_
      refine J_iload_n h (i := 2) dX9_freezes_20 rfl 2 rfl ?_
      refine N_iadd h dX9_freezes_21 ?_
      refine J_eqs (st' := [.int (nI (p0 * co + i)), .ref q3]) (by rw [Nat.mul_comm co p0]) ?_
      refine J_aload_n h (i := 0) dX9_freezes_22 rfl 0 rfl ?_
      refine J_get h inX9 rfl 0 3 (by decide) rfl rfl nf_X9_7 dX9_freezes_23 ?_
      refine J_aload_n h (i := 0) dX9_freezes_26 rfl 0 rfl ?_
      refine J_get h inX9 rfl 0 1 (by decide) rfl rfl nf_X9_52 dX9_freezes_27 ?_
      refine J_iload_n h (i := 1) dX9_freezes_30 rfl 1 rfl ?_
      refine N_imul h dX9_freezes_31 ?_
      refine J_iload_n h (i := 2) dX9_freezes_32 rfl 2 rfl ?_
      refine N_iadd h dX9_freezes_33 ?_
      refine J_eqs (st' := [.int (nI (p0 * co + i)), .ref q3, .int (nI (p0 * co + i)), .ref q3]) (by rw [Nat.mul_comm co p0]) ?_
      refine N_iald h 1 rfl (by decide) (by omega) dX9_freezes_34 ?_
      refine K_si h (wr := [(q0, .inr (9, [.int (nI ro), .int (nI co), .int sl, .ref q3, .ref q4, .int sn, .ref q6, .ref q7, .ref q8, .ref q9, .int ts, .int ra, .int rr, .int rw, .ref q14, .ref q15, .int rn, .ref q17, .ref q18, .ref q19, .int um, .int bs, .int bh, .ref q23, .ref q24, .ref q25, .int km])), (q3, .inl (cI, 48, .inl t1))]) (c_X9_frozen (xl X) (xD X) cI cE (t1 (p0 * co + i)) ) yv_X9_frozen nm_X9_158 (by decide) (by decide) rfl rfl rfl (Nat.le_of_ble_eq_true rfl) (Nat.le_refl _) (Nat.le_refl _) dX9_freezes_35 (fun r_35 u_35 p_35 => ?_)
      obtain ⟨rfl, -⟩ := p_35
      show J X 3 0 0 38 [(0, .ref q0), (1, .int (nI p0)), (2, .int (nI i))] [.int (fz (t1 (p0 * co + i))), .int (nI (p0 * co + i)), .ref q3] [(q0, .inr (9, [.int (nI ro), .int (nI co), .int sl, .ref q3, .ref q4, .int sn, .ref q6, .ref q7, .ref q8, .ref q9, .int ts, .int ra, .int rr, .int rw, .ref q14, .ref q15, .int rn, .ref q17, .ref q18, .ref q19, .int um, .int bs, .int bh, .ref q23, .ref q24, .ref q25, .int km])), (q3, .inl (cI, 48, .inl t1))]
      refine N_iast h (ws' := [(q0, .inr (9, [.int (nI ro), .int (nI co), .int sl, .ref q3, .ref q4, .int sn, .ref q6, .ref q7, .ref q8, .ref q9, .int ts, .int ra, .int rr, .int rw, .ref q14, .ref q15, .int rn, .ref q17, .ref q18, .ref q19, .int um, .int bs, .int bh, .ref q23, .ref q24, .ref q25, .int km])), (q3, .inl (cI, 48, .inl (upd t1 (p0 * co + i) (fz (t1 (p0 * co + i))))))]) 1 rfl (by decide) (by omega) dX9_freezes_38 rfl ?_
      refine J_iinc h (v := nI (i + 1)) (lv' := [(2, .int (nI (i + 1))), (0, .ref q0), (1, .int (nI p0))]) dX9_freezes_39 2 rfl (inc_ok _ 1) (by decide) rfl ?_
      refine J_goto h 2 dX9_freezes_42 (by decide) ?_
      refine J.loc [1, 2, 0] (lv' := [(0, .ref q0), (1, .int (nI p0)), (2, .int (nI (i + 1)))]) rfl ?_
      exact ih_2 (i + 1) (upd t1 (p0 * co + i) (fz (t1 (p0 * co + i)))) (by first | exact hi |  assumption | omega | rfl) (by rw [ht, sgm_at, sgm_s]) (by omega)
set_option maxRecDepth 100000 in
set_option maxHeartbeats 4000000 in
theorem w_X9_freezes (X : Cx) {cI cE : ClassId} (h : Ok X cX9_freezes RX9 3 cI cE 1 0 0) (q0 : Nat) (q3 : Nat) (q4 : Nat) (q6 : Nat) (q7 : Nat) (q8 : Nat) (q9 : Nat) (q14 : Nat) (q15 : Nat) (q17 : Nat) (q18 : Nat) (q19 : Nat) (q23 : Nat) (q24 : Nat) (q25 : Nat) (ro : Nat) (co : Nat) (sl : Int32) (sn : Int32) (ts : Int32) (ra : Int32) (rr : Int32) (rw : Int32) (rn : Int32) (um : Int32) (bs : Int32) (bh : Int32) (km : Int32) (th : Nat → Int32) (p0 : Nat) (hrc : ro * co ≤ 48) (hco : co ≤ 6) (hro : ro ≤ 8) (hp0 : p0 < ro) (hR : ∀ (u : Unit), ((True)) → RetV X cX9_freezes 3 0 0 [(q0, .inr (9, [.int (nI ro), .int (nI co), .int sl, .ref q3, .ref q4, .int sn, .ref q6, .ref q7, .ref q8, .ref q9, .int ts, .int ra, .int rr, .int rw, .ref q14, .ref q15, .int rn, .ref q17, .ref q18, .ref q19, .int um, .int bs, .int bh, .ref q23, .ref q24, .ref q25, .int km])), (q3, .inl (cI, 48, .inl (sgm (p0 * co) co fz th)))]) : J X 3 0 0 0 [(0, .ref q0), (1, .int (nI p0))] [] [(q0, .inr (9, [.int (nI ro), .int (nI co), .int sl, .ref q3, .ref q4, .int sn, .ref q6, .ref q7, .ref q8, .ref q9, .int ts, .int ra, .int rr, .int rw, .ref q14, .ref q15, .int rn, .ref q17, .ref q18, .ref q19, .int um, .int bs, .int bh, .ref q23, .ref q24, .ref q25, .int km])), (q3, .inl (cI, 48, .inl th))] := by
  refine J_iconst h (v := nI 0) dX9_freezes_0 (by decide) ?_
  refine J_istore_n h (i := 2) (lv' := [(2, .int (nI 0)), (0, .ref q0), (1, .int (nI p0))]) dX9_freezes_1 rfl (by decide) rfl ?_
  refine J.loc [1, 2, 0] (lv' := [(0, .ref q0), (1, .int (nI p0)), (2, .int (nI 0))]) rfl ?_
  exact w_X9_freezes_2 X h q0 q3 q4 q6 q7 q8 q9 q14 q15 q17 q18 q19 q23 q24 q25 ro co sl sn ts ra rr rw rn um bs bh km th p0 hrc hco hro hp0 hR  (co - 0 + 1) 0 th (by first | assumption | omega | rfl) (by rw [sgm_0]) (by omega)
theorem c_X9_freezes (l : Launch) (D : va_G) (cI cE : ClassId) (q0 : Nat) (q3 : Nat) (q4 : Nat) (q6 : Nat) (q7 : Nat) (q8 : Nat) (q9 : Nat) (q14 : Nat) (q15 : Nat) (q17 : Nat) (q18 : Nat) (q19 : Nat) (q23 : Nat) (q24 : Nat) (q25 : Nat) (ro : Nat) (co : Nat) (sl : Int32) (sn : Int32) (ts : Int32) (ra : Int32) (rr : Int32) (rw : Int32) (rn : Int32) (um : Int32) (bs : Int32) (bh : Int32) (km : Int32) (th : Nat → Int32) (p0 : Nat) (hrc : ro * co ≤ 48) (hco : co ≤ 6) (hro : ro ≤ 8) (hp0 : p0 < ro) : Cv l D cI cE yX9_freezes cX9_freezes 3 none 1 0 0 [.ref q0, .int (nI p0)] [(q0, .inr (9, [.int (nI ro), .int (nI co), .int sl, .ref q3, .ref q4, .int sn, .ref q6, .ref q7, .ref q8, .ref q9, .int ts, .int ra, .int rr, .int rw, .ref q14, .ref q15, .int rn, .ref q17, .ref q18, .ref q19, .int um, .int bs, .int bh, .ref q23, .ref q24, .ref q25, .int km])), (q3, .inl (cI, 48, .inl th))] (fun (u : Unit) => ((True))) (fun (u : Unit) => ([(q0, .inr (9, [.int (nI ro), .int (nI co), .int sl, .ref q3, .ref q4, .int sn, .ref q6, .ref q7, .ref q8, .ref q9, .int ts, .int ra, .int rr, .int rw, .ref q14, .ref q15, .int rn, .ref q17, .ref q18, .ref q19, .int um, .int bs, .int bh, .ref q23, .ref q24, .ref q25, .int km])), (q3, .inl (cI, 48, .inl (sgm (p0 * co) co fz th)))] : va_W)) :=
  Cv.of (by decide) (Nat.le_of_ble_eq_true rfl) (fun X h hR _ => w_X9_freezes X h q0 q3 q4 q6 q7 q8 q9 q14 q15 q17 q18 q19 q23 q24 q25 ro co sl sn ts ra rr rw rn um bs bh km th p0 hrc hco hro hp0 hR)
theorem yv_X9_freezes : YV yX9_freezes cX9_freezes 3 none 1 := ⟨no_X9_freezes, nv_X9_freezes, ni_X9, nk_X9_freezes, by decide +kernel⟩
set_option maxRecDepth 100000 in
set_option maxHeartbeats 4000000 in
theorem w_X9_frost (X : Cx) {cI cE : ClassId} (h : Ok X cX9_frost RX9 3 cI cE 2 0 0) (q0 : Nat) (q3 : Nat) (q4 : Nat) (q6 : Nat) (q7 : Nat) (q8 : Nat) (q9 : Nat) (q14 : Nat) (q15 : Nat) (q17 : Nat) (q18 : Nat) (q19 : Nat) (q23 : Nat) (q24 : Nat) (q25 : Nat) (ro : Nat) (co : Nat) (sl : Int32) (sn : Int32) (ts : Int32) (ra : Int32) (rr : Int32) (rw : Int32) (rn : Int32) (um : Nat) (bs : Int32) (bh : Int32) (km : Int32) (th : Nat → Int32) (mo : Nat → Int32) (ah : Nat → Int32) (cth : Nat → Int32) (cow : Nat → Int32) (p0 : Int32) (hrc : ro * co ≤ 48) (hco : co ≤ 6) (hro : ro ≤ 8) (hrel : rel (ro * co) th mo cth cow) (hum : um ≤ 8) (hR : ∀ (r : Int32) (u : (Nat → Int32) × (Nat) × (Nat → Int32)), ((nI (cntP (fun k => decide (fz (cth (tn p0 * co + k)) ≠ cth (tn p0 * co + k))) co) = r) ∧ (vCell ro p0) ∧ (cntP (fun k => decide (fz (cth (tn p0 * co + k)) ≠ cth (tn p0 * co + k))) co ≠ 0) ∧ (rel (ro * co) u.1 mo (sgm (tn p0 * co) co fz cth) cow) ∧ ((ntN um) = u.2.1) ∧ ((ntA um sl th mo ah) = u.2.2) ∧ (True)) ∨ (((-2) = r) ∧ (vCell ro p0) ∧ (cntP (fun k => decide (fz (cth (tn p0 * co + k)) ≠ cth (tn p0 * co + k))) co = 0) ∧ ((th) = u.1) ∧ ((um) = u.2.1) ∧ ((ah) = u.2.2) ∧ (True)) ∨ (((-1) = r) ∧ (¬ vCell ro p0) ∧ ((th) = u.1) ∧ ((um) = u.2.1) ∧ ((ah) = u.2.2) ∧ (True)) → RetI X cX9_frost 3 0 0 r [(q0, .inr (9, [.int (nI ro), .int (nI co), .int sl, .ref q3, .ref q4, .int sn, .ref q6, .ref q7, .ref q8, .ref q9, .int ts, .int ra, .int rr, .int rw, .ref q14, .ref q15, .int rn, .ref q17, .ref q18, .ref q19, .int (nI u.2.1), .int bs, .int bh, .ref q23, .ref q24, .ref q25, .int km])), (q3, .inl (cI, 48, .inl u.1)), (q4, .inl (cI, 48, .inl mo)), (q19, .inl (cI, 776, .inl u.2.2))]) : J X 3 0 0 0 [(0, .ref q0), (1, .int p0)] [] [(q0, .inr (9, [.int (nI ro), .int (nI co), .int sl, .ref q3, .ref q4, .int sn, .ref q6, .ref q7, .ref q8, .ref q9, .int ts, .int ra, .int rr, .int rw, .ref q14, .ref q15, .int rn, .ref q17, .ref q18, .ref q19, .int (nI um), .int bs, .int bh, .ref q23, .ref q24, .ref q25, .int km])), (q3, .inl (cI, 48, .inl th)), (q4, .inl (cI, 48, .inl mo)), (q19, .inl (cI, 776, .inl ah))] := by
  refine J_iload_n h (i := 1) dX9_frost_0 rfl 1 rfl ?_
  refine J_iconst h (v := nI 0) dX9_frost_1 (by decide) ?_
  refine J_aload_n h (i := 0) dX9_frost_2 rfl 0 rfl ?_
  refine J_get h inX9 rfl 0 0 (by decide) rfl rfl nf_X9_60 dX9_frost_3 ?_
  refine J_iconst h (v := nI 1) dX9_frost_6 (by decide) ?_
  refine J_isub h dX9_frost_7 ?_
  refine K_si h (wr := [(q0, .inr (9, [.int (nI ro), .int (nI co), .int sl, .ref q3, .ref q4, .int sn, .ref q6, .ref q7, .ref q8, .ref q9, .int ts, .int ra, .int rr, .int rw, .ref q14, .ref q15, .int rn, .ref q17, .ref q18, .ref q19, .int (nI um), .int bs, .int bh, .ref q23, .ref q24, .ref q25, .int km])), (q3, .inl (cI, 48, .inl th)), (q4, .inl (cI, 48, .inl mo)), (q19, .inl (cI, 776, .inl ah))]) (c_X9_in (xl X) (xD X) cI cE p0 (nI 0) ((nI ro) - (nI 1)) ((p0).toInt) 0 (((ro : Nat) : Int) - ((1 : Nat) : Int)) (by exact rfl) (by exact nI_toInt (by omega)) (by exact pk_sub_toInt (by omega) (by omega))) yv_X9_in nm_X9_67 (by decide) (by decide) rfl rfl rfl (Nat.le_of_ble_eq_true rfl) (Nat.le_refl _) (Nat.le_refl _) dX9_frost_8 (fun r_8 u_8 p_8 => ?_)
  rcases p_8 with p_8 | p_8
  · obtain ⟨rfl, f0_8, -⟩ := p_8
    show J X 3 0 0 11 [(0, .ref q0), (1, .int p0)] [.int (nI 1)] [(q0, .inr (9, [.int (nI ro), .int (nI co), .int sl, .ref q3, .ref q4, .int sn, .ref q6, .ref q7, .ref q8, .ref q9, .int ts, .int ra, .int rr, .int rw, .ref q14, .ref q15, .int rn, .ref q17, .ref q18, .ref q19, .int (nI um), .int bs, .int bh, .ref q23, .ref q24, .ref q25, .int km])), (q3, .inl (cI, 48, .inl th)), (q4, .inl (cI, 48, .inl mo)), (q19, .inl (cI, 776, .inl ah))]
    refine J_if_ne h 16 dX9_frost_11 (by decide) (fun _ => ?_) (fun z => absurd z (by decide))
    obtain ⟨jr, hjr, rfl⟩ := toNI (x := p0) (n := ro) (by omega) (by omega)
    refine J_aload_n h (i := 0) dX9_frost_16 rfl 0 rfl ?_
    refine J_iload_n h (i := 1) dX9_frost_17 rfl 1 rfl ?_
    refine K_vi h (wr := [(q19, .inl (cI, 776, .inl ah))]) (c_X9_others (xl X) (xD X) cI cE q0 q3 q4 q6 q7 q8 q9 q14 q15 q17 q18 q19 q23 q24 q25 ro co sl sn ts ra rr rw rn (nI um) bs bh km th mo cth cow jr (by first | exact hrc |  assumption | omega | rfl) (by first | exact hco |  assumption | omega | rfl) (by first | exact hro |  assumption | omega | rfl) (by first | exact hrel |  assumption | omega | rfl) (by first | assumption | omega | rfl)) yv_X9_others nm_X9_161 (by decide) (by decide) rfl rfl 0 rfl rfl rfl rfl (Nat.le_of_ble_eq_true rfl) (Nat.le_refl _) (Nat.le_refl _) dX9_frost_18 (fun r_18 u_18 p_18 => ?_)
    obtain ⟨rfl, -⟩ := p_18
    show J X 3 0 0 21 [(0, .ref q0), (1, .int (nI jr))] [.int (nI (cntP (fun k => decide (fz (cth (jr * co + k)) ≠ cth (jr * co + k))) co))] [(q0, .inr (9, [.int (nI ro), .int (nI co), .int sl, .ref q3, .ref q4, .int sn, .ref q6, .ref q7, .ref q8, .ref q9, .int ts, .int ra, .int rr, .int rw, .ref q14, .ref q15, .int rn, .ref q17, .ref q18, .ref q19, .int (nI um), .int bs, .int bh, .ref q23, .ref q24, .ref q25, .int km])), (q3, .inl (cI, 48, .inl th)), (q4, .inl (cI, 48, .inl mo)), (q19, .inl (cI, 776, .inl ah))]
    have hle := cntP_le (fun k => decide (fz (cth (jr * co + k)) ≠ cth (jr * co + k))) co
    refine J_istore_n h (i := 2) (lv' := [(2, .int (nI (cntP (fun k => decide (fz (cth (jr * co + k)) ≠ cth (jr * co + k))) co))), (0, .ref q0), (1, .int (nI jr))]) dX9_frost_21 rfl (by decide) rfl ?_
    refine J_iload_n h (i := 2) dX9_frost_22 rfl 0 rfl ?_
    refine N_if_ne h 29 dX9_frost_23 (by decide) (by omega) (fun c_23 => ?_) (fun c_23 => ?_)
    · skip
      refine J_aload_n h (i := 0) dX9_frost_29 rfl 1 rfl ?_
      refine K_vv h (wr := []) (c_X9_notes (xl X) (xD X) cI cE q0 q3 q4 q6 q7 q8 q9 q14 q15 q17 q18 q19 q23 q24 q25 ro co sl sn ts ra rr rw rn um bs bh km th mo ah (by first | exact hum |  assumption | omega | rfl)) yv_X9_notes nm_X9_152 (by decide) (by decide) rfl rfl 0 rfl rfl rfl rfl (Nat.le_of_ble_eq_true rfl) (Nat.le_refl _) (Nat.le_refl _) dX9_frost_30 (fun u_30 p_30 => ?_)
      show J X 3 0 0 33 [(2, .int (nI (cntP (fun k => decide (fz (cth (jr * co + k)) ≠ cth (jr * co + k))) co))), (0, .ref q0), (1, .int (nI jr))] [] [(q0, .inr (9, [.int (nI ro), .int (nI co), .int sl, .ref q3, .ref q4, .int sn, .ref q6, .ref q7, .ref q8, .ref q9, .int ts, .int ra, .int rr, .int rw, .ref q14, .ref q15, .int rn, .ref q17, .ref q18, .ref q19, .int (nI (ntN um)), .int bs, .int bh, .ref q23, .ref q24, .ref q25, .int km])), (q3, .inl (cI, 48, .inl th)), (q4, .inl (cI, 48, .inl mo)), (q19, .inl (cI, 776, .inl (ntA um sl th mo ah)))]
      refine J_aload_n h (i := 0) dX9_frost_33 rfl 1 rfl ?_
      refine J_iload_n h (i := 1) dX9_frost_34 rfl 2 rfl ?_
      refine K_vv h (wr := [(q4, .inl (cI, 48, .inl mo)), (q19, .inl (cI, 776, .inl (ntA um sl th mo ah)))]) (c_X9_freezes (xl X) (xD X) cI cE q0 q3 q4 q6 q7 q8 q9 q14 q15 q17 q18 q19 q23 q24 q25 ro co sl sn ts ra rr rw rn (nI (ntN um)) bs bh km th jr (by first | exact hrc |  assumption | omega | rfl) (by first | exact hco |  assumption | omega | rfl) (by first | exact hro |  assumption | omega | rfl) (by first | assumption | omega | rfl)) yv_X9_freezes nm_X9_164 (by decide) (by decide) rfl rfl 0 rfl rfl rfl rfl (Nat.le_of_ble_eq_true rfl) (Nat.le_refl _) (Nat.le_refl _) dX9_frost_35 (fun u_35 p_35 => ?_)
      show J X 3 0 0 38 [(2, .int (nI (cntP (fun k => decide (fz (cth (jr * co + k)) ≠ cth (jr * co + k))) co))), (0, .ref q0), (1, .int (nI jr))] [] [(q0, .inr (9, [.int (nI ro), .int (nI co), .int sl, .ref q3, .ref q4, .int sn, .ref q6, .ref q7, .ref q8, .ref q9, .int ts, .int ra, .int rr, .int rw, .ref q14, .ref q15, .int rn, .ref q17, .ref q18, .ref q19, .int (nI (ntN um)), .int bs, .int bh, .ref q23, .ref q24, .ref q25, .int km])), (q3, .inl (cI, 48, .inl (sgm (jr * co) co fz th))), (q4, .inl (cI, 48, .inl mo)), (q19, .inl (cI, 776, .inl (ntA um sl th mo ah)))]
      refine J_iload_n h (i := 2) dX9_frost_38 rfl 0 rfl ?_
      exact hR (nI (cntP (fun k => decide (fz (cth (jr * co + k)) ≠ cth (jr * co + k))) co)) (sgm (jr * co) co fz th, ntN um, ntA um sl th mo ah) (by exact Or.inl ⟨by rw [tnI (by omega)], cellI (by omega) (by omega), by rw [tnI (by omega)]; exact c_23, by rw [tnI (by omega)]; exact rel_fz hrel _ _, rfl, rfl, trivial⟩) 39 _ dX9_frost_39
    · skip
      refine J_bipush h (v := (-2)) dX9_frost_26 (by decide) ?_
      exact hR ((-2)) (th, um, ah) (by exact Or.inr (Or.inl ⟨rfl, cellI (by omega) (by omega), by rw [tnI (by omega)]; exact c_23, rfl, rfl, rfl, trivial⟩)) 28 _ dX9_frost_28
  · obtain ⟨rfl, f0_8, -⟩ := p_8
    show J X 3 0 0 11 [(0, .ref q0), (1, .int p0)] [.int (nI 0)] [(q0, .inr (9, [.int (nI ro), .int (nI co), .int sl, .ref q3, .ref q4, .int sn, .ref q6, .ref q7, .ref q8, .ref q9, .int ts, .int ra, .int rr, .int rw, .ref q14, .ref q15, .int rn, .ref q17, .ref q18, .ref q19, .int (nI um), .int bs, .int bh, .ref q23, .ref q24, .ref q25, .int km])), (q3, .inl (cI, 48, .inl th)), (q4, .inl (cI, 48, .inl mo)), (q19, .inl (cI, 776, .inl ah))]
    refine J_if_ne h 16 dX9_frost_11 (by decide) (fun z => absurd z (by decide)) (fun _ => ?_)
    refine J_iconst h (v := (-1)) dX9_frost_14 (by decide) ?_
    exact hR ((-1)) (th, um, ah) (by exact Or.inr (Or.inr ⟨rfl, by omega, rfl, rfl, rfl, trivial⟩)) 15 _ dX9_frost_15
theorem c_X9_frost (l : Launch) (D : va_G) (cI cE : ClassId) (q0 : Nat) (q3 : Nat) (q4 : Nat) (q6 : Nat) (q7 : Nat) (q8 : Nat) (q9 : Nat) (q14 : Nat) (q15 : Nat) (q17 : Nat) (q18 : Nat) (q19 : Nat) (q23 : Nat) (q24 : Nat) (q25 : Nat) (ro : Nat) (co : Nat) (sl : Int32) (sn : Int32) (ts : Int32) (ra : Int32) (rr : Int32) (rw : Int32) (rn : Int32) (um : Nat) (bs : Int32) (bh : Int32) (km : Int32) (th : Nat → Int32) (mo : Nat → Int32) (ah : Nat → Int32) (cth : Nat → Int32) (cow : Nat → Int32) (p0 : Int32) (hrc : ro * co ≤ 48) (hco : co ≤ 6) (hro : ro ≤ 8) (hrel : rel (ro * co) th mo cth cow) (hum : um ≤ 8) : Ci l D cI cE yX9_frost cX9_frost 3 (some .int) 2 0 0 [.ref q0, .int p0] [(q0, .inr (9, [.int (nI ro), .int (nI co), .int sl, .ref q3, .ref q4, .int sn, .ref q6, .ref q7, .ref q8, .ref q9, .int ts, .int ra, .int rr, .int rw, .ref q14, .ref q15, .int rn, .ref q17, .ref q18, .ref q19, .int (nI um), .int bs, .int bh, .ref q23, .ref q24, .ref q25, .int km])), (q3, .inl (cI, 48, .inl th)), (q4, .inl (cI, 48, .inl mo)), (q19, .inl (cI, 776, .inl ah))] (fun (r : Int32) (u : (Nat → Int32) × (Nat) × (Nat → Int32)) => ((nI (cntP (fun k => decide (fz (cth (tn p0 * co + k)) ≠ cth (tn p0 * co + k))) co) = r) ∧ (vCell ro p0) ∧ (cntP (fun k => decide (fz (cth (tn p0 * co + k)) ≠ cth (tn p0 * co + k))) co ≠ 0) ∧ (rel (ro * co) u.1 mo (sgm (tn p0 * co) co fz cth) cow) ∧ ((ntN um) = u.2.1) ∧ ((ntA um sl th mo ah) = u.2.2) ∧ (True)) ∨ (((-2) = r) ∧ (vCell ro p0) ∧ (cntP (fun k => decide (fz (cth (tn p0 * co + k)) ≠ cth (tn p0 * co + k))) co = 0) ∧ ((th) = u.1) ∧ ((um) = u.2.1) ∧ ((ah) = u.2.2) ∧ (True)) ∨ (((-1) = r) ∧ (¬ vCell ro p0) ∧ ((th) = u.1) ∧ ((um) = u.2.1) ∧ ((ah) = u.2.2) ∧ (True))) (fun (u : (Nat → Int32) × (Nat) × (Nat → Int32)) => ([(q0, .inr (9, [.int (nI ro), .int (nI co), .int sl, .ref q3, .ref q4, .int sn, .ref q6, .ref q7, .ref q8, .ref q9, .int ts, .int ra, .int rr, .int rw, .ref q14, .ref q15, .int rn, .ref q17, .ref q18, .ref q19, .int (nI u.2.1), .int bs, .int bh, .ref q23, .ref q24, .ref q25, .int km])), (q3, .inl (cI, 48, .inl u.1)), (q4, .inl (cI, 48, .inl mo)), (q19, .inl (cI, 776, .inl u.2.2))] : va_W)) :=
  Ci.of (by decide) (Nat.le_of_ble_eq_true rfl) (fun _ _ _ => rfl) (fun X h hR => w_X9_frost X h q0 q3 q4 q6 q7 q8 q9 q14 q15 q17 q18 q19 q23 q24 q25 ro co sl sn ts ra rr rw rn um bs bh km th mo ah cth cow p0 hrc hco hro hrel hum hR)
theorem yv_X9_frost : YV yX9_frost cX9_frost 3 (some .int) 1 := ⟨no_X9_frost, nv_X9_frost, ni_X9, nk_X9_frost, by decide +kernel⟩
set_option maxRecDepth 100000 in
set_option maxHeartbeats 4000000 in
theorem w_X9_heavy_38 (X : Cx) {cI cE : ClassId} (h : Ok X cX9_heavy RX9 8 cI cE 3 0 0) (q0 : Nat) (q3 : Nat) (q4 : Nat) (q6 : Nat) (q7 : Nat) (q8 : Nat) (q9 : Nat) (q14 : Nat) (q15 : Nat) (q17 : Nat) (q18 : Nat) (q19 : Nat) (q23 : Nat) (q24 : Nat) (q25 : Nat) (ro : Nat) (co : Nat) (sl : Int32) (sn : Int32) (ts : Int32) (ra : Int32) (rr : Int32) (rw : Int32) (rn : Int32) (um : Int32) (bs : Int32) (bh : Int32) (km : Int32) (th : Nat → Int32) (mo : Nat → Int32) (ce : Nat → Int32) (se : Nat → Int32) (cth : Nat → Int32) (cow : Nat → Int32) (p0 : Int32) (p1 : Int32) (p2 : Int32) (hrc : ro * co ≤ 48) (hco : co ≤ 6) (hro : ro ≤ 8) (hrel : rel (ro * co) th mo cth cow) (hR : ∀ (r : Int32) (u : (Nat → Int32) × (Nat → Int32)), ((fHeavy cth co ro p0 p1 p2 = r) ∧ (True)) → RetI X cX9_heavy 8 0 0 r [(q0, .inr (9, [.int (nI ro), .int (nI co), .int sl, .ref q3, .ref q4, .int sn, .ref q6, .ref q7, .ref q8, .ref q9, .int ts, .int ra, .int rr, .int rw, .ref q14, .ref q15, .int rn, .ref q17, .ref q18, .ref q19, .int um, .int bs, .int bh, .ref q23, .ref q24, .ref q25, .int km])), (q3, .inl (cI, 48, .inl th)), (q4, .inl (cI, 48, .inl mo)), (q17, .inl (cI, 8, .inl u.1)), (q18, .inl (cI, 8, .inl u.2))]) : ∀ (n_38 : Nat) (i : Nat) (n : Nat) (lst : Int32) (jx : Nat) (jc : Nat) (ce1 : Nat → Int32) (se1 : Nat → Int32), (i ≤ 20) → (EqN n (hvN cth co ro jx jc i)) → (lst = hvL cth co ro jx jc i) → (n ≤ i) → (jx < co) → (jc < 100) → (p0 = nI jx) → (p1 = nI jc) → (vCell co (nI jx) ∧ vEnd (ro * co) (nI jc) ∧ vFlag p2) → 20 - i < n_38 → J X 8 0 0 38 [(0, .ref q0), (1, .int (nI jx)), (2, .int (nI jc)), (3, .int p2), (4, .int (nI n)), (5, .int lst), (6, .int (nI (20 - i)))] [] [(q0, .inr (9, [.int (nI ro), .int (nI co), .int sl, .ref q3, .ref q4, .int sn, .ref q6, .ref q7, .ref q8, .ref q9, .int ts, .int ra, .int rr, .int rw, .ref q14, .ref q15, .int rn, .ref q17, .ref q18, .ref q19, .int um, .int bs, .int bh, .ref q23, .ref q24, .ref q25, .int km])), (q3, .inl (cI, 48, .inl th)), (q4, .inl (cI, 48, .inl mo)), (q17, .inl (cI, 8, .inl ce1)), (q18, .inl (cI, 8, .inl se1))] := by
  intro n_38
  induction n_38 with
  | zero => intro i n lst jx jc ce1 se1 hi hn hl hnb hjx hjc e0 e1 hv hn_; exact absurd hn_ (Nat.not_lt_zero _)
  | succ n_38 ih_38 =>
    intro i n lst jx jc ce1 se1 hi hn hl hnb hjx hjc e0 e1 hv hn_38
    refine J_iload h dX9_heavy_38 6 rfl ?_
    refine J_iconst h (v := nI 1) dX9_heavy_40 (by decide) ?_
    refine N_icmp_lt h 98 dX9_heavy_41 (by decide) (by omega) (by omega) (fun c_41 => ?_) (fun c_41 => ?_)
    · skip
      refine J_iload_n h (i := 3) dX9_heavy_98 rfl 3 rfl ?_
      refine T_if_ne h (A := (p2).toInt) 107 dX9_heavy_99 (by decide) (rfl) (fun c_99 => ?_) (fun c_99 => ?_)
      · skip
        refine J_iload h dX9_heavy_107 5 rfl ?_
        exact hR lst (ce1, se1) (⟨(by (try dsimp only); rw [e0, e1]; unfold fHeavy; rw [if_pos hv, tnI (by omega), tnI (by omega)]; have hi20 : i = 20 := (by omega); rw [hi20] at hn hl; first | (rw [if_pos (by omega), hn.eq]; done) | (rw [if_neg (by omega), hl]; done)), trivial⟩) 109 _ dX9_heavy_109
      · skip
        refine J_iload h dX9_heavy_102 4 rfl ?_
        refine J_goto h 109 dX9_heavy_104 (by decide) ?_
        exact hR (nI n) (ce1, se1) (⟨(by (try dsimp only); rw [e0, e1]; unfold fHeavy; rw [if_pos hv, tnI (by omega), tnI (by omega)]; have hi20 : i = 20 := (by omega); rw [hi20] at hn hl; first | (rw [if_pos (by omega), hn.eq]; done) | (rw [if_neg (by omega), hl]; done)), trivial⟩) 109 _ dX9_heavy_109
    · skip
      refine J_aload_n h (i := 0) dX9_heavy_44 rfl 0 rfl ?_
      refine J_iload_n h (i := 1) dX9_heavy_45 rfl 1 rfl ?_
      refine J_iload h dX9_heavy_46 6 rfl ?_
      refine J_iconst h (v := nI 0) dX9_heavy_48 (by decide) ?_
      refine J.wld [0, 1, 3, 4, 2] (ws' := [(q0, .inr (9, [.int (nI ro), .int (nI co), .int sl, .ref q3, .ref q4, .int sn, .ref q6, .ref q7, .ref q8, .ref q9, .int ts, .int ra, .int rr, .int rw, .ref q14, .ref q15, .int rn, .ref q17, .ref q18, .ref q19, .int um, .int bs, .int bh, .ref q23, .ref q24, .ref q25, .int km])), (q3, .inl (cI, 48, .inl th)), (q17, .inl (cI, 8, .inl ce1)), (q18, .inl (cI, 8, .inl se1)), (q4, .inl (cI, 48, .inl mo))]) rfl rfl ?_
      refine K_vi h (wr := [(q4, .inl (cI, 48, .inl mo))]) (c_X9_goes (xl X) (xD X) cI cE q0 q3 q4 q6 q7 q8 q9 q14 q15 q17 q18 q19 q23 q24 q25 ro co sl sn ts ra rr rw rn um bs bh km th ce1 se1 cth jx (20 - i) 0 (by first | exact hrc |  assumption | omega | rfl) (by first | exact hco |  assumption | omega | rfl) (by first | exact hro |  assumption | omega | rfl) (by first | assumption | omega | rfl) (by first | assumption | omega | rfl) (by first | assumption | omega | rfl) (by exact rel_T hrel)) yv_X9_goes nm_X9_137 (by decide) (by decide) rfl rfl 0 rfl rfl rfl rfl (Nat.le_of_ble_eq_true rfl) (Nat.le_refl _) (Nat.le_refl _) dX9_heavy_49 (fun r_49 u_49 p_49 => ?_)
      obtain ⟨ce2_49, se2_49⟩ := u_49
      try dsimp only at p_49
      obtain ⟨rfl, f0_49, f1_49, f2_49, f3_49, -⟩ := p_49
      show J X 8 0 0 52 [(0, .ref q0), (1, .int (nI jx)), (2, .int (nI jc)), (3, .int p2), (4, .int (nI n)), (5, .int lst), (6, .int (nI (20 - i)))] [.int (nI (ren cth co ro 0 jx (20 - i)))] [(q0, .inr (9, [.int (nI ro), .int (nI co), .int sl, .ref q3, .ref q4, .int sn, .ref q6, .ref q7, .ref q8, .ref q9, .int ts, .int ra, .int rr, .int rw, .ref q14, .ref q15, .int rn, .ref q17, .ref q18, .ref q19, .int um, .int bs, .int bh, .ref q23, .ref q24, .ref q25, .int km])), (q3, .inl (cI, 48, .inl th)), (q17, .inl (cI, 8, .inl ce2_49)), (q18, .inl (cI, 8, .inl se2_49)), (q4, .inl (cI, 48, .inl mo))]
      have hrn := ren_lt cth (ro := ro) (hh := 0) (w := 20 - i) hrc hjx (by omega)
      refine J_iload_n h (i := 2) dX9_heavy_52 rfl 2 rfl ?_
      refine N_icmp_ne h 60 dX9_heavy_53 (by decide) (by omega) (by omega) (fun c_53 => ?_) (fun c_53 => ?_)
      · skip
        refine J_iconst h (v := nI 0) dX9_heavy_60 (by decide) ?_
        refine J_istore h (lv' := [(7, .int (nI 0)), (0, .ref q0), (1, .int (nI jx)), (2, .int (nI jc)), (3, .int p2), (4, .int (nI n)), (5, .int lst), (6, .int (nI (20 - i)))]) dX9_heavy_61 (by decide) rfl ?_
        refine J_iload h dX9_heavy_63 5 rfl ?_
        refine J_iload h dX9_heavy_65 0 rfl ?_
        refine J_if_eq h 74 dX9_heavy_67 (by decide) (fun _ => ?_) (fun z => absurd z (by decide))
        refine J_iconst h (v := nI 0) dX9_heavy_74 (by decide) ?_
        refine N_iadd h dX9_heavy_75 ?_
        refine J_istore h (lv' := [(4, .int (nI (n + 0))), (7, .int (nI 0)), (0, .ref q0), (1, .int (nI jx)), (2, .int (nI jc)), (3, .int p2), (5, .int lst), (6, .int (nI (20 - i)))]) dX9_heavy_76 (by decide) rfl ?_
        refine J_iload h dX9_heavy_78 1 rfl ?_
        refine J_if_eq h 88 dX9_heavy_80 (by decide) (fun _ => ?_) (fun z => absurd z (by decide))
        refine J_iload h dX9_heavy_88 6 rfl ?_
        refine J_istore h (lv' := [(5, .int lst), (4, .int (nI (n + 0))), (7, .int (nI 0)), (0, .ref q0), (1, .int (nI jx)), (2, .int (nI jc)), (3, .int p2), (6, .int (nI (20 - i)))]) dX9_heavy_90 (by decide) rfl ?_
        refine J_iinc h (v := nI ((20 - i) - 1)) (lv' := [(6, .int (nI ((20 - i) - 1))), (5, .int lst), (4, .int (nI (n + 0))), (7, .int (nI 0)), (0, .ref q0), (1, .int (nI jx)), (2, .int (nI jc)), (3, .int p2)]) dX9_heavy_92 7 rfl (dec_ok (by omega)) (by decide) rfl ?_
        refine J_eql (lv' := [(6, .int (nI (20 - (i + 1)))), (5, .int lst), (4, .int (nI (n + 0))), (7, .int (nI 0)), (0, .ref q0), (1, .int (nI jx)), (2, .int (nI jc)), (3, .int p2)]) (by rw [show 20 - i - 1 = 20 - (i + 1) by omega]) ?_
        refine J_goto h 38 dX9_heavy_95 (by decide) ?_
        refine J.wld [0, 1, 4, 2, 3] (ws' := [(q0, .inr (9, [.int (nI ro), .int (nI co), .int sl, .ref q3, .ref q4, .int sn, .ref q6, .ref q7, .ref q8, .ref q9, .int ts, .int ra, .int rr, .int rw, .ref q14, .ref q15, .int rn, .ref q17, .ref q18, .ref q19, .int um, .int bs, .int bh, .ref q23, .ref q24, .ref q25, .int km])), (q3, .inl (cI, 48, .inl th)), (q4, .inl (cI, 48, .inl mo)), (q17, .inl (cI, 8, .inl ce2_49)), (q18, .inl (cI, 8, .inl se2_49))]) rfl rfl ?_
        refine J.loc [4, 5, 6, 7, 2, 1, 0] (lv' := [(0, .ref q0), (1, .int (nI jx)), (2, .int (nI jc)), (3, .int p2), (4, .int (nI (n + 0))), (5, .int lst), (6, .int (nI (20 - (i + 1))))]) rfl ?_
        exact ih_38 (i + 1) (n + 0) lst jx jc ce2_49 se2_49 (by first | exact hi |  assumption | omega | rfl) (by first | exact .mk (by rw [hvN, if_pos c_53, hn.eq]) | exact .mk (by rw [hvN, if_neg c_53, hn.eq])) (by rw [hvL]; first | (rw [if_pos c_53]; done) | (rw [if_neg c_53]; exact hl)) (by first | exact hnb |  assumption | omega | rfl) (by first | exact hjx |  assumption | omega | rfl) (by first | exact hjc |  assumption | omega | rfl) (by first | exact e0 |  assumption | omega | rfl) (by first | exact e1 |  assumption | omega | rfl) (by first | exact hv |  assumption | omega | rfl) (by omega)
      · skip
        refine J_iconst h (v := nI 1) dX9_heavy_56 (by decide) ?_
        refine J_goto h 61 dX9_heavy_57 (by decide) ?_
        refine J_istore h (lv' := [(7, .int (nI 1)), (0, .ref q0), (1, .int (nI jx)), (2, .int (nI jc)), (3, .int p2), (4, .int (nI n)), (5, .int lst), (6, .int (nI (20 - i)))]) dX9_heavy_61 (by decide) rfl ?_
        refine J_iload h dX9_heavy_63 5 rfl ?_
        refine J_iload h dX9_heavy_65 0 rfl ?_
        refine J_if_eq h 74 dX9_heavy_67 (by decide) (fun z => absurd z (by decide)) (fun _ => ?_)
        refine J_iconst h (v := nI 1) dX9_heavy_70 (by decide) ?_
        refine J_goto h 75 dX9_heavy_71 (by decide) ?_
        refine N_iadd h dX9_heavy_75 ?_
        refine J_istore h (lv' := [(4, .int (nI (n + 1))), (7, .int (nI 1)), (0, .ref q0), (1, .int (nI jx)), (2, .int (nI jc)), (3, .int p2), (5, .int lst), (6, .int (nI (20 - i)))]) dX9_heavy_76 (by decide) rfl ?_
        refine J_iload h dX9_heavy_78 1 rfl ?_
        refine J_if_eq h 88 dX9_heavy_80 (by decide) (fun z => absurd z (by decide)) (fun _ => ?_)
        refine J_iload h dX9_heavy_83 7 rfl ?_
        refine J_goto h 90 dX9_heavy_85 (by decide) ?_
        refine J_istore h (lv' := [(5, .int (nI (20 - i))), (4, .int (nI (n + 1))), (7, .int (nI 1)), (0, .ref q0), (1, .int (nI jx)), (2, .int (nI jc)), (3, .int p2), (6, .int (nI (20 - i)))]) dX9_heavy_90 (by decide) rfl ?_
        refine J_iinc h (v := nI ((20 - i) - 1)) (lv' := [(6, .int (nI ((20 - i) - 1))), (5, .int (nI (20 - i))), (4, .int (nI (n + 1))), (7, .int (nI 1)), (0, .ref q0), (1, .int (nI jx)), (2, .int (nI jc)), (3, .int p2)]) dX9_heavy_92 7 rfl (dec_ok (by omega)) (by decide) rfl ?_
        refine J_eql (lv' := [(6, .int (nI (20 - (i + 1)))), (5, .int (nI (20 - i))), (4, .int (nI (n + 1))), (7, .int (nI 1)), (0, .ref q0), (1, .int (nI jx)), (2, .int (nI jc)), (3, .int p2)]) (by rw [show 20 - i - 1 = 20 - (i + 1) by omega]) ?_
        refine J_goto h 38 dX9_heavy_95 (by decide) ?_
        refine J.wld [0, 1, 4, 2, 3] (ws' := [(q0, .inr (9, [.int (nI ro), .int (nI co), .int sl, .ref q3, .ref q4, .int sn, .ref q6, .ref q7, .ref q8, .ref q9, .int ts, .int ra, .int rr, .int rw, .ref q14, .ref q15, .int rn, .ref q17, .ref q18, .ref q19, .int um, .int bs, .int bh, .ref q23, .ref q24, .ref q25, .int km])), (q3, .inl (cI, 48, .inl th)), (q4, .inl (cI, 48, .inl mo)), (q17, .inl (cI, 8, .inl ce2_49)), (q18, .inl (cI, 8, .inl se2_49))]) rfl rfl ?_
        refine J.loc [4, 5, 6, 7, 2, 1, 0] (lv' := [(0, .ref q0), (1, .int (nI jx)), (2, .int (nI jc)), (3, .int p2), (4, .int (nI (n + 1))), (5, .int (nI (20 - i))), (6, .int (nI (20 - (i + 1))))]) rfl ?_
        exact ih_38 (i + 1) (n + 1) (nI (20 - i)) jx jc ce2_49 se2_49 (by first | exact hi |  assumption | omega | rfl) (by first | exact .mk (by rw [hvN, if_pos c_53, hn.eq]) | exact .mk (by rw [hvN, if_neg c_53, hn.eq])) (by rw [hvL]; first | (rw [if_pos c_53]; done) | (rw [if_neg c_53]; exact hl)) (by first | exact hnb |  assumption | omega | rfl) (by first | exact hjx |  assumption | omega | rfl) (by first | exact hjc |  assumption | omega | rfl) (by first | exact e0 |  assumption | omega | rfl) (by first | exact e1 |  assumption | omega | rfl) (by first | exact hv |  assumption | omega | rfl) (by omega)
set_option maxRecDepth 100000 in
set_option maxHeartbeats 4000000 in
theorem w_X9_heavy (X : Cx) {cI cE : ClassId} (h : Ok X cX9_heavy RX9 8 cI cE 3 0 0) (q0 : Nat) (q3 : Nat) (q4 : Nat) (q6 : Nat) (q7 : Nat) (q8 : Nat) (q9 : Nat) (q14 : Nat) (q15 : Nat) (q17 : Nat) (q18 : Nat) (q19 : Nat) (q23 : Nat) (q24 : Nat) (q25 : Nat) (ro : Nat) (co : Nat) (sl : Int32) (sn : Int32) (ts : Int32) (ra : Int32) (rr : Int32) (rw : Int32) (rn : Int32) (um : Int32) (bs : Int32) (bh : Int32) (km : Int32) (th : Nat → Int32) (mo : Nat → Int32) (ce : Nat → Int32) (se : Nat → Int32) (cth : Nat → Int32) (cow : Nat → Int32) (p0 : Int32) (p1 : Int32) (p2 : Int32) (hrc : ro * co ≤ 48) (hco : co ≤ 6) (hro : ro ≤ 8) (hrel : rel (ro * co) th mo cth cow) (hR : ∀ (r : Int32) (u : (Nat → Int32) × (Nat → Int32)), ((fHeavy cth co ro p0 p1 p2 = r) ∧ (True)) → RetI X cX9_heavy 8 0 0 r [(q0, .inr (9, [.int (nI ro), .int (nI co), .int sl, .ref q3, .ref q4, .int sn, .ref q6, .ref q7, .ref q8, .ref q9, .int ts, .int ra, .int rr, .int rw, .ref q14, .ref q15, .int rn, .ref q17, .ref q18, .ref q19, .int um, .int bs, .int bh, .ref q23, .ref q24, .ref q25, .int km])), (q3, .inl (cI, 48, .inl th)), (q4, .inl (cI, 48, .inl mo)), (q17, .inl (cI, 8, .inl u.1)), (q18, .inl (cI, 8, .inl u.2))]) : J X 8 0 0 0 [(0, .ref q0), (1, .int p0), (2, .int p1), (3, .int p2)] [] [(q0, .inr (9, [.int (nI ro), .int (nI co), .int sl, .ref q3, .ref q4, .int sn, .ref q6, .ref q7, .ref q8, .ref q9, .int ts, .int ra, .int rr, .int rw, .ref q14, .ref q15, .int rn, .ref q17, .ref q18, .ref q19, .int um, .int bs, .int bh, .ref q23, .ref q24, .ref q25, .int km])), (q3, .inl (cI, 48, .inl th)), (q4, .inl (cI, 48, .inl mo)), (q17, .inl (cI, 8, .inl ce)), (q18, .inl (cI, 8, .inl se))] := by
  refine J_aload_n h (i := 0) dX9_heavy_0 rfl 0 rfl ?_
  refine J_iload_n h (i := 1) dX9_heavy_1 rfl 1 rfl ?_
  refine K_vi h (wr := [(q3, .inl (cI, 48, .inl th)), (q4, .inl (cI, 48, .inl mo)), (q17, .inl (cI, 8, .inl ce)), (q18, .inl (cI, 8, .inl se))]) (c_X9_isColumn (xl X) (xD X) cI cE q0 q3 q4 q6 q7 q8 q9 q14 q15 q17 q18 q19 q23 q24 q25 ro co sl sn ts ra rr rw rn um bs bh km p0 (by first | exact hco |  assumption | omega | rfl)) yv_X9_isColumn nm_X9_71 (by decide) (by decide) rfl rfl 0 rfl rfl rfl rfl (Nat.le_of_ble_eq_true rfl) (Nat.le_refl _) (Nat.le_refl _) dX9_heavy_2 (fun r_2 u_2 p_2 => ?_)
  rcases p_2 with p_2 | p_2
  · obtain ⟨j_2, rfl, f0_2, rfl, -⟩ := p_2
    show J X 8 0 0 5 [(0, .ref q0), (1, .int (nI j_2)), (2, .int p1), (3, .int p2)] [.int (nI 1)] [(q0, .inr (9, [.int (nI ro), .int (nI co), .int sl, .ref q3, .ref q4, .int sn, .ref q6, .ref q7, .ref q8, .ref q9, .int ts, .int ra, .int rr, .int rw, .ref q14, .ref q15, .int rn, .ref q17, .ref q18, .ref q19, .int um, .int bs, .int bh, .ref q23, .ref q24, .ref q25, .int km])), (q3, .inl (cI, 48, .inl th)), (q4, .inl (cI, 48, .inl mo)), (q17, .inl (cI, 8, .inl ce)), (q18, .inl (cI, 8, .inl se))]
    refine J_if_eq h 25 dX9_heavy_5 (by decide) (fun z => absurd z (by decide)) (fun _ => ?_)
    refine J_aload_n h (i := 0) dX9_heavy_8 rfl 0 rfl ?_
    refine J_iload_n h (i := 2) dX9_heavy_9 rfl 2 rfl ?_
    refine K_vi h (wr := [(q3, .inl (cI, 48, .inl th)), (q4, .inl (cI, 48, .inl mo)), (q17, .inl (cI, 8, .inl ce)), (q18, .inl (cI, 8, .inl se))]) (c_X9_isEnd (xl X) (xD X) cI cE q0 q3 q4 q6 q7 q8 q9 q14 q15 q17 q18 q19 q23 q24 q25 ro co sl sn ts ra rr rw rn um bs bh km p1 (by first | exact hrc |  assumption | omega | rfl)) yv_X9_isEnd nm_X9_188 (by decide) (by decide) rfl rfl 0 rfl rfl rfl rfl (Nat.le_of_ble_eq_true rfl) (Nat.le_refl _) (Nat.le_refl _) dX9_heavy_10 (fun r_10 u_10 p_10 => ?_)
    rcases p_10 with p_10 | p_10
    · obtain ⟨jc_10, rfl, f0_10, f1_10, rfl, -⟩ := p_10
      show J X 8 0 0 13 [(0, .ref q0), (1, .int (nI j_2)), (2, .int (nI jc_10)), (3, .int p2)] [.int (nI 1)] [(q0, .inr (9, [.int (nI ro), .int (nI co), .int sl, .ref q3, .ref q4, .int sn, .ref q6, .ref q7, .ref q8, .ref q9, .int ts, .int ra, .int rr, .int rw, .ref q14, .ref q15, .int rn, .ref q17, .ref q18, .ref q19, .int um, .int bs, .int bh, .ref q23, .ref q24, .ref q25, .int km])), (q3, .inl (cI, 48, .inl th)), (q4, .inl (cI, 48, .inl mo)), (q17, .inl (cI, 8, .inl ce)), (q18, .inl (cI, 8, .inl se))]
      refine J_if_eq h 25 dX9_heavy_13 (by decide) (fun z => absurd z (by decide)) (fun _ => ?_)
      refine J_iload_n h (i := 3) dX9_heavy_16 rfl 3 rfl ?_
      refine J_iconst h (v := nI 0) dX9_heavy_17 (by decide) ?_
      refine J_iconst h (v := nI 1) dX9_heavy_18 (by decide) ?_
      refine K_si h (wr := [(q0, .inr (9, [.int (nI ro), .int (nI co), .int sl, .ref q3, .ref q4, .int sn, .ref q6, .ref q7, .ref q8, .ref q9, .int ts, .int ra, .int rr, .int rw, .ref q14, .ref q15, .int rn, .ref q17, .ref q18, .ref q19, .int um, .int bs, .int bh, .ref q23, .ref q24, .ref q25, .int km])), (q3, .inl (cI, 48, .inl th)), (q4, .inl (cI, 48, .inl mo)), (q17, .inl (cI, 8, .inl ce)), (q18, .inl (cI, 8, .inl se))]) (c_X9_in (xl X) (xD X) cI cE p2 (nI 0) (nI 1) ((p2).toInt) 0 1 (by exact rfl) (by exact nI_toInt (by omega)) (by exact nI_toInt (by omega))) yv_X9_in nm_X9_67 (by decide) (by decide) rfl rfl rfl (Nat.le_of_ble_eq_true rfl) (Nat.le_refl _) (Nat.le_refl _) dX9_heavy_19 (fun r_19 u_19 p_19 => ?_)
      rcases p_19 with p_19 | p_19
      · obtain ⟨rfl, f0_19, -⟩ := p_19
        show J X 8 0 0 22 [(0, .ref q0), (1, .int (nI j_2)), (2, .int (nI jc_10)), (3, .int p2)] [.int (nI 1)] [(q0, .inr (9, [.int (nI ro), .int (nI co), .int sl, .ref q3, .ref q4, .int sn, .ref q6, .ref q7, .ref q8, .ref q9, .int ts, .int ra, .int rr, .int rw, .ref q14, .ref q15, .int rn, .ref q17, .ref q18, .ref q19, .int um, .int bs, .int bh, .ref q23, .ref q24, .ref q25, .int km])), (q3, .inl (cI, 48, .inl th)), (q4, .inl (cI, 48, .inl mo)), (q17, .inl (cI, 8, .inl ce)), (q18, .inl (cI, 8, .inl se))]
        refine J_if_ne h 27 dX9_heavy_22 (by decide) (fun _ => ?_) (fun z => absurd z (by decide))
        refine J_iconst h (v := nI 0) dX9_heavy_27 (by decide) ?_
        refine J_istore h (lv' := [(4, .int (nI 0)), (0, .ref q0), (1, .int (nI j_2)), (2, .int (nI jc_10)), (3, .int p2)]) dX9_heavy_28 (by decide) rfl ?_
        refine J_bipush h (v := (-4)) dX9_heavy_30 (by decide) ?_
        refine J_istore h (lv' := [(5, .int ((-4))), (4, .int (nI 0)), (0, .ref q0), (1, .int (nI j_2)), (2, .int (nI jc_10)), (3, .int p2)]) dX9_heavy_32 (by decide) rfl ?_
        refine J_bipush h (v := nI 20) dX9_heavy_34 (by decide) ?_
        refine J_istore h (lv' := [(6, .int (nI 20)), (5, .int ((-4))), (4, .int (nI 0)), (0, .ref q0), (1, .int (nI j_2)), (2, .int (nI jc_10)), (3, .int p2)]) dX9_heavy_36 (by decide) rfl ?_
        refine J.loc [3, 4, 5, 6, 2, 1, 0] (lv' := [(0, .ref q0), (1, .int (nI j_2)), (2, .int (nI jc_10)), (3, .int p2), (4, .int (nI 0)), (5, .int ((-4))), (6, .int (nI 20))]) rfl ?_
        exact w_X9_heavy_38 X h q0 q3 q4 q6 q7 q8 q9 q14 q15 q17 q18 q19 q23 q24 q25 ro co sl sn ts ra rr rw rn um bs bh km th mo ce se cth cow (nI j_2) (nI jc_10) p2 hrc hco hro hrel hR  (20 - 0 + 1) 0 0 (-4) j_2 jc_10 ce se (by first | assumption | omega | rfl) (by exact .mk rfl) (by rfl) (by first | assumption | omega | rfl) (by first | assumption | omega | rfl) (by first | assumption | omega | rfl) (by rfl) (by rfl) (by exact ⟨cellI (by omega) (by omega), by assumption, by omega⟩) (by omega)
      · obtain ⟨rfl, f0_19, -⟩ := p_19
        show J X 8 0 0 22 [(0, .ref q0), (1, .int (nI j_2)), (2, .int (nI jc_10)), (3, .int p2)] [.int (nI 0)] [(q0, .inr (9, [.int (nI ro), .int (nI co), .int sl, .ref q3, .ref q4, .int sn, .ref q6, .ref q7, .ref q8, .ref q9, .int ts, .int ra, .int rr, .int rw, .ref q14, .ref q15, .int rn, .ref q17, .ref q18, .ref q19, .int um, .int bs, .int bh, .ref q23, .ref q24, .ref q25, .int km])), (q3, .inl (cI, 48, .inl th)), (q4, .inl (cI, 48, .inl mo)), (q17, .inl (cI, 8, .inl ce)), (q18, .inl (cI, 8, .inl se))]
        refine J_if_ne h 27 dX9_heavy_22 (by decide) (fun z => absurd z (by decide)) (fun _ => ?_)
        refine J_iconst h (v := (-1)) dX9_heavy_25 (by decide) ?_
        exact hR ((-1)) (ce, se) (⟨(by (try dsimp only); unfold fHeavy; rw [if_neg (fun q => by have q1 := q.1; have q2 := q.2.1; have q3 := q.2.2; first | exact absurd q2 (by assumption) | omega)]), trivial⟩) 26 _ dX9_heavy_26
    · obtain ⟨rfl, f0_10, -⟩ := p_10
      show J X 8 0 0 13 [(0, .ref q0), (1, .int (nI j_2)), (2, .int p1), (3, .int p2)] [.int (nI 0)] [(q0, .inr (9, [.int (nI ro), .int (nI co), .int sl, .ref q3, .ref q4, .int sn, .ref q6, .ref q7, .ref q8, .ref q9, .int ts, .int ra, .int rr, .int rw, .ref q14, .ref q15, .int rn, .ref q17, .ref q18, .ref q19, .int um, .int bs, .int bh, .ref q23, .ref q24, .ref q25, .int km])), (q3, .inl (cI, 48, .inl th)), (q4, .inl (cI, 48, .inl mo)), (q17, .inl (cI, 8, .inl ce)), (q18, .inl (cI, 8, .inl se))]
      refine J_if_eq h 25 dX9_heavy_13 (by decide) (fun _ => ?_) (fun z => absurd z (by decide))
      refine J_iconst h (v := (-1)) dX9_heavy_25 (by decide) ?_
      exact hR ((-1)) (ce, se) (⟨(by (try dsimp only); unfold fHeavy; rw [if_neg (fun q => by have q1 := q.1; have q2 := q.2.1; have q3 := q.2.2; first | exact absurd q2 (by assumption) | omega)]), trivial⟩) 26 _ dX9_heavy_26
  · obtain ⟨rfl, f0_2, -⟩ := p_2
    show J X 8 0 0 5 [(0, .ref q0), (1, .int p0), (2, .int p1), (3, .int p2)] [.int (nI 0)] [(q0, .inr (9, [.int (nI ro), .int (nI co), .int sl, .ref q3, .ref q4, .int sn, .ref q6, .ref q7, .ref q8, .ref q9, .int ts, .int ra, .int rr, .int rw, .ref q14, .ref q15, .int rn, .ref q17, .ref q18, .ref q19, .int um, .int bs, .int bh, .ref q23, .ref q24, .ref q25, .int km])), (q3, .inl (cI, 48, .inl th)), (q4, .inl (cI, 48, .inl mo)), (q17, .inl (cI, 8, .inl ce)), (q18, .inl (cI, 8, .inl se))]
    refine J_if_eq h 25 dX9_heavy_5 (by decide) (fun _ => ?_) (fun z => absurd z (by decide))
    refine J_iconst h (v := (-1)) dX9_heavy_25 (by decide) ?_
    exact hR ((-1)) (ce, se) (⟨(by (try dsimp only); unfold fHeavy; rw [if_neg (fun q => by have q1 := q.1; have q2 := q.2.1; have q3 := q.2.2; first | exact absurd q2 (by assumption) | omega)]), trivial⟩) 26 _ dX9_heavy_26
theorem c_X9_heavy (l : Launch) (D : va_G) (cI cE : ClassId) (q0 : Nat) (q3 : Nat) (q4 : Nat) (q6 : Nat) (q7 : Nat) (q8 : Nat) (q9 : Nat) (q14 : Nat) (q15 : Nat) (q17 : Nat) (q18 : Nat) (q19 : Nat) (q23 : Nat) (q24 : Nat) (q25 : Nat) (ro : Nat) (co : Nat) (sl : Int32) (sn : Int32) (ts : Int32) (ra : Int32) (rr : Int32) (rw : Int32) (rn : Int32) (um : Int32) (bs : Int32) (bh : Int32) (km : Int32) (th : Nat → Int32) (mo : Nat → Int32) (ce : Nat → Int32) (se : Nat → Int32) (cth : Nat → Int32) (cow : Nat → Int32) (p0 : Int32) (p1 : Int32) (p2 : Int32) (hrc : ro * co ≤ 48) (hco : co ≤ 6) (hro : ro ≤ 8) (hrel : rel (ro * co) th mo cth cow) : Ci l D cI cE yX9_heavy cX9_heavy 8 (some .int) 3 0 0 [.ref q0, .int p0, .int p1, .int p2] [(q0, .inr (9, [.int (nI ro), .int (nI co), .int sl, .ref q3, .ref q4, .int sn, .ref q6, .ref q7, .ref q8, .ref q9, .int ts, .int ra, .int rr, .int rw, .ref q14, .ref q15, .int rn, .ref q17, .ref q18, .ref q19, .int um, .int bs, .int bh, .ref q23, .ref q24, .ref q25, .int km])), (q3, .inl (cI, 48, .inl th)), (q4, .inl (cI, 48, .inl mo)), (q17, .inl (cI, 8, .inl ce)), (q18, .inl (cI, 8, .inl se))] (fun (r : Int32) (u : (Nat → Int32) × (Nat → Int32)) => ((fHeavy cth co ro p0 p1 p2 = r) ∧ (True))) (fun (u : (Nat → Int32) × (Nat → Int32)) => ([(q0, .inr (9, [.int (nI ro), .int (nI co), .int sl, .ref q3, .ref q4, .int sn, .ref q6, .ref q7, .ref q8, .ref q9, .int ts, .int ra, .int rr, .int rw, .ref q14, .ref q15, .int rn, .ref q17, .ref q18, .ref q19, .int um, .int bs, .int bh, .ref q23, .ref q24, .ref q25, .int km])), (q3, .inl (cI, 48, .inl th)), (q4, .inl (cI, 48, .inl mo)), (q17, .inl (cI, 8, .inl u.1)), (q18, .inl (cI, 8, .inl u.2))] : va_W)) :=
  Ci.of (by decide) (Nat.le_of_ble_eq_true rfl) (fun _ _ _ => rfl) (fun X h hR => w_X9_heavy X h q0 q3 q4 q6 q7 q8 q9 q14 q15 q17 q18 q19 q23 q24 q25 ro co sl sn ts ra rr rw rn um bs bh km th mo ce se cth cow p0 p1 p2 hrc hco hro hrel hR)
theorem yv_X9_heavy : YV yX9_heavy cX9_heavy 8 (some .int) 3 := ⟨no_X9_heavy, nv_X9_heavy, ni_X9, nk_X9_heavy, by decide +kernel⟩
set_option maxRecDepth 100000 in
set_option maxHeartbeats 4000000 in
theorem w_X9_isSo_4 (X : Cx) {cI cE : ClassId} (h : Ok X cX9_isSo RX9 3 cI cE 3 0 0) (q0 : Nat) (q3 : Nat) (q4 : Nat) (q6 : Nat) (q7 : Nat) (q8 : Nat) (q9 : Nat) (q14 : Nat) (q15 : Nat) (q17 : Nat) (q18 : Nat) (q19 : Nat) (q23 : Nat) (q24 : Nat) (q25 : Nat) (ro : Nat) (co : Nat) (sl : Int32) (sn : Nat) (ts : Int32) (ra : Int32) (rr : Int32) (rw : Int32) (rn : Int32) (um : Int32) (bs : Int32) (bh : Int32) (km : Int32) (th : Nat → Int32) (mo : Nat → Int32) (kx : Nat → Nat) (kw : Nat → Nat) (ke : Nat → Nat) (ce : Nat → Int32) (se : Nat → Int32) (cth : Nat → Int32) (cow : Nat → Int32) (hrc : ro * co ≤ 48) (hco : co ≤ 6) (hro : ro ≤ 8) (hrel : rel (ro * co) th mo cth cow) (hsn : sn ≤ 6) (hk : ∀ i, i < sn → kx i < co ∧ kw i ≤ 20 ∧ ke i ≤ 99) (hR : ∀ (r : Int32) (u : (Nat → Int32) × (Nat → Int32)), ((nI 1 = r) ∧ (∀ i, i < sn → ren cth co ro 0 (kx i) (kw i) = ke i) ∧ (True)) ∨ ((nI 0 = r) ∧ (¬ (∀ i, i < sn → ren cth co ro 0 (kx i) (kw i) = ke i)) ∧ (True)) → RetI X cX9_isSo 3 0 0 r [(q0, .inr (9, [.int (nI ro), .int (nI co), .int sl, .ref q3, .ref q4, .int (nI sn), .ref q6, .ref q7, .ref q8, .ref q9, .int ts, .int ra, .int rr, .int rw, .ref q14, .ref q15, .int rn, .ref q17, .ref q18, .ref q19, .int um, .int bs, .int bh, .ref q23, .ref q24, .ref q25, .int km])), (q3, .inl (cI, 48, .inl th)), (q4, .inl (cI, 48, .inl mo)), (q6, .inl (cI, 6, .inl (nA kx))), (q7, .inl (cI, 6, .inl (nA kw))), (q8, .inl (cI, 6, .inl (nA ke))), (q17, .inl (cI, 8, .inl u.1)), (q18, .inl (cI, 8, .inl u.2))]) : ∀ (n_4 : Nat) (i : Nat) (so : Nat) (ce1 : Nat → Int32) (se1 : Nat → Int32), (i ≤ sn) → ((so = 1 ∧ allH cth co ro kx kw ke i = true) ∨ (so = 0 ∧ allH cth co ro kx kw ke i = false)) → sn - i < n_4 → J X 3 0 0 4 [(0, .ref q0), (1, .int (nI so)), (2, .int (nI i))] [] [(q0, .inr (9, [.int (nI ro), .int (nI co), .int sl, .ref q3, .ref q4, .int (nI sn), .ref q6, .ref q7, .ref q8, .ref q9, .int ts, .int ra, .int rr, .int rw, .ref q14, .ref q15, .int rn, .ref q17, .ref q18, .ref q19, .int um, .int bs, .int bh, .ref q23, .ref q24, .ref q25, .int km])), (q3, .inl (cI, 48, .inl th)), (q4, .inl (cI, 48, .inl mo)), (q6, .inl (cI, 6, .inl (nA kx))), (q7, .inl (cI, 6, .inl (nA kw))), (q8, .inl (cI, 6, .inl (nA ke))), (q17, .inl (cI, 8, .inl ce1)), (q18, .inl (cI, 8, .inl se1))] := by
  intro n_4
  induction n_4 with
  | zero => intro i so ce1 se1 hi hso hn_; exact absurd hn_ (Nat.not_lt_zero _)
  | succ n_4 ih_4 =>
    intro i so ce1 se1 hi hso hn_4
    have hso1 : so ≤ 1 := by rcases hso with q | q <;> omega
    refine J_iload_n h (i := 2) dX9_isSo_4 rfl 2 rfl ?_
    refine J_aload_n h (i := 0) dX9_isSo_5 rfl 0 rfl ?_
    refine J_get h inX9 rfl 0 5 (by decide) rfl rfl nf_X9_118 dX9_isSo_6 ?_
    refine N_icmp_ge h 54 dX9_isSo_9 (by decide) (by omega) (by omega) (fun c_9 => ?_) (fun c_9 => ?_)
    · skip
      refine J_iload_n h (i := 1) dX9_isSo_54 rfl 1 rfl ?_
      exact hR (nI so) (ce1, se1) (by have e : i = sn := (by omega); rw [e] at hso; rcases hso with q | q; exact Or.inl ⟨by rw [q.1], allH_iff.mp q.2, trivial⟩; exact Or.inr ⟨by rw [q.1], so_no q.2, trivial⟩) 55 _ dX9_isSo_55
    · skip
      refine J_iload_n h (i := 1) dX9_isSo_12 rfl 1 rfl ?_
      refine N_if_eq h 46 dX9_isSo_13 (by decide) (by omega) (fun c_13 => ?_) (fun c_13 => ?_)
      · skip
        refine J_iconst h (v := nI 0) dX9_isSo_46 (by decide) ?_
        refine J_istore_n h (i := 1) (lv' := [(1, .int (nI 0)), (0, .ref q0), (2, .int (nI i))]) dX9_isSo_47 rfl (by decide) rfl ?_
        refine J_iinc h (v := nI (i + 1)) (lv' := [(2, .int (nI (i + 1))), (1, .int (nI 0)), (0, .ref q0)]) dX9_isSo_48 2 rfl (inc_ok _ 1) (by decide) rfl ?_
        refine J_goto h 4 dX9_isSo_51 (by decide) ?_
        refine J.loc [2, 1, 0] (lv' := [(0, .ref q0), (1, .int (nI 0)), (2, .int (nI (i + 1)))]) rfl ?_
        exact ih_4 (i + 1) 0 ce1 se1 (by first | exact hi |  assumption | omega | rfl) (by first | exact Or.inl ⟨rfl, by rw [allH_s, (hso.resolve_right (fun q => absurd q.1 (by omega))).2, decide_eq_true c_39]; rfl⟩ | exact Or.inr ⟨rfl, by rw [allH_s, decide_eq_false c_39, Bool.and_false]⟩ | exact Or.inr ⟨rfl, by rw [allH_s, (hso.resolve_left (fun q => absurd q.1 (by omega))).2]; rfl⟩) (by omega)
      · skip
        obtain ⟨hk1, hk2, hk3⟩ := hk i (by omega)
        have hrn := ren_lt cth (ro := ro) (hh := 0) hrc hk1 hk2
        refine J_aload_n h (i := 0) dX9_isSo_16 rfl 0 rfl ?_
        refine J_aload_n h (i := 0) dX9_isSo_17 rfl 0 rfl ?_
        refine J_get h inX9 rfl 0 6 (by decide) rfl rfl nf_X9_16 dX9_isSo_18 ?_
        refine J_iload_n h (i := 2) dX9_isSo_21 rfl 2 rfl ?_
        refine N_iald h 3 rfl (by decide) (by omega) dX9_isSo_22 ?_
        refine J_eqs (st' := [.int (nI (kx i)), .ref q0]) (by rfl) ?_
        refine J_aload_n h (i := 0) dX9_isSo_23 rfl 0 rfl ?_
        refine J_get h inX9 rfl 0 7 (by decide) rfl rfl nf_X9_19 dX9_isSo_24 ?_
        refine J_iload_n h (i := 2) dX9_isSo_27 rfl 2 rfl ?_
        refine N_iald h 4 rfl (by decide) (by omega) dX9_isSo_28 ?_
        refine J_eqs (st' := [.int (nI (kw i)), .int (nI (kx i)), .ref q0]) (by rfl) ?_
        refine J_iconst h (v := nI 0) dX9_isSo_29 (by decide) ?_
        refine J.wld [0, 1, 6, 7, 2, 3, 4, 5] (ws' := [(q0, .inr (9, [.int (nI ro), .int (nI co), .int sl, .ref q3, .ref q4, .int (nI sn), .ref q6, .ref q7, .ref q8, .ref q9, .int ts, .int ra, .int rr, .int rw, .ref q14, .ref q15, .int rn, .ref q17, .ref q18, .ref q19, .int um, .int bs, .int bh, .ref q23, .ref q24, .ref q25, .int km])), (q3, .inl (cI, 48, .inl th)), (q17, .inl (cI, 8, .inl ce1)), (q18, .inl (cI, 8, .inl se1)), (q4, .inl (cI, 48, .inl mo)), (q6, .inl (cI, 6, .inl (nA kx))), (q7, .inl (cI, 6, .inl (nA kw))), (q8, .inl (cI, 6, .inl (nA ke)))]) rfl rfl ?_
        refine K_vi h (wr := [(q4, .inl (cI, 48, .inl mo)), (q6, .inl (cI, 6, .inl (nA kx))), (q7, .inl (cI, 6, .inl (nA kw))), (q8, .inl (cI, 6, .inl (nA ke)))]) (c_X9_goes (xl X) (xD X) cI cE q0 q3 q4 q6 q7 q8 q9 q14 q15 q17 q18 q19 q23 q24 q25 ro co sl (nI sn) ts ra rr rw rn um bs bh km th ce1 se1 cth (kx i) (kw i) 0 (by first | exact hrc |  assumption | omega | rfl) (by first | exact hco |  assumption | omega | rfl) (by first | exact hro |  assumption | omega | rfl) (by first | assumption | omega | rfl) (by first | assumption | omega | rfl) (by first | assumption | omega | rfl) (by exact rel_T hrel)) yv_X9_goes nm_X9_137 (by decide) (by decide) rfl rfl 0 rfl rfl rfl rfl (Nat.le_of_ble_eq_true rfl) (Nat.le_refl _) (Nat.le_refl _) dX9_isSo_30 (fun r_30 u_30 p_30 => ?_)
        obtain ⟨ce2_30, se2_30⟩ := u_30
        try dsimp only at p_30
        obtain ⟨rfl, f0_30, f1_30, f2_30, f3_30, -⟩ := p_30
        show J X 3 0 0 33 [(0, .ref q0), (1, .int (nI so)), (2, .int (nI i))] [.int (nI (ren cth co ro 0 (kx i) (kw i)))] [(q0, .inr (9, [.int (nI ro), .int (nI co), .int sl, .ref q3, .ref q4, .int (nI sn), .ref q6, .ref q7, .ref q8, .ref q9, .int ts, .int ra, .int rr, .int rw, .ref q14, .ref q15, .int rn, .ref q17, .ref q18, .ref q19, .int um, .int bs, .int bh, .ref q23, .ref q24, .ref q25, .int km])), (q3, .inl (cI, 48, .inl th)), (q17, .inl (cI, 8, .inl ce2_30)), (q18, .inl (cI, 8, .inl se2_30)), (q4, .inl (cI, 48, .inl mo)), (q6, .inl (cI, 6, .inl (nA kx))), (q7, .inl (cI, 6, .inl (nA kw))), (q8, .inl (cI, 6, .inl (nA ke)))]
        refine J_aload_n h (i := 0) dX9_isSo_33 rfl 0 rfl ?_
        refine J_get h inX9 rfl 0 8 (by decide) rfl rfl nf_X9_22 dX9_isSo_34 ?_
        refine J_iload_n h (i := 2) dX9_isSo_37 rfl 2 rfl ?_
        refine N_iald h 7 rfl (by decide) (by omega) dX9_isSo_38 ?_
        refine J_eqs (st' := [.int (nI (ke i)), .int (nI (ren cth co ro 0 (kx i) (kw i)))]) (by rfl) ?_
        refine N_icmp_ne h 46 dX9_isSo_39 (by decide) (by omega) (by omega) (fun c_39 => ?_) (fun c_39 => ?_)
        · skip
          refine J_iconst h (v := nI 0) dX9_isSo_46 (by decide) ?_
          refine J_istore_n h (i := 1) (lv' := [(1, .int (nI 0)), (0, .ref q0), (2, .int (nI i))]) dX9_isSo_47 rfl (by decide) rfl ?_
          refine J_iinc h (v := nI (i + 1)) (lv' := [(2, .int (nI (i + 1))), (1, .int (nI 0)), (0, .ref q0)]) dX9_isSo_48 2 rfl (inc_ok _ 1) (by decide) rfl ?_
          refine J_goto h 4 dX9_isSo_51 (by decide) ?_
          refine J.wld [0, 1, 4, 5, 6, 7, 2, 3] (ws' := [(q0, .inr (9, [.int (nI ro), .int (nI co), .int sl, .ref q3, .ref q4, .int (nI sn), .ref q6, .ref q7, .ref q8, .ref q9, .int ts, .int ra, .int rr, .int rw, .ref q14, .ref q15, .int rn, .ref q17, .ref q18, .ref q19, .int um, .int bs, .int bh, .ref q23, .ref q24, .ref q25, .int km])), (q3, .inl (cI, 48, .inl th)), (q4, .inl (cI, 48, .inl mo)), (q6, .inl (cI, 6, .inl (nA kx))), (q7, .inl (cI, 6, .inl (nA kw))), (q8, .inl (cI, 6, .inl (nA ke))), (q17, .inl (cI, 8, .inl ce2_30)), (q18, .inl (cI, 8, .inl se2_30))]) rfl rfl ?_
          refine J.loc [2, 1, 0] (lv' := [(0, .ref q0), (1, .int (nI 0)), (2, .int (nI (i + 1)))]) rfl ?_
          exact ih_4 (i + 1) 0 ce2_30 se2_30 (by first | exact hi |  assumption | omega | rfl) (by first | exact Or.inl ⟨rfl, by rw [allH_s, (hso.resolve_right (fun q => absurd q.1 (by omega))).2, decide_eq_true c_39]; rfl⟩ | exact Or.inr ⟨rfl, by rw [allH_s, decide_eq_false c_39, Bool.and_false]⟩ | exact Or.inr ⟨rfl, by rw [allH_s, (hso.resolve_left (fun q => absurd q.1 (by omega))).2]; rfl⟩) (by omega)
        · skip
          refine J_iconst h (v := nI 1) dX9_isSo_42 (by decide) ?_
          refine J_goto h 47 dX9_isSo_43 (by decide) ?_
          refine J_istore_n h (i := 1) (lv' := [(1, .int (nI 1)), (0, .ref q0), (2, .int (nI i))]) dX9_isSo_47 rfl (by decide) rfl ?_
          refine J_iinc h (v := nI (i + 1)) (lv' := [(2, .int (nI (i + 1))), (1, .int (nI 1)), (0, .ref q0)]) dX9_isSo_48 2 rfl (inc_ok _ 1) (by decide) rfl ?_
          refine J_goto h 4 dX9_isSo_51 (by decide) ?_
          refine J.wld [0, 1, 4, 5, 6, 7, 2, 3] (ws' := [(q0, .inr (9, [.int (nI ro), .int (nI co), .int sl, .ref q3, .ref q4, .int (nI sn), .ref q6, .ref q7, .ref q8, .ref q9, .int ts, .int ra, .int rr, .int rw, .ref q14, .ref q15, .int rn, .ref q17, .ref q18, .ref q19, .int um, .int bs, .int bh, .ref q23, .ref q24, .ref q25, .int km])), (q3, .inl (cI, 48, .inl th)), (q4, .inl (cI, 48, .inl mo)), (q6, .inl (cI, 6, .inl (nA kx))), (q7, .inl (cI, 6, .inl (nA kw))), (q8, .inl (cI, 6, .inl (nA ke))), (q17, .inl (cI, 8, .inl ce2_30)), (q18, .inl (cI, 8, .inl se2_30))]) rfl rfl ?_
          refine J.loc [2, 1, 0] (lv' := [(0, .ref q0), (1, .int (nI 1)), (2, .int (nI (i + 1)))]) rfl ?_
          exact ih_4 (i + 1) 1 ce2_30 se2_30 (by first | exact hi |  assumption | omega | rfl) (by first | exact Or.inl ⟨rfl, by rw [allH_s, (hso.resolve_right (fun q => absurd q.1 (by omega))).2, decide_eq_true c_39]; rfl⟩ | exact Or.inr ⟨rfl, by rw [allH_s, decide_eq_false c_39, Bool.and_false]⟩ | exact Or.inr ⟨rfl, by rw [allH_s, (hso.resolve_left (fun q => absurd q.1 (by omega))).2]; rfl⟩) (by omega)
set_option maxRecDepth 100000 in
set_option maxHeartbeats 4000000 in
theorem w_X9_isSo (X : Cx) {cI cE : ClassId} (h : Ok X cX9_isSo RX9 3 cI cE 3 0 0) (q0 : Nat) (q3 : Nat) (q4 : Nat) (q6 : Nat) (q7 : Nat) (q8 : Nat) (q9 : Nat) (q14 : Nat) (q15 : Nat) (q17 : Nat) (q18 : Nat) (q19 : Nat) (q23 : Nat) (q24 : Nat) (q25 : Nat) (ro : Nat) (co : Nat) (sl : Int32) (sn : Nat) (ts : Int32) (ra : Int32) (rr : Int32) (rw : Int32) (rn : Int32) (um : Int32) (bs : Int32) (bh : Int32) (km : Int32) (th : Nat → Int32) (mo : Nat → Int32) (kx : Nat → Nat) (kw : Nat → Nat) (ke : Nat → Nat) (ce : Nat → Int32) (se : Nat → Int32) (cth : Nat → Int32) (cow : Nat → Int32) (hrc : ro * co ≤ 48) (hco : co ≤ 6) (hro : ro ≤ 8) (hrel : rel (ro * co) th mo cth cow) (hsn : sn ≤ 6) (hk : ∀ i, i < sn → kx i < co ∧ kw i ≤ 20 ∧ ke i ≤ 99) (hR : ∀ (r : Int32) (u : (Nat → Int32) × (Nat → Int32)), ((nI 1 = r) ∧ (∀ i, i < sn → ren cth co ro 0 (kx i) (kw i) = ke i) ∧ (True)) ∨ ((nI 0 = r) ∧ (¬ (∀ i, i < sn → ren cth co ro 0 (kx i) (kw i) = ke i)) ∧ (True)) → RetI X cX9_isSo 3 0 0 r [(q0, .inr (9, [.int (nI ro), .int (nI co), .int sl, .ref q3, .ref q4, .int (nI sn), .ref q6, .ref q7, .ref q8, .ref q9, .int ts, .int ra, .int rr, .int rw, .ref q14, .ref q15, .int rn, .ref q17, .ref q18, .ref q19, .int um, .int bs, .int bh, .ref q23, .ref q24, .ref q25, .int km])), (q3, .inl (cI, 48, .inl th)), (q4, .inl (cI, 48, .inl mo)), (q6, .inl (cI, 6, .inl (nA kx))), (q7, .inl (cI, 6, .inl (nA kw))), (q8, .inl (cI, 6, .inl (nA ke))), (q17, .inl (cI, 8, .inl u.1)), (q18, .inl (cI, 8, .inl u.2))]) : J X 3 0 0 0 [(0, .ref q0)] [] [(q0, .inr (9, [.int (nI ro), .int (nI co), .int sl, .ref q3, .ref q4, .int (nI sn), .ref q6, .ref q7, .ref q8, .ref q9, .int ts, .int ra, .int rr, .int rw, .ref q14, .ref q15, .int rn, .ref q17, .ref q18, .ref q19, .int um, .int bs, .int bh, .ref q23, .ref q24, .ref q25, .int km])), (q3, .inl (cI, 48, .inl th)), (q4, .inl (cI, 48, .inl mo)), (q6, .inl (cI, 6, .inl (nA kx))), (q7, .inl (cI, 6, .inl (nA kw))), (q8, .inl (cI, 6, .inl (nA ke))), (q17, .inl (cI, 8, .inl ce)), (q18, .inl (cI, 8, .inl se))] := by
  refine J_iconst h (v := nI 1) dX9_isSo_0 (by decide) ?_
  refine J_istore_n h (i := 1) (lv' := [(1, .int (nI 1)), (0, .ref q0)]) dX9_isSo_1 rfl (by decide) rfl ?_
  refine J_iconst h (v := nI 0) dX9_isSo_2 (by decide) ?_
  refine J_istore_n h (i := 2) (lv' := [(2, .int (nI 0)), (1, .int (nI 1)), (0, .ref q0)]) dX9_isSo_3 rfl (by decide) rfl ?_
  refine J.loc [2, 1, 0] (lv' := [(0, .ref q0), (1, .int (nI 1)), (2, .int (nI 0))]) rfl ?_
  exact w_X9_isSo_4 X h q0 q3 q4 q6 q7 q8 q9 q14 q15 q17 q18 q19 q23 q24 q25 ro co sl sn ts ra rr rw rn um bs bh km th mo kx kw ke ce se cth cow hrc hco hro hrel hsn hk hR  (sn - 0 + 1) 0 1 ce se (by first | assumption | omega | rfl) (by exact Or.inl ⟨rfl, rfl⟩) (by omega)
theorem c_X9_isSo (l : Launch) (D : va_G) (cI cE : ClassId) (q0 : Nat) (q3 : Nat) (q4 : Nat) (q6 : Nat) (q7 : Nat) (q8 : Nat) (q9 : Nat) (q14 : Nat) (q15 : Nat) (q17 : Nat) (q18 : Nat) (q19 : Nat) (q23 : Nat) (q24 : Nat) (q25 : Nat) (ro : Nat) (co : Nat) (sl : Int32) (sn : Nat) (ts : Int32) (ra : Int32) (rr : Int32) (rw : Int32) (rn : Int32) (um : Int32) (bs : Int32) (bh : Int32) (km : Int32) (th : Nat → Int32) (mo : Nat → Int32) (kx : Nat → Nat) (kw : Nat → Nat) (ke : Nat → Nat) (ce : Nat → Int32) (se : Nat → Int32) (cth : Nat → Int32) (cow : Nat → Int32) (hrc : ro * co ≤ 48) (hco : co ≤ 6) (hro : ro ≤ 8) (hrel : rel (ro * co) th mo cth cow) (hsn : sn ≤ 6) (hk : ∀ i, i < sn → kx i < co ∧ kw i ≤ 20 ∧ ke i ≤ 99) : Ci l D cI cE yX9_isSo cX9_isSo 3 (some .boolean) 3 0 0 [.ref q0] [(q0, .inr (9, [.int (nI ro), .int (nI co), .int sl, .ref q3, .ref q4, .int (nI sn), .ref q6, .ref q7, .ref q8, .ref q9, .int ts, .int ra, .int rr, .int rw, .ref q14, .ref q15, .int rn, .ref q17, .ref q18, .ref q19, .int um, .int bs, .int bh, .ref q23, .ref q24, .ref q25, .int km])), (q3, .inl (cI, 48, .inl th)), (q4, .inl (cI, 48, .inl mo)), (q6, .inl (cI, 6, .inl (nA kx))), (q7, .inl (cI, 6, .inl (nA kw))), (q8, .inl (cI, 6, .inl (nA ke))), (q17, .inl (cI, 8, .inl ce)), (q18, .inl (cI, 8, .inl se))] (fun (r : Int32) (u : (Nat → Int32) × (Nat → Int32)) => ((nI 1 = r) ∧ (∀ i, i < sn → ren cth co ro 0 (kx i) (kw i) = ke i) ∧ (True)) ∨ ((nI 0 = r) ∧ (¬ (∀ i, i < sn → ren cth co ro 0 (kx i) (kw i) = ke i)) ∧ (True))) (fun (u : (Nat → Int32) × (Nat → Int32)) => ([(q0, .inr (9, [.int (nI ro), .int (nI co), .int sl, .ref q3, .ref q4, .int (nI sn), .ref q6, .ref q7, .ref q8, .ref q9, .int ts, .int ra, .int rr, .int rw, .ref q14, .ref q15, .int rn, .ref q17, .ref q18, .ref q19, .int um, .int bs, .int bh, .ref q23, .ref q24, .ref q25, .int km])), (q3, .inl (cI, 48, .inl th)), (q4, .inl (cI, 48, .inl mo)), (q6, .inl (cI, 6, .inl (nA kx))), (q7, .inl (cI, 6, .inl (nA kw))), (q8, .inl (cI, 6, .inl (nA ke))), (q17, .inl (cI, 8, .inl u.1)), (q18, .inl (cI, 8, .inl u.2))] : va_W)) :=
  Ci.of (by decide) (Nat.le_of_ble_eq_true rfl) (fun r u hp => by rcases hp with ⟨hp, _⟩ | ⟨hp, _⟩ <;> (rw [← hp]; rfl)) (fun X h hR => w_X9_isSo X h q0 q3 q4 q6 q7 q8 q9 q14 q15 q17 q18 q19 q23 q24 q25 ro co sl sn ts ra rr rw rn um bs bh km th mo kx kw ke ce se cth cow hrc hco hro hrel hsn hk hR)
theorem yv_X9_isSo : YV yX9_isSo cX9_isSo 3 (some .boolean) 0 := ⟨no_X9_isSo, nv_X9_isSo, ni_X9, nk_X9_isSo, by decide +kernel⟩
set_option maxRecDepth 100000 in
set_option maxHeartbeats 4000000 in
theorem w_X9_lies_22 (X : Cx) {cI cE : ClassId} (h : Ok X cX9_lies RX9 5 cI cE 4 0 0) (q0 : Nat) (q3 : Nat) (q4 : Nat) (q6 : Nat) (q7 : Nat) (q8 : Nat) (q9 : Nat) (q14 : Nat) (q15 : Nat) (q17 : Nat) (q18 : Nat) (q19 : Nat) (q23 : Nat) (q24 : Nat) (q25 : Nat) (ro : Nat) (co : Nat) (sl : Int32) (sn : Nat) (ts : Int32) (ra : Int32) (rr : Int32) (rw : Int32) (rn : Int32) (um : Int32) (bs : Int32) (bh : Int32) (km : Int32) (th : Nat → Int32) (mo : Nat → Int32) (kx : Nat → Nat) (kw : Nat → Nat) (ke : Nat → Nat) (ce : Nat → Int32) (se : Nat → Int32) (cth : Nat → Int32) (cow : Nat → Int32) (p0 : Int32) (hrc : ro * co ≤ 48) (hco : co ≤ 6) (hro : ro ≤ 8) (hrel : rel (ro * co) th mo cth cow) (hsn : sn ≤ 6) (hk : ∀ i, i < sn → kx i < co ∧ kw i ≤ 20 ∧ ke i ≤ 99) (hR : ∀ (r : Int32) (u : (Nat → Int32) × (Nat → Int32)), ((fLies cth co ro kx kw ke sn p0 = r) ∧ (True)) → RetI X cX9_lies 5 0 0 r [(q0, .inr (9, [.int (nI ro), .int (nI co), .int sl, .ref q3, .ref q4, .int (nI sn), .ref q6, .ref q7, .ref q8, .ref q9, .int ts, .int ra, .int rr, .int rw, .ref q14, .ref q15, .int rn, .ref q17, .ref q18, .ref q19, .int um, .int bs, .int bh, .ref q23, .ref q24, .ref q25, .int km])), (q3, .inl (cI, 48, .inl th)), (q4, .inl (cI, 48, .inl mo)), (q6, .inl (cI, 6, .inl (nA kx))), (q7, .inl (cI, 6, .inl (nA kw))), (q8, .inl (cI, 6, .inl (nA ke))), (q17, .inl (cI, 8, .inl u.1)), (q18, .inl (cI, 8, .inl u.2))]) : ∀ (n_22 : Nat) (k : Nat) (b : Int32) (t1 : Nat → Int32) (jc : Nat) (ce1 : Nat → Int32) (se1 : Nat → Int32), (k ≤ 4) → (b = lsB cth co ro kx kw ke sn jc k) → (∀ j, j ≠ jc → t1 j = th j) → (jc < ro * co) → (p0 = nI jc) → 4 - k < n_22 → J X 5 0 0 22 [(0, .ref q0), (1, .int (nI jc)), (2, .int (th jc)), (3, .int b), (4, .int (nI k))] [] [(q0, .inr (9, [.int (nI ro), .int (nI co), .int sl, .ref q3, .ref q4, .int (nI sn), .ref q6, .ref q7, .ref q8, .ref q9, .int ts, .int ra, .int rr, .int rw, .ref q14, .ref q15, .int rn, .ref q17, .ref q18, .ref q19, .int um, .int bs, .int bh, .ref q23, .ref q24, .ref q25, .int km])), (q3, .inl (cI, 48, .inl t1)), (q4, .inl (cI, 48, .inl mo)), (q6, .inl (cI, 6, .inl (nA kx))), (q7, .inl (cI, 6, .inl (nA kw))), (q8, .inl (cI, 6, .inl (nA ke))), (q17, .inl (cI, 8, .inl ce1)), (q18, .inl (cI, 8, .inl se1))] := by
  intro n_22
  induction n_22 with
  | zero => intro k b t1 jc ce1 se1 hk4 hb ht hjc e0 hn_; exact absurd hn_ (Nat.not_lt_zero _)
  | succ n_22 ih_22 =>
    intro k b t1 jc ce1 se1 hk4 hb ht hjc e0 hn_22
    refine J_iload h dX9_lies_22 4 rfl ?_
    refine J_iconst h (v := nI 3) dX9_lies_24 (by decide) ?_
    refine N_icmp_gt h 60 dX9_lies_25 (by decide) (by omega) (by omega) (fun c_25 => ?_) (fun c_25 => ?_)
    · skip
      refine J_aload_n h (i := 0) dX9_lies_60 rfl 0 rfl ?_
      refine J_get h inX9 rfl 0 3 (by decide) rfl rfl nf_X9_7 dX9_lies_61 ?_
      refine J_iload_n h (i := 1) dX9_lies_64 rfl 1 rfl ?_
      refine J_iload_n h (i := 2) dX9_lies_65 rfl 2 rfl ?_
      refine N_iast h (ws' := [(q0, .inr (9, [.int (nI ro), .int (nI co), .int sl, .ref q3, .ref q4, .int (nI sn), .ref q6, .ref q7, .ref q8, .ref q9, .int ts, .int ra, .int rr, .int rw, .ref q14, .ref q15, .int rn, .ref q17, .ref q18, .ref q19, .int um, .int bs, .int bh, .ref q23, .ref q24, .ref q25, .int km])), (q3, .inl (cI, 48, .inl (upd t1 jc (th jc)))), (q4, .inl (cI, 48, .inl mo)), (q6, .inl (cI, 6, .inl (nA kx))), (q7, .inl (cI, 6, .inl (nA kw))), (q8, .inl (cI, 6, .inl (nA ke))), (q17, .inl (cI, 8, .inl ce1)), (q18, .inl (cI, 8, .inl se1))]) 1 rfl (by decide) (by omega) dX9_lies_66 rfl ?_
      refine J_eqw (ws' := [(q0, .inr (9, [.int (nI ro), .int (nI co), .int sl, .ref q3, .ref q4, .int (nI sn), .ref q6, .ref q7, .ref q8, .ref q9, .int ts, .int ra, .int rr, .int rw, .ref q14, .ref q15, .int rn, .ref q17, .ref q18, .ref q19, .int um, .int bs, .int bh, .ref q23, .ref q24, .ref q25, .int km])), (q3, .inl (cI, 48, .inl th)), (q4, .inl (cI, 48, .inl mo)), (q6, .inl (cI, 6, .inl (nA kx))), (q7, .inl (cI, 6, .inl (nA kw))), (q8, .inl (cI, 6, .inl (nA ke))), (q17, .inl (cI, 8, .inl ce1)), (q18, .inl (cI, 8, .inl se1))]) (by rw [upd_back ht]) ?_
      refine J_iload_n h (i := 3) dX9_lies_67 rfl 3 rfl ?_
      exact hR b (ce1, se1) (⟨(by (try dsimp only); rw [e0]; unfold fLies; rw [if_pos (cellI hjc (by omega)), tnI (by omega), hb, show k = 4 by omega]), trivial⟩) 68 _ dX9_lies_68
    · skip
      refine J_aload_n h (i := 0) dX9_lies_28 rfl 0 rfl ?_
      refine J_get h inX9 rfl 0 3 (by decide) rfl rfl nf_X9_7 dX9_lies_29 ?_
      refine J_iload_n h (i := 1) dX9_lies_32 rfl 1 rfl ?_
      refine J_iload h dX9_lies_33 4 rfl ?_
      refine N_iast h (ws' := [(q0, .inr (9, [.int (nI ro), .int (nI co), .int sl, .ref q3, .ref q4, .int (nI sn), .ref q6, .ref q7, .ref q8, .ref q9, .int ts, .int ra, .int rr, .int rw, .ref q14, .ref q15, .int rn, .ref q17, .ref q18, .ref q19, .int um, .int bs, .int bh, .ref q23, .ref q24, .ref q25, .int km])), (q3, .inl (cI, 48, .inl (upd t1 jc (nI k)))), (q4, .inl (cI, 48, .inl mo)), (q6, .inl (cI, 6, .inl (nA kx))), (q7, .inl (cI, 6, .inl (nA kw))), (q8, .inl (cI, 6, .inl (nA ke))), (q17, .inl (cI, 8, .inl ce1)), (q18, .inl (cI, 8, .inl se1))]) 1 rfl (by decide) (by omega) dX9_lies_35 rfl ?_
      refine J_eqw (ws' := [(q0, .inr (9, [.int (nI ro), .int (nI co), .int sl, .ref q3, .ref q4, .int (nI sn), .ref q6, .ref q7, .ref q8, .ref q9, .int ts, .int ra, .int rr, .int rw, .ref q14, .ref q15, .int rn, .ref q17, .ref q18, .ref q19, .int um, .int bs, .int bh, .ref q23, .ref q24, .ref q25, .int km])), (q3, .inl (cI, 48, .inl (upd th jc (nI k)))), (q4, .inl (cI, 48, .inl mo)), (q6, .inl (cI, 6, .inl (nA kx))), (q7, .inl (cI, 6, .inl (nA kw))), (q8, .inl (cI, 6, .inl (nA ke))), (q17, .inl (cI, 8, .inl ce1)), (q18, .inl (cI, 8, .inl se1))]) (by rw [upd_off ht]) ?_
      refine J_iload_n h (i := 3) dX9_lies_36 rfl 3 rfl ?_
      refine J_aload_n h (i := 0) dX9_lies_37 rfl 0 rfl ?_
      refine K_vi h (wr := []) (c_X9_isSo (xl X) (xD X) cI cE q0 q3 q4 q6 q7 q8 q9 q14 q15 q17 q18 q19 q23 q24 q25 ro co sl sn ts ra rr rw rn um bs bh km (upd th jc (nI k)) mo kx kw ke ce1 se1 (upd cth jc (nI k)) cow (by first | exact hrc |  assumption | omega | rfl) (by first | exact hco |  assumption | omega | rfl) (by first | exact hro |  assumption | omega | rfl) (by have hti := tiI (j := k) (by omega); exact rel_updT hrel jc (by omega) (by omega)) (by first | exact hsn |  assumption | omega | rfl) (by first | exact hk |  assumption | omega | rfl)) yv_X9_isSo nm_X9_191 (by decide) (by decide) rfl rfl 0 rfl rfl rfl rfl (Nat.le_of_ble_eq_true rfl) (Nat.le_refl _) (Nat.le_refl _) dX9_lies_38 (fun r_38 u_38 p_38 => ?_)
      obtain ⟨ce2_38, se2_38⟩ := u_38
      try dsimp only at p_38
      rcases p_38 with p_38 | p_38
      · obtain ⟨rfl, f0_38, -⟩ := p_38
        show J X 5 0 0 41 [(0, .ref q0), (1, .int (nI jc)), (2, .int (th jc)), (3, .int b), (4, .int (nI k))] [.int (nI 1), .int b] [(q0, .inr (9, [.int (nI ro), .int (nI co), .int sl, .ref q3, .ref q4, .int (nI sn), .ref q6, .ref q7, .ref q8, .ref q9, .int ts, .int ra, .int rr, .int rw, .ref q14, .ref q15, .int rn, .ref q17, .ref q18, .ref q19, .int um, .int bs, .int bh, .ref q23, .ref q24, .ref q25, .int km])), (q3, .inl (cI, 48, .inl ((upd th jc (nI k))))), (q4, .inl (cI, 48, .inl mo)), (q6, .inl (cI, 6, .inl (nA kx))), (q7, .inl (cI, 6, .inl (nA kw))), (q8, .inl (cI, 6, .inl (nA ke))), (q17, .inl (cI, 8, .inl ce2_38)), (q18, .inl (cI, 8, .inl se2_38))]
        refine J_if_eq h 51 dX9_lies_41 (by decide) (fun z => absurd z (by decide)) (fun _ => ?_)
        refine J_iconst h (v := nI 1) dX9_lies_44 (by decide) ?_
        refine J_iload h dX9_lies_45 4 rfl ?_
        refine J_ishl h dX9_lies_47 ?_
        refine J_goto h 52 dX9_lies_48 (by decide) ?_
        refine J_ior h dX9_lies_52 ?_
        refine J_istore_n h (i := 3) (lv' := [(3, .int (b ||| ((nI 1) <<< ((nI k) &&& 31)))), (0, .ref q0), (1, .int (nI jc)), (2, .int (th jc)), (4, .int (nI k))]) dX9_lies_53 rfl (by decide) rfl ?_
        refine J_iinc h (v := nI (k + 1)) (lv' := [(4, .int (nI (k + 1))), (3, .int (b ||| ((nI 1) <<< ((nI k) &&& 31)))), (0, .ref q0), (1, .int (nI jc)), (2, .int (th jc))]) dX9_lies_54 4 rfl (inc_ok _ 1) (by decide) rfl ?_
        refine J_goto h 22 dX9_lies_57 (by decide) ?_
        refine J.loc [2, 3, 4, 1, 0] (lv' := [(0, .ref q0), (1, .int (nI jc)), (2, .int (th jc)), (3, .int (b ||| ((nI 1) <<< ((nI k) &&& 31)))), (4, .int (nI (k + 1)))]) rfl ?_
        exact ih_22 (k + 1) (b ||| ((nI 1) <<< ((nI k) &&& 31))) (upd th jc (nI k)) jc ce2_38 se2_38 (by first | exact hk4 |  assumption | omega | rfl) (by rw [hb]; first | exact (if_pos (allH_iff.mpr f0_38)).symm | (rw [show nI 0 = (0 : Int32) from rfl, Int32.or_zero]; exact (if_neg (fun q => f0_38 (allH_iff.mp q))).symm)) (by exact fun j hj => upd_ne _ _ hj) (by first | exact hjc |  assumption | omega | rfl) (by first | exact e0 |  assumption | omega | rfl) (by omega)
      · obtain ⟨rfl, f0_38, -⟩ := p_38
        show J X 5 0 0 41 [(0, .ref q0), (1, .int (nI jc)), (2, .int (th jc)), (3, .int b), (4, .int (nI k))] [.int (nI 0), .int b] [(q0, .inr (9, [.int (nI ro), .int (nI co), .int sl, .ref q3, .ref q4, .int (nI sn), .ref q6, .ref q7, .ref q8, .ref q9, .int ts, .int ra, .int rr, .int rw, .ref q14, .ref q15, .int rn, .ref q17, .ref q18, .ref q19, .int um, .int bs, .int bh, .ref q23, .ref q24, .ref q25, .int km])), (q3, .inl (cI, 48, .inl ((upd th jc (nI k))))), (q4, .inl (cI, 48, .inl mo)), (q6, .inl (cI, 6, .inl (nA kx))), (q7, .inl (cI, 6, .inl (nA kw))), (q8, .inl (cI, 6, .inl (nA ke))), (q17, .inl (cI, 8, .inl ce2_38)), (q18, .inl (cI, 8, .inl se2_38))]
        refine J_if_eq h 51 dX9_lies_41 (by decide) (fun _ => ?_) (fun z => absurd z (by decide))
        refine J_iconst h (v := nI 0) dX9_lies_51 (by decide) ?_
        refine J_ior h dX9_lies_52 ?_
        refine J_istore_n h (i := 3) (lv' := [(3, .int (b ||| (nI 0))), (0, .ref q0), (1, .int (nI jc)), (2, .int (th jc)), (4, .int (nI k))]) dX9_lies_53 rfl (by decide) rfl ?_
        refine J_iinc h (v := nI (k + 1)) (lv' := [(4, .int (nI (k + 1))), (3, .int (b ||| (nI 0))), (0, .ref q0), (1, .int (nI jc)), (2, .int (th jc))]) dX9_lies_54 4 rfl (inc_ok _ 1) (by decide) rfl ?_
        refine J_goto h 22 dX9_lies_57 (by decide) ?_
        refine J.loc [2, 3, 4, 1, 0] (lv' := [(0, .ref q0), (1, .int (nI jc)), (2, .int (th jc)), (3, .int (b ||| (nI 0))), (4, .int (nI (k + 1)))]) rfl ?_
        exact ih_22 (k + 1) (b ||| (nI 0)) (upd th jc (nI k)) jc ce2_38 se2_38 (by first | exact hk4 |  assumption | omega | rfl) (by rw [hb]; first | exact (if_pos (allH_iff.mpr f0_38)).symm | (rw [show nI 0 = (0 : Int32) from rfl, Int32.or_zero]; exact (if_neg (fun q => f0_38 (allH_iff.mp q))).symm)) (by exact fun j hj => upd_ne _ _ hj) (by first | exact hjc |  assumption | omega | rfl) (by first | exact e0 |  assumption | omega | rfl) (by omega)
set_option maxRecDepth 100000 in
set_option maxHeartbeats 4000000 in
theorem w_X9_lies (X : Cx) {cI cE : ClassId} (h : Ok X cX9_lies RX9 5 cI cE 4 0 0) (q0 : Nat) (q3 : Nat) (q4 : Nat) (q6 : Nat) (q7 : Nat) (q8 : Nat) (q9 : Nat) (q14 : Nat) (q15 : Nat) (q17 : Nat) (q18 : Nat) (q19 : Nat) (q23 : Nat) (q24 : Nat) (q25 : Nat) (ro : Nat) (co : Nat) (sl : Int32) (sn : Nat) (ts : Int32) (ra : Int32) (rr : Int32) (rw : Int32) (rn : Int32) (um : Int32) (bs : Int32) (bh : Int32) (km : Int32) (th : Nat → Int32) (mo : Nat → Int32) (kx : Nat → Nat) (kw : Nat → Nat) (ke : Nat → Nat) (ce : Nat → Int32) (se : Nat → Int32) (cth : Nat → Int32) (cow : Nat → Int32) (p0 : Int32) (hrc : ro * co ≤ 48) (hco : co ≤ 6) (hro : ro ≤ 8) (hrel : rel (ro * co) th mo cth cow) (hsn : sn ≤ 6) (hk : ∀ i, i < sn → kx i < co ∧ kw i ≤ 20 ∧ ke i ≤ 99) (hR : ∀ (r : Int32) (u : (Nat → Int32) × (Nat → Int32)), ((fLies cth co ro kx kw ke sn p0 = r) ∧ (True)) → RetI X cX9_lies 5 0 0 r [(q0, .inr (9, [.int (nI ro), .int (nI co), .int sl, .ref q3, .ref q4, .int (nI sn), .ref q6, .ref q7, .ref q8, .ref q9, .int ts, .int ra, .int rr, .int rw, .ref q14, .ref q15, .int rn, .ref q17, .ref q18, .ref q19, .int um, .int bs, .int bh, .ref q23, .ref q24, .ref q25, .int km])), (q3, .inl (cI, 48, .inl th)), (q4, .inl (cI, 48, .inl mo)), (q6, .inl (cI, 6, .inl (nA kx))), (q7, .inl (cI, 6, .inl (nA kw))), (q8, .inl (cI, 6, .inl (nA ke))), (q17, .inl (cI, 8, .inl u.1)), (q18, .inl (cI, 8, .inl u.2))]) : J X 5 0 0 0 [(0, .ref q0), (1, .int p0)] [] [(q0, .inr (9, [.int (nI ro), .int (nI co), .int sl, .ref q3, .ref q4, .int (nI sn), .ref q6, .ref q7, .ref q8, .ref q9, .int ts, .int ra, .int rr, .int rw, .ref q14, .ref q15, .int rn, .ref q17, .ref q18, .ref q19, .int um, .int bs, .int bh, .ref q23, .ref q24, .ref q25, .int km])), (q3, .inl (cI, 48, .inl th)), (q4, .inl (cI, 48, .inl mo)), (q6, .inl (cI, 6, .inl (nA kx))), (q7, .inl (cI, 6, .inl (nA kw))), (q8, .inl (cI, 6, .inl (nA ke))), (q17, .inl (cI, 8, .inl ce)), (q18, .inl (cI, 8, .inl se))] := by
  refine J_aload_n h (i := 0) dX9_lies_0 rfl 0 rfl ?_
  refine J_iload_n h (i := 1) dX9_lies_1 rfl 1 rfl ?_
  refine K_vi h (wr := [(q3, .inl (cI, 48, .inl th)), (q4, .inl (cI, 48, .inl mo)), (q6, .inl (cI, 6, .inl (nA kx))), (q7, .inl (cI, 6, .inl (nA kw))), (q8, .inl (cI, 6, .inl (nA ke))), (q17, .inl (cI, 8, .inl ce)), (q18, .inl (cI, 8, .inl se))]) (c_X9_isCell (xl X) (xD X) cI cE q0 q3 q4 q6 q7 q8 q9 q14 q15 q17 q18 q19 q23 q24 q25 ro co sl (nI sn) ts ra rr rw rn um bs bh km p0 (by first | exact hrc |  assumption | omega | rfl)) yv_X9_isCell nm_X9_131 (by decide) (by decide) rfl rfl 0 rfl rfl rfl rfl (Nat.le_of_ble_eq_true rfl) (Nat.le_refl _) (Nat.le_refl _) dX9_lies_2 (fun r_2 u_2 p_2 => ?_)
  rcases p_2 with p_2 | p_2
  · obtain ⟨j_2, rfl, f0_2, rfl, -⟩ := p_2
    show J X 5 0 0 5 [(0, .ref q0), (1, .int (nI j_2))] [.int (nI 1)] [(q0, .inr (9, [.int (nI ro), .int (nI co), .int sl, .ref q3, .ref q4, .int (nI sn), .ref q6, .ref q7, .ref q8, .ref q9, .int ts, .int ra, .int rr, .int rw, .ref q14, .ref q15, .int rn, .ref q17, .ref q18, .ref q19, .int um, .int bs, .int bh, .ref q23, .ref q24, .ref q25, .int km])), (q3, .inl (cI, 48, .inl th)), (q4, .inl (cI, 48, .inl mo)), (q6, .inl (cI, 6, .inl (nA kx))), (q7, .inl (cI, 6, .inl (nA kw))), (q8, .inl (cI, 6, .inl (nA ke))), (q17, .inl (cI, 8, .inl ce)), (q18, .inl (cI, 8, .inl se))]
    refine J_if_ne h 10 dX9_lies_5 (by decide) (fun _ => ?_) (fun z => absurd z (by decide))
    refine J_aload_n h (i := 0) dX9_lies_10 rfl 0 rfl ?_
    refine J_get h inX9 rfl 0 3 (by decide) rfl rfl nf_X9_7 dX9_lies_11 ?_
    refine J_iload_n h (i := 1) dX9_lies_14 rfl 1 rfl ?_
    refine N_iald h 1 rfl (by decide) (by omega) dX9_lies_15 ?_
    refine J_istore_n h (i := 2) (lv' := [(2, .int (th j_2)), (0, .ref q0), (1, .int (nI j_2))]) dX9_lies_16 rfl (by decide) rfl ?_
    refine J_iconst h (v := nI 0) dX9_lies_17 (by decide) ?_
    refine J_istore_n h (i := 3) (lv' := [(3, .int (nI 0)), (2, .int (th j_2)), (0, .ref q0), (1, .int (nI j_2))]) dX9_lies_18 rfl (by decide) rfl ?_
    refine J_iconst h (v := nI 0) dX9_lies_19 (by decide) ?_
    refine J_istore h (lv' := [(4, .int (nI 0)), (3, .int (nI 0)), (2, .int (th j_2)), (0, .ref q0), (1, .int (nI j_2))]) dX9_lies_20 (by decide) rfl ?_
    refine J.loc [3, 4, 2, 1, 0] (lv' := [(0, .ref q0), (1, .int (nI j_2)), (2, .int (th j_2)), (3, .int (nI 0)), (4, .int (nI 0))]) rfl ?_
    exact w_X9_lies_22 X h q0 q3 q4 q6 q7 q8 q9 q14 q15 q17 q18 q19 q23 q24 q25 ro co sl sn ts ra rr rw rn um bs bh km th mo kx kw ke ce se cth cow (nI j_2) hrc hco hro hrel hsn hk hR  (4 - 0 + 1) 0 (nI 0) th j_2 ce se (by first | assumption | omega | rfl) (by rfl) (by exact fun _ _ => rfl) (by first | assumption | omega | rfl) (by rfl) (by omega)
  · obtain ⟨rfl, f0_2, -⟩ := p_2
    show J X 5 0 0 5 [(0, .ref q0), (1, .int p0)] [.int (nI 0)] [(q0, .inr (9, [.int (nI ro), .int (nI co), .int sl, .ref q3, .ref q4, .int (nI sn), .ref q6, .ref q7, .ref q8, .ref q9, .int ts, .int ra, .int rr, .int rw, .ref q14, .ref q15, .int rn, .ref q17, .ref q18, .ref q19, .int um, .int bs, .int bh, .ref q23, .ref q24, .ref q25, .int km])), (q3, .inl (cI, 48, .inl th)), (q4, .inl (cI, 48, .inl mo)), (q6, .inl (cI, 6, .inl (nA kx))), (q7, .inl (cI, 6, .inl (nA kw))), (q8, .inl (cI, 6, .inl (nA ke))), (q17, .inl (cI, 8, .inl ce)), (q18, .inl (cI, 8, .inl se))]
    refine J_if_ne h 10 dX9_lies_5 (by decide) (fun z => absurd z (by decide)) (fun _ => ?_)
    refine J_iconst h (v := (-1)) dX9_lies_8 (by decide) ?_
    exact hR ((-1)) (ce, se) (⟨(by (try dsimp only); unfold fLies; rw [if_neg (by omega)]), trivial⟩) 9 _ dX9_lies_9
theorem c_X9_lies (l : Launch) (D : va_G) (cI cE : ClassId) (q0 : Nat) (q3 : Nat) (q4 : Nat) (q6 : Nat) (q7 : Nat) (q8 : Nat) (q9 : Nat) (q14 : Nat) (q15 : Nat) (q17 : Nat) (q18 : Nat) (q19 : Nat) (q23 : Nat) (q24 : Nat) (q25 : Nat) (ro : Nat) (co : Nat) (sl : Int32) (sn : Nat) (ts : Int32) (ra : Int32) (rr : Int32) (rw : Int32) (rn : Int32) (um : Int32) (bs : Int32) (bh : Int32) (km : Int32) (th : Nat → Int32) (mo : Nat → Int32) (kx : Nat → Nat) (kw : Nat → Nat) (ke : Nat → Nat) (ce : Nat → Int32) (se : Nat → Int32) (cth : Nat → Int32) (cow : Nat → Int32) (p0 : Int32) (hrc : ro * co ≤ 48) (hco : co ≤ 6) (hro : ro ≤ 8) (hrel : rel (ro * co) th mo cth cow) (hsn : sn ≤ 6) (hk : ∀ i, i < sn → kx i < co ∧ kw i ≤ 20 ∧ ke i ≤ 99) : Ci l D cI cE yX9_lies cX9_lies 5 (some .int) 4 0 0 [.ref q0, .int p0] [(q0, .inr (9, [.int (nI ro), .int (nI co), .int sl, .ref q3, .ref q4, .int (nI sn), .ref q6, .ref q7, .ref q8, .ref q9, .int ts, .int ra, .int rr, .int rw, .ref q14, .ref q15, .int rn, .ref q17, .ref q18, .ref q19, .int um, .int bs, .int bh, .ref q23, .ref q24, .ref q25, .int km])), (q3, .inl (cI, 48, .inl th)), (q4, .inl (cI, 48, .inl mo)), (q6, .inl (cI, 6, .inl (nA kx))), (q7, .inl (cI, 6, .inl (nA kw))), (q8, .inl (cI, 6, .inl (nA ke))), (q17, .inl (cI, 8, .inl ce)), (q18, .inl (cI, 8, .inl se))] (fun (r : Int32) (u : (Nat → Int32) × (Nat → Int32)) => ((fLies cth co ro kx kw ke sn p0 = r) ∧ (True))) (fun (u : (Nat → Int32) × (Nat → Int32)) => ([(q0, .inr (9, [.int (nI ro), .int (nI co), .int sl, .ref q3, .ref q4, .int (nI sn), .ref q6, .ref q7, .ref q8, .ref q9, .int ts, .int ra, .int rr, .int rw, .ref q14, .ref q15, .int rn, .ref q17, .ref q18, .ref q19, .int um, .int bs, .int bh, .ref q23, .ref q24, .ref q25, .int km])), (q3, .inl (cI, 48, .inl th)), (q4, .inl (cI, 48, .inl mo)), (q6, .inl (cI, 6, .inl (nA kx))), (q7, .inl (cI, 6, .inl (nA kw))), (q8, .inl (cI, 6, .inl (nA ke))), (q17, .inl (cI, 8, .inl u.1)), (q18, .inl (cI, 8, .inl u.2))] : va_W)) :=
  Ci.of (by decide) (Nat.le_of_ble_eq_true rfl) (fun _ _ _ => rfl) (fun X h hR => w_X9_lies X h q0 q3 q4 q6 q7 q8 q9 q14 q15 q17 q18 q19 q23 q24 q25 ro co sl sn ts ra rr rw rn um bs bh km th mo kx kw ke ce se cth cow p0 hrc hco hro hrel hsn hk hR)
theorem yv_X9_lies : YV yX9_lies cX9_lies 5 (some .int) 1 := ⟨no_X9_lies, nv_X9_lies, ni_X9, nk_X9_lies, by decide +kernel⟩
set_option maxRecDepth 100000 in
set_option maxHeartbeats 4000000 in
theorem w_X9_cure_60 (X : Cx) {cI cE : ClassId} (h : Ok X cX9_cure RX9 9 cI cE 3 0 0) (q0 : Nat) (q3 : Nat) (q4 : Nat) (q6 : Nat) (q7 : Nat) (q8 : Nat) (q9 : Nat) (q14 : Nat) (q15 : Nat) (q17 : Nat) (q18 : Nat) (q19 : Nat) (q23 : Nat) (q24 : Nat) (q25 : Nat) (ro : Nat) (co : Nat) (sl : Int32) (sn : Int32) (ts : Int32) (ra : Int32) (rr : Int32) (rw : Int32) (rn : Int32) (um : Int32) (bs : Int32) (bh : Int32) (km : Int32) (th : Nat → Int32) (mo : Nat → Int32) (ce : Nat → Int32) (se : Nat → Int32) (cth : Nat → Int32) (cow : Nat → Int32) (p0 : Int32) (p1 : Int32) (p2 : Int32) (p3 : Int32) (hrc : ro * co ≤ 48) (hco : co ≤ 6) (hro : ro ≤ 8) (hrel : rel (ro * co) th mo cth cow) (hR : ∀ (r : Int32) (u : (Nat → Int32) × (Nat → Int32)), ((fCure cth co ro p0 p1 p2 p3 = r) ∧ (True)) → RetI X cX9_cure 9 0 0 r [(q0, .inr (9, [.int (nI ro), .int (nI co), .int sl, .ref q3, .ref q4, .int sn, .ref q6, .ref q7, .ref q8, .ref q9, .int ts, .int ra, .int rr, .int rw, .ref q14, .ref q15, .int rn, .ref q17, .ref q18, .ref q19, .int um, .int bs, .int bh, .ref q23, .ref q24, .ref q25, .int km])), (q3, .inl (cI, 48, .inl th)), (q4, .inl (cI, 48, .inl mo)), (q17, .inl (cI, 8, .inl u.1)), (q18, .inl (cI, 8, .inl u.2))]) (n_39 : Nat) (ih_39 : ∀ (a : Nat) (jx : Nat) (jw : Nat) (jh : Nat) (jc : Nat) (ce1 : Nat → Int32) (se1 : Nat → Int32), (a ≤ ro * co) → (jx < co) → (jw ≤ 20) → (jh ≤ 18) → (jc < ro * co) → (vRide co (nI jx) (nI jw) (nI jh)) → (ren cth co ro jh jx jw ≠ jc) → (∀ b, b < a → EqN (cuK cth co ro jh jx jw jc b) 4) → (p0 = nI jx) → (p1 = nI jw) → (p2 = nI jh) → (p3 = nI jc) → ro * co - a < n_39 → J X 9 0 0 39 [(0, .ref q0), (1, .int (nI jx)), (2, .int (nI jw)), (3, .int (nI jh)), (4, .int (nI jc)), (5, .int (nI a))] [] [(q0, .inr (9, [.int (nI ro), .int (nI co), .int sl, .ref q3, .ref q4, .int sn, .ref q6, .ref q7, .ref q8, .ref q9, .int ts, .int ra, .int rr, .int rw, .ref q14, .ref q15, .int rn, .ref q17, .ref q18, .ref q19, .int um, .int bs, .int bh, .ref q23, .ref q24, .ref q25, .int km])), (q3, .inl (cI, 48, .inl th)), (q4, .inl (cI, 48, .inl mo)), (q17, .inl (cI, 8, .inl ce1)), (q18, .inl (cI, 8, .inl se1))]) : ∀ (n_60 : Nat) (a : Nat) (k : Nat) (jx : Nat) (jw : Nat) (jh : Nat) (jc : Nat) (ce1 : Nat → Int32) (se1 : Nat → Int32), (a < ro * co) → (jx < co) → (jw ≤ 20) → (jh ≤ 18) → (jc < ro * co) → (vRide co (nI jx) (nI jw) (nI jh)) → (ren cth co ro jh jx jw ≠ jc) → (∀ b, b < a → EqN (cuK cth co ro jh jx jw jc b) 4) → (p0 = nI jx) → (p1 = nI jw) → (p2 = nI jh) → (p3 = nI jc) → (k ≤ 4) → (∀ j, j < k → cuP cth co ro jh jx jw jc a j = false) → (ro * co - a < n_39 + 1) → 4 - k < n_60 → J X 9 0 0 60 [(0, .ref q0), (1, .int (nI jx)), (2, .int (nI jw)), (3, .int (nI jh)), (4, .int (nI jc)), (5, .int (nI a)), (6, .int (th a)), (7, .int (nI k))] [] [(q0, .inr (9, [.int (nI ro), .int (nI co), .int sl, .ref q3, .ref q4, .int sn, .ref q6, .ref q7, .ref q8, .ref q9, .int ts, .int ra, .int rr, .int rw, .ref q14, .ref q15, .int rn, .ref q17, .ref q18, .ref q19, .int um, .int bs, .int bh, .ref q23, .ref q24, .ref q25, .int km])), (q3, .inl (cI, 48, .inl th)), (q4, .inl (cI, 48, .inl mo)), (q17, .inl (cI, 8, .inl ce1)), (q18, .inl (cI, 8, .inl se1))] := by
  intro n_60
  induction n_60 with
  | zero => intro a k jx jw jh jc ce1 se1 ha hjx hjw hjh hjc hv hnr hno e0 e1 e2 e3 hk hcu hm hn_; exact absurd hn_ (Nat.not_lt_zero _)
  | succ n_60 ih_60 =>
    intro a k jx jw jh jc ce1 se1 ha hjx hjw hjh hjc hv hnr hno e0 e1 e2 e3 hk hcu hm hn_60
    have hje := rel_th hrel ha
    have hti := tiI (j := k) (by omega)
    refine J_iload h dX9_cure_60 7 rfl ?_
    refine J_iconst h (v := nI 3) dX9_cure_62 (by decide) ?_
    refine N_icmp_gt h 130 dX9_cure_63 (by decide) (by omega) (by omega) (fun c_63 => ?_) (fun c_63 => ?_)
    · skip
      refine J_iinc h (v := nI (a + 1)) (lv' := [(5, .int (nI (a + 1))), (0, .ref q0), (1, .int (nI jx)), (2, .int (nI jw)), (3, .int (nI jh)), (4, .int (nI jc)), (6, .int (th a)), (7, .int (nI k))]) dX9_cure_130 5 rfl (inc_ok _ 1) (by decide) rfl ?_
      refine J_goto h 39 dX9_cure_133 (by decide) ?_
      refine J.loc [1, 2, 3, 4, 5, 0] (lv' := [(0, .ref q0), (1, .int (nI jx)), (2, .int (nI jw)), (3, .int (nI jh)), (4, .int (nI jc)), (5, .int (nI (a + 1)))]) rfl ?_
      exact ih_39 (a + 1) jx jw jh jc ce1 se1 (by first | exact ha |  assumption | omega | rfl) (by first | exact hjx |  assumption | omega | rfl) (by first | exact hjw |  assumption | omega | rfl) (by first | exact hjh |  assumption | omega | rfl) (by first | exact hjc |  assumption | omega | rfl) (by first | exact hv |  assumption | omega | rfl) (by first | exact hnr |  assumption | omega | rfl) (by exact lt_s hno (.mk (fstP_none (fun j hj => hcu j (by omega))))) (by first | exact e0 |  assumption | omega | rfl) (by first | exact e1 |  assumption | omega | rfl) (by first | exact e2 |  assumption | omega | rfl) (by first | exact e3 |  assumption | omega | rfl) (by omega)
    · skip
      refine J_aload_n h (i := 0) dX9_cure_66 rfl 0 rfl ?_
      refine J_get h inX9 rfl 0 3 (by decide) rfl rfl nf_X9_7 dX9_cure_67 ?_
      refine J_iload h dX9_cure_70 5 rfl ?_
      refine J_iload h dX9_cure_72 7 rfl ?_
      refine N_iast h (ws' := [(q0, .inr (9, [.int (nI ro), .int (nI co), .int sl, .ref q3, .ref q4, .int sn, .ref q6, .ref q7, .ref q8, .ref q9, .int ts, .int ra, .int rr, .int rw, .ref q14, .ref q15, .int rn, .ref q17, .ref q18, .ref q19, .int um, .int bs, .int bh, .ref q23, .ref q24, .ref q25, .int km])), (q3, .inl (cI, 48, .inl (upd th a (nI k)))), (q4, .inl (cI, 48, .inl mo)), (q17, .inl (cI, 8, .inl ce1)), (q18, .inl (cI, 8, .inl se1))]) 1 rfl (by decide) (by omega) dX9_cure_74 rfl ?_
      refine J_iload h dX9_cure_75 7 rfl ?_
      refine J_iload h dX9_cure_77 6 rfl ?_
      refine J_icmp_eq h 98 dX9_cure_79 (by decide) (fun c_79 => ?_) (fun c_79 => ?_)
      · skip
        refine J_iconst h (v := nI 0) dX9_cure_98 (by decide) ?_
        refine J_istore h (lv' := [(8, .int (nI 0)), (0, .ref q0), (1, .int (nI jx)), (2, .int (nI jw)), (3, .int (nI jh)), (4, .int (nI jc)), (5, .int (nI a)), (6, .int (th a)), (7, .int (nI k))]) dX9_cure_99 (by decide) rfl ?_
        refine J_aload_n h (i := 0) dX9_cure_101 rfl 1 rfl ?_
        refine J_get h inX9 rfl 0 3 (by decide) rfl rfl nf_X9_7 dX9_cure_102 ?_
        refine J_iload h dX9_cure_105 6 rfl ?_
        refine J_iload h dX9_cure_107 7 rfl ?_
        refine N_iast h (ws' := [(q0, .inr (9, [.int (nI ro), .int (nI co), .int sl, .ref q3, .ref q4, .int sn, .ref q6, .ref q7, .ref q8, .ref q9, .int ts, .int ra, .int rr, .int rw, .ref q14, .ref q15, .int rn, .ref q17, .ref q18, .ref q19, .int um, .int bs, .int bh, .ref q23, .ref q24, .ref q25, .int km])), (q3, .inl (cI, 48, .inl (upd (upd th a (nI k)) a (th a)))), (q4, .inl (cI, 48, .inl mo)), (q17, .inl (cI, 8, .inl ce1)), (q18, .inl (cI, 8, .inl se1))]) 1 rfl (by decide) (by omega) dX9_cure_109 rfl ?_
        refine J_eqw (ws' := [(q0, .inr (9, [.int (nI ro), .int (nI co), .int sl, .ref q3, .ref q4, .int sn, .ref q6, .ref q7, .ref q8, .ref q9, .int ts, .int ra, .int rr, .int rw, .ref q14, .ref q15, .int rn, .ref q17, .ref q18, .ref q19, .int um, .int bs, .int bh, .ref q23, .ref q24, .ref q25, .int km])), (q3, .inl (cI, 48, .inl th)), (q4, .inl (cI, 48, .inl mo)), (q17, .inl (cI, 8, .inl ce1)), (q18, .inl (cI, 8, .inl se1))]) (by rw [upd_back (fun j hj => upd_ne _ _ hj)]) ?_
        refine J_iload h dX9_cure_110 0 rfl ?_
        refine J_if_eq h 124 dX9_cure_112 (by decide) (fun _ => ?_) (fun z => absurd z (by decide))
        refine J_iinc h (v := nI (k + 1)) (lv' := [(7, .int (nI (k + 1))), (8, .int (nI 0)), (0, .ref q0), (1, .int (nI jx)), (2, .int (nI jw)), (3, .int (nI jh)), (4, .int (nI jc)), (5, .int (nI a)), (6, .int (th a))]) dX9_cure_124 8 rfl (inc_ok _ 1) (by decide) rfl ?_
        refine J_goto h 60 dX9_cure_127 (by decide) ?_
        refine J.loc [2, 3, 4, 5, 6, 7, 8, 0] (lv' := [(0, .ref q0), (1, .int (nI jx)), (2, .int (nI jw)), (3, .int (nI jh)), (4, .int (nI jc)), (5, .int (nI a)), (6, .int (th a)), (7, .int (nI (k + 1)))]) rfl ?_
        exact ih_60 a (k + 1) jx jw jh jc ce1 se1 (by first | exact ha |  assumption | omega | rfl) (by first | exact hjx |  assumption | omega | rfl) (by first | exact hjw |  assumption | omega | rfl) (by first | exact hjh |  assumption | omega | rfl) (by first | exact hjc |  assumption | omega | rfl) (by first | exact hv |  assumption | omega | rfl) (by first | exact hnr |  assumption | omega | rfl) (by first | exact hno |  assumption | omega | rfl) (by first | exact e0 |  assumption | omega | rfl) (by first | exact e1 |  assumption | omega | rfl) (by first | exact e2 |  assumption | omega | rfl) (by first | exact e3 |  assumption | omega | rfl) (by first | exact hk |  assumption | omega | rfl) (by exact lt_s hcu (by first | exact decide_eq_false (fun q => q.1 (c_79.trans hje)) | exact decide_eq_false (fun q => c_91 q.2))) (by first | exact hm |  assumption | omega | rfl) (by omega)
      · skip
        refine J_aload_n h (i := 0) dX9_cure_82 rfl 0 rfl ?_
        refine J_iload_n h (i := 1) dX9_cure_83 rfl 1 rfl ?_
        refine J_iload_n h (i := 2) dX9_cure_84 rfl 2 rfl ?_
        refine J_iload_n h (i := 3) dX9_cure_85 rfl 3 rfl ?_
        refine J.wld [0, 1, 3, 4, 2] (ws' := [(q0, .inr (9, [.int (nI ro), .int (nI co), .int sl, .ref q3, .ref q4, .int sn, .ref q6, .ref q7, .ref q8, .ref q9, .int ts, .int ra, .int rr, .int rw, .ref q14, .ref q15, .int rn, .ref q17, .ref q18, .ref q19, .int um, .int bs, .int bh, .ref q23, .ref q24, .ref q25, .int km])), (q3, .inl (cI, 48, .inl (upd th a (nI k)))), (q17, .inl (cI, 8, .inl ce1)), (q18, .inl (cI, 8, .inl se1)), (q4, .inl (cI, 48, .inl mo))]) rfl rfl ?_
        refine K_vi h (wr := [(q4, .inl (cI, 48, .inl mo))]) (c_X9_goes (xl X) (xD X) cI cE q0 q3 q4 q6 q7 q8 q9 q14 q15 q17 q18 q19 q23 q24 q25 ro co sl sn ts ra rr rw rn um bs bh km (upd th a (nI k)) ce1 se1 (upd cth a (nI k)) jx jw jh (by first | exact hrc |  assumption | omega | rfl) (by first | exact hco |  assumption | omega | rfl) (by first | exact hro |  assumption | omega | rfl) (by first | assumption | omega | rfl) (by first | assumption | omega | rfl) (by first | assumption | omega | rfl) (by exact rel_T (rel_updT hrel a (by omega) (by omega)))) yv_X9_goes nm_X9_137 (by decide) (by decide) rfl rfl 0 rfl rfl rfl rfl (Nat.le_of_ble_eq_true rfl) (Nat.le_refl _) (Nat.le_refl _) dX9_cure_86 (fun r_86 u_86 p_86 => ?_)
        obtain ⟨ce2_86, se2_86⟩ := u_86
        try dsimp only at p_86
        obtain ⟨rfl, f0_86, f1_86, f2_86, f3_86, -⟩ := p_86
        show J X 9 0 0 89 [(0, .ref q0), (1, .int (nI jx)), (2, .int (nI jw)), (3, .int (nI jh)), (4, .int (nI jc)), (5, .int (nI a)), (6, .int (th a)), (7, .int (nI k))] [.int (nI (ren (upd cth a (nI k)) co ro jh jx jw))] [(q0, .inr (9, [.int (nI ro), .int (nI co), .int sl, .ref q3, .ref q4, .int sn, .ref q6, .ref q7, .ref q8, .ref q9, .int ts, .int ra, .int rr, .int rw, .ref q14, .ref q15, .int rn, .ref q17, .ref q18, .ref q19, .int um, .int bs, .int bh, .ref q23, .ref q24, .ref q25, .int km])), (q3, .inl (cI, 48, .inl ((upd th a (nI k))))), (q17, .inl (cI, 8, .inl ce2_86)), (q18, .inl (cI, 8, .inl se2_86)), (q4, .inl (cI, 48, .inl mo))]
        have hrn := ren_lt (upd cth a (nI k)) (ro := ro) (hh := jh) hrc hjx hjw
        refine J_iload h dX9_cure_89 4 rfl ?_
        refine N_icmp_ne h 98 dX9_cure_91 (by decide) (by omega) (by omega) (fun c_91 => ?_) (fun c_91 => ?_)
        · skip
          refine J_iconst h (v := nI 0) dX9_cure_98 (by decide) ?_
          refine J_istore h (lv' := [(8, .int (nI 0)), (0, .ref q0), (1, .int (nI jx)), (2, .int (nI jw)), (3, .int (nI jh)), (4, .int (nI jc)), (5, .int (nI a)), (6, .int (th a)), (7, .int (nI k))]) dX9_cure_99 (by decide) rfl ?_
          refine J_aload_n h (i := 0) dX9_cure_101 rfl 1 rfl ?_
          refine J_get h inX9 rfl 0 3 (by decide) rfl rfl nf_X9_7 dX9_cure_102 ?_
          refine J_iload h dX9_cure_105 6 rfl ?_
          refine J_iload h dX9_cure_107 7 rfl ?_
          refine N_iast h (ws' := [(q0, .inr (9, [.int (nI ro), .int (nI co), .int sl, .ref q3, .ref q4, .int sn, .ref q6, .ref q7, .ref q8, .ref q9, .int ts, .int ra, .int rr, .int rw, .ref q14, .ref q15, .int rn, .ref q17, .ref q18, .ref q19, .int um, .int bs, .int bh, .ref q23, .ref q24, .ref q25, .int km])), (q3, .inl (cI, 48, .inl (upd ((upd th a (nI k))) a (th a)))), (q17, .inl (cI, 8, .inl ce2_86)), (q18, .inl (cI, 8, .inl se2_86)), (q4, .inl (cI, 48, .inl mo))]) 1 rfl (by decide) (by omega) dX9_cure_109 rfl ?_
          refine J_eqw (ws' := [(q0, .inr (9, [.int (nI ro), .int (nI co), .int sl, .ref q3, .ref q4, .int sn, .ref q6, .ref q7, .ref q8, .ref q9, .int ts, .int ra, .int rr, .int rw, .ref q14, .ref q15, .int rn, .ref q17, .ref q18, .ref q19, .int um, .int bs, .int bh, .ref q23, .ref q24, .ref q25, .int km])), (q3, .inl (cI, 48, .inl th)), (q17, .inl (cI, 8, .inl ce2_86)), (q18, .inl (cI, 8, .inl se2_86)), (q4, .inl (cI, 48, .inl mo))]) (by rw [upd_back (fun j hj => upd_ne _ _ hj)]) ?_
          refine J_iload h dX9_cure_110 0 rfl ?_
          refine J_if_eq h 124 dX9_cure_112 (by decide) (fun _ => ?_) (fun z => absurd z (by decide))
          refine J_iinc h (v := nI (k + 1)) (lv' := [(7, .int (nI (k + 1))), (8, .int (nI 0)), (0, .ref q0), (1, .int (nI jx)), (2, .int (nI jw)), (3, .int (nI jh)), (4, .int (nI jc)), (5, .int (nI a)), (6, .int (th a))]) dX9_cure_124 8 rfl (inc_ok _ 1) (by decide) rfl ?_
          refine J_goto h 60 dX9_cure_127 (by decide) ?_
          refine J.wld [0, 1, 4, 2, 3] (ws' := [(q0, .inr (9, [.int (nI ro), .int (nI co), .int sl, .ref q3, .ref q4, .int sn, .ref q6, .ref q7, .ref q8, .ref q9, .int ts, .int ra, .int rr, .int rw, .ref q14, .ref q15, .int rn, .ref q17, .ref q18, .ref q19, .int um, .int bs, .int bh, .ref q23, .ref q24, .ref q25, .int km])), (q3, .inl (cI, 48, .inl th)), (q4, .inl (cI, 48, .inl mo)), (q17, .inl (cI, 8, .inl ce2_86)), (q18, .inl (cI, 8, .inl se2_86))]) rfl rfl ?_
          refine J.loc [2, 3, 4, 5, 6, 7, 8, 0] (lv' := [(0, .ref q0), (1, .int (nI jx)), (2, .int (nI jw)), (3, .int (nI jh)), (4, .int (nI jc)), (5, .int (nI a)), (6, .int (th a)), (7, .int (nI (k + 1)))]) rfl ?_
          exact ih_60 a (k + 1) jx jw jh jc ce2_86 se2_86 (by first | exact ha |  assumption | omega | rfl) (by first | exact hjx |  assumption | omega | rfl) (by first | exact hjw |  assumption | omega | rfl) (by first | exact hjh |  assumption | omega | rfl) (by first | exact hjc |  assumption | omega | rfl) (by first | exact hv |  assumption | omega | rfl) (by first | exact hnr |  assumption | omega | rfl) (by first | exact hno |  assumption | omega | rfl) (by first | exact e0 |  assumption | omega | rfl) (by first | exact e1 |  assumption | omega | rfl) (by first | exact e2 |  assumption | omega | rfl) (by first | exact e3 |  assumption | omega | rfl) (by first | exact hk |  assumption | omega | rfl) (by exact lt_s hcu (by first | exact decide_eq_false (fun q => q.1 (c_79.trans hje)) | exact decide_eq_false (fun q => c_91 q.2))) (by first | exact hm |  assumption | omega | rfl) (by omega)
        · skip
          refine J_iconst h (v := nI 1) dX9_cure_94 (by decide) ?_
          refine J_goto h 99 dX9_cure_95 (by decide) ?_
          refine J_istore h (lv' := [(8, .int (nI 1)), (0, .ref q0), (1, .int (nI jx)), (2, .int (nI jw)), (3, .int (nI jh)), (4, .int (nI jc)), (5, .int (nI a)), (6, .int (th a)), (7, .int (nI k))]) dX9_cure_99 (by decide) rfl ?_
          refine J_aload_n h (i := 0) dX9_cure_101 rfl 1 rfl ?_
          refine J_get h inX9 rfl 0 3 (by decide) rfl rfl nf_X9_7 dX9_cure_102 ?_
          refine J_iload h dX9_cure_105 6 rfl ?_
          refine J_iload h dX9_cure_107 7 rfl ?_
          refine N_iast h (ws' := [(q0, .inr (9, [.int (nI ro), .int (nI co), .int sl, .ref q3, .ref q4, .int sn, .ref q6, .ref q7, .ref q8, .ref q9, .int ts, .int ra, .int rr, .int rw, .ref q14, .ref q15, .int rn, .ref q17, .ref q18, .ref q19, .int um, .int bs, .int bh, .ref q23, .ref q24, .ref q25, .int km])), (q3, .inl (cI, 48, .inl (upd ((upd th a (nI k))) a (th a)))), (q17, .inl (cI, 8, .inl ce2_86)), (q18, .inl (cI, 8, .inl se2_86)), (q4, .inl (cI, 48, .inl mo))]) 1 rfl (by decide) (by omega) dX9_cure_109 rfl ?_
          refine J_eqw (ws' := [(q0, .inr (9, [.int (nI ro), .int (nI co), .int sl, .ref q3, .ref q4, .int sn, .ref q6, .ref q7, .ref q8, .ref q9, .int ts, .int ra, .int rr, .int rw, .ref q14, .ref q15, .int rn, .ref q17, .ref q18, .ref q19, .int um, .int bs, .int bh, .ref q23, .ref q24, .ref q25, .int km])), (q3, .inl (cI, 48, .inl th)), (q17, .inl (cI, 8, .inl ce2_86)), (q18, .inl (cI, 8, .inl se2_86)), (q4, .inl (cI, 48, .inl mo))]) (by rw [upd_back (fun j hj => upd_ne _ _ hj)]) ?_
          refine J_iload h dX9_cure_110 0 rfl ?_
          refine J_if_eq h 124 dX9_cure_112 (by decide) (fun z => absurd z (by decide)) (fun _ => ?_)
          refine J_bipush h (v := nI 10) dX9_cure_115 (by decide) ?_
          refine J_iload h dX9_cure_117 6 rfl ?_
          refine N_imul h dX9_cure_119 ?_
          refine J_iload h dX9_cure_120 8 rfl ?_
          refine N_iadd h dX9_cure_122 ?_
          refine J.wld [0, 1, 4, 2, 3] (ws' := [(q0, .inr (9, [.int (nI ro), .int (nI co), .int sl, .ref q3, .ref q4, .int sn, .ref q6, .ref q7, .ref q8, .ref q9, .int ts, .int ra, .int rr, .int rw, .ref q14, .ref q15, .int rn, .ref q17, .ref q18, .ref q19, .int um, .int bs, .int bh, .ref q23, .ref q24, .ref q25, .int km])), (q3, .inl (cI, 48, .inl th)), (q4, .inl (cI, 48, .inl mo)), (q17, .inl (cI, 8, .inl ce2_86)), (q18, .inl (cI, 8, .inl se2_86))]) rfl rfl ?_
          exact hR (nI ((10 * a) + k)) (ce2_86, se2_86) (⟨(by (try dsimp only); rw [e0, e1, e2, e3]; exact fcu_yes hv hrc hjx hjw hjh hjc hnr hno (.mk (fstP_eq hcu (decide_eq_true ⟨fun q => c_79 (q.trans hje.symm), c_91⟩) (by omega))) (by omega) ha), trivial⟩) 123 _ dX9_cure_123
set_option maxRecDepth 100000 in
set_option maxHeartbeats 4000000 in
theorem w_X9_cure_39 (X : Cx) {cI cE : ClassId} (h : Ok X cX9_cure RX9 9 cI cE 3 0 0) (q0 : Nat) (q3 : Nat) (q4 : Nat) (q6 : Nat) (q7 : Nat) (q8 : Nat) (q9 : Nat) (q14 : Nat) (q15 : Nat) (q17 : Nat) (q18 : Nat) (q19 : Nat) (q23 : Nat) (q24 : Nat) (q25 : Nat) (ro : Nat) (co : Nat) (sl : Int32) (sn : Int32) (ts : Int32) (ra : Int32) (rr : Int32) (rw : Int32) (rn : Int32) (um : Int32) (bs : Int32) (bh : Int32) (km : Int32) (th : Nat → Int32) (mo : Nat → Int32) (ce : Nat → Int32) (se : Nat → Int32) (cth : Nat → Int32) (cow : Nat → Int32) (p0 : Int32) (p1 : Int32) (p2 : Int32) (p3 : Int32) (hrc : ro * co ≤ 48) (hco : co ≤ 6) (hro : ro ≤ 8) (hrel : rel (ro * co) th mo cth cow) (hR : ∀ (r : Int32) (u : (Nat → Int32) × (Nat → Int32)), ((fCure cth co ro p0 p1 p2 p3 = r) ∧ (True)) → RetI X cX9_cure 9 0 0 r [(q0, .inr (9, [.int (nI ro), .int (nI co), .int sl, .ref q3, .ref q4, .int sn, .ref q6, .ref q7, .ref q8, .ref q9, .int ts, .int ra, .int rr, .int rw, .ref q14, .ref q15, .int rn, .ref q17, .ref q18, .ref q19, .int um, .int bs, .int bh, .ref q23, .ref q24, .ref q25, .int km])), (q3, .inl (cI, 48, .inl th)), (q4, .inl (cI, 48, .inl mo)), (q17, .inl (cI, 8, .inl u.1)), (q18, .inl (cI, 8, .inl u.2))]) : ∀ (n_39 : Nat) (a : Nat) (jx : Nat) (jw : Nat) (jh : Nat) (jc : Nat) (ce1 : Nat → Int32) (se1 : Nat → Int32), (a ≤ ro * co) → (jx < co) → (jw ≤ 20) → (jh ≤ 18) → (jc < ro * co) → (vRide co (nI jx) (nI jw) (nI jh)) → (ren cth co ro jh jx jw ≠ jc) → (∀ b, b < a → EqN (cuK cth co ro jh jx jw jc b) 4) → (p0 = nI jx) → (p1 = nI jw) → (p2 = nI jh) → (p3 = nI jc) → ro * co - a < n_39 → J X 9 0 0 39 [(0, .ref q0), (1, .int (nI jx)), (2, .int (nI jw)), (3, .int (nI jh)), (4, .int (nI jc)), (5, .int (nI a))] [] [(q0, .inr (9, [.int (nI ro), .int (nI co), .int sl, .ref q3, .ref q4, .int sn, .ref q6, .ref q7, .ref q8, .ref q9, .int ts, .int ra, .int rr, .int rw, .ref q14, .ref q15, .int rn, .ref q17, .ref q18, .ref q19, .int um, .int bs, .int bh, .ref q23, .ref q24, .ref q25, .int km])), (q3, .inl (cI, 48, .inl th)), (q4, .inl (cI, 48, .inl mo)), (q17, .inl (cI, 8, .inl ce1)), (q18, .inl (cI, 8, .inl se1))] := by
  intro n_39
  induction n_39 with
  | zero => intro a jx jw jh jc ce1 se1 ha hjx hjw hjh hjc hv hnr hno e0 e1 e2 e3 hn_; exact absurd hn_ (Nat.not_lt_zero _)
  | succ n_39 ih_39 =>
    intro a jx jw jh jc ce1 se1 ha hjx hjw hjh hjc hv hnr hno e0 e1 e2 e3 hn_39
    refine J_iload h dX9_cure_39 5 rfl ?_
    refine J_aload_n h (i := 0) dX9_cure_41 rfl 0 rfl ?_
    refine K_vi h (wr := [(q3, .inl (cI, 48, .inl th)), (q4, .inl (cI, 48, .inl mo)), (q17, .inl (cI, 8, .inl ce1)), (q18, .inl (cI, 8, .inl se1))]) (c_X9_cells (xl X) (xD X) cI cE q0 q3 q4 q6 q7 q8 q9 q14 q15 q17 q18 q19 q23 q24 q25 ro co sl sn ts ra rr rw rn um bs bh km ) yv_X9_cells nm_X9_63 (by decide) (by decide) rfl rfl 0 rfl rfl rfl rfl (Nat.le_of_ble_eq_true rfl) (Nat.le_refl _) (Nat.le_refl _) dX9_cure_42 (fun r_42 u_42 p_42 => ?_)
    obtain ⟨rfl, -⟩ := p_42
    show J X 9 0 0 45 [(0, .ref q0), (1, .int (nI jx)), (2, .int (nI jw)), (3, .int (nI jh)), (4, .int (nI jc)), (5, .int (nI a))] [.int (nI (ro * co)), .int (nI a)] [(q0, .inr (9, [.int (nI ro), .int (nI co), .int sl, .ref q3, .ref q4, .int sn, .ref q6, .ref q7, .ref q8, .ref q9, .int ts, .int ra, .int rr, .int rw, .ref q14, .ref q15, .int rn, .ref q17, .ref q18, .ref q19, .int um, .int bs, .int bh, .ref q23, .ref q24, .ref q25, .int km])), (q3, .inl (cI, 48, .inl th)), (q4, .inl (cI, 48, .inl mo)), (q17, .inl (cI, 8, .inl ce1)), (q18, .inl (cI, 8, .inl se1))]
    refine N_icmp_ge h 136 dX9_cure_45 (by decide) (by omega) (by omega) (fun c_45 => ?_) (fun c_45 => ?_)
    · skip
      refine J_bipush h (v := (-4)) dX9_cure_136 (by decide) ?_
      exact hR ((-4)) (ce1, se1) (⟨(by (try dsimp only); rw [e0, e1, e2, e3]; exact fcu_no hv hrc hjx hjw hjh hjc hnr (fun b hb => hno b (by omega))), trivial⟩) 138 _ dX9_cure_138
    · skip
      refine J_aload_n h (i := 0) dX9_cure_48 rfl 0 rfl ?_
      refine J_get h inX9 rfl 0 3 (by decide) rfl rfl nf_X9_7 dX9_cure_49 ?_
      refine J_iload h dX9_cure_52 5 rfl ?_
      refine N_iald h 1 rfl (by decide) (by omega) dX9_cure_54 ?_
      refine J_istore h (lv' := [(6, .int (th a)), (0, .ref q0), (1, .int (nI jx)), (2, .int (nI jw)), (3, .int (nI jh)), (4, .int (nI jc)), (5, .int (nI a))]) dX9_cure_55 (by decide) rfl ?_
      refine J_iconst h (v := nI 0) dX9_cure_57 (by decide) ?_
      refine J_istore h (lv' := [(7, .int (nI 0)), (6, .int (th a)), (0, .ref q0), (1, .int (nI jx)), (2, .int (nI jw)), (3, .int (nI jh)), (4, .int (nI jc)), (5, .int (nI a))]) dX9_cure_58 (by decide) rfl ?_
      refine J.loc [2, 3, 4, 5, 6, 7, 1, 0] (lv' := [(0, .ref q0), (1, .int (nI jx)), (2, .int (nI jw)), (3, .int (nI jh)), (4, .int (nI jc)), (5, .int (nI a)), (6, .int (th a)), (7, .int (nI 0))]) rfl ?_
      exact w_X9_cure_60 X h q0 q3 q4 q6 q7 q8 q9 q14 q15 q17 q18 q19 q23 q24 q25 ro co sl sn ts ra rr rw rn um bs bh km th mo ce se cth cow p0 p1 p2 p3 hrc hco hro hrel hR n_39 ih_39 (4 - 0 + 1) a 0 jx jw jh jc ce1 se1 (by first | exact ha |  assumption | omega | rfl) (by first | exact hjx |  assumption | omega | rfl) (by first | exact hjw |  assumption | omega | rfl) (by first | exact hjh |  assumption | omega | rfl) (by first | exact hjc |  assumption | omega | rfl) (by first | exact hv |  assumption | omega | rfl) (by first | exact hnr |  assumption | omega | rfl) (by first | exact hno |  assumption | omega | rfl) (by first | exact e0 |  assumption | omega | rfl) (by first | exact e1 |  assumption | omega | rfl) (by first | exact e2 |  assumption | omega | rfl) (by first | exact e3 |  assumption | omega | rfl) (by first | assumption | omega | rfl) (by intro j hj; omega) (by first | assumption | omega | rfl) (by omega)
set_option maxRecDepth 100000 in
set_option maxHeartbeats 4000000 in
theorem w_X9_cure (X : Cx) {cI cE : ClassId} (h : Ok X cX9_cure RX9 9 cI cE 3 0 0) (q0 : Nat) (q3 : Nat) (q4 : Nat) (q6 : Nat) (q7 : Nat) (q8 : Nat) (q9 : Nat) (q14 : Nat) (q15 : Nat) (q17 : Nat) (q18 : Nat) (q19 : Nat) (q23 : Nat) (q24 : Nat) (q25 : Nat) (ro : Nat) (co : Nat) (sl : Int32) (sn : Int32) (ts : Int32) (ra : Int32) (rr : Int32) (rw : Int32) (rn : Int32) (um : Int32) (bs : Int32) (bh : Int32) (km : Int32) (th : Nat → Int32) (mo : Nat → Int32) (ce : Nat → Int32) (se : Nat → Int32) (cth : Nat → Int32) (cow : Nat → Int32) (p0 : Int32) (p1 : Int32) (p2 : Int32) (p3 : Int32) (hrc : ro * co ≤ 48) (hco : co ≤ 6) (hro : ro ≤ 8) (hrel : rel (ro * co) th mo cth cow) (hR : ∀ (r : Int32) (u : (Nat → Int32) × (Nat → Int32)), ((fCure cth co ro p0 p1 p2 p3 = r) ∧ (True)) → RetI X cX9_cure 9 0 0 r [(q0, .inr (9, [.int (nI ro), .int (nI co), .int sl, .ref q3, .ref q4, .int sn, .ref q6, .ref q7, .ref q8, .ref q9, .int ts, .int ra, .int rr, .int rw, .ref q14, .ref q15, .int rn, .ref q17, .ref q18, .ref q19, .int um, .int bs, .int bh, .ref q23, .ref q24, .ref q25, .int km])), (q3, .inl (cI, 48, .inl th)), (q4, .inl (cI, 48, .inl mo)), (q17, .inl (cI, 8, .inl u.1)), (q18, .inl (cI, 8, .inl u.2))]) : J X 9 0 0 0 [(0, .ref q0), (1, .int p0), (2, .int p1), (3, .int p2), (4, .int p3)] [] [(q0, .inr (9, [.int (nI ro), .int (nI co), .int sl, .ref q3, .ref q4, .int sn, .ref q6, .ref q7, .ref q8, .ref q9, .int ts, .int ra, .int rr, .int rw, .ref q14, .ref q15, .int rn, .ref q17, .ref q18, .ref q19, .int um, .int bs, .int bh, .ref q23, .ref q24, .ref q25, .int km])), (q3, .inl (cI, 48, .inl th)), (q4, .inl (cI, 48, .inl mo)), (q17, .inl (cI, 8, .inl ce)), (q18, .inl (cI, 8, .inl se))] := by
  refine J_aload_n h (i := 0) dX9_cure_0 rfl 0 rfl ?_
  refine J_iload_n h (i := 1) dX9_cure_1 rfl 1 rfl ?_
  refine J_iload_n h (i := 2) dX9_cure_2 rfl 2 rfl ?_
  refine J_iload_n h (i := 3) dX9_cure_3 rfl 3 rfl ?_
  refine K_vi h (wr := [(q3, .inl (cI, 48, .inl th)), (q4, .inl (cI, 48, .inl mo)), (q17, .inl (cI, 8, .inl ce)), (q18, .inl (cI, 8, .inl se))]) (c_X9_isSlide (xl X) (xD X) cI cE q0 q3 q4 q6 q7 q8 q9 q14 q15 q17 q18 q19 q23 q24 q25 ro co sl sn ts ra rr rw rn um bs bh km p0 p1 p2 (by first | exact hco |  assumption | omega | rfl)) yv_X9_isSlide nm_X9_134 (by decide) (by decide) rfl rfl 0 rfl rfl rfl rfl (Nat.le_of_ble_eq_true rfl) (Nat.le_refl _) (Nat.le_refl _) dX9_cure_4 (fun r_4 u_4 p_4 => ?_)
  rcases p_4 with p_4 | p_4
  · obtain ⟨jx_4, jw_4, jh_4, rfl, f0_4, f1_4, f2_4, f3_4, f4_4, rfl, rfl, rfl, -⟩ := p_4
    show J X 9 0 0 7 [(0, .ref q0), (1, .int (nI jx_4)), (2, .int (nI jw_4)), (3, .int (nI jh_4)), (4, .int p3)] [.int (nI 1)] [(q0, .inr (9, [.int (nI ro), .int (nI co), .int sl, .ref q3, .ref q4, .int sn, .ref q6, .ref q7, .ref q8, .ref q9, .int ts, .int ra, .int rr, .int rw, .ref q14, .ref q15, .int rn, .ref q17, .ref q18, .ref q19, .int um, .int bs, .int bh, .ref q23, .ref q24, .ref q25, .int km])), (q3, .inl (cI, 48, .inl th)), (q4, .inl (cI, 48, .inl mo)), (q17, .inl (cI, 8, .inl ce)), (q18, .inl (cI, 8, .inl se))]
    refine J_if_eq h 19 dX9_cure_7 (by decide) (fun z => absurd z (by decide)) (fun _ => ?_)
    refine J_aload_n h (i := 0) dX9_cure_10 rfl 0 rfl ?_
    refine J_iload h dX9_cure_11 4 rfl ?_
    refine K_vi h (wr := [(q3, .inl (cI, 48, .inl th)), (q4, .inl (cI, 48, .inl mo)), (q17, .inl (cI, 8, .inl ce)), (q18, .inl (cI, 8, .inl se))]) (c_X9_isCell (xl X) (xD X) cI cE q0 q3 q4 q6 q7 q8 q9 q14 q15 q17 q18 q19 q23 q24 q25 ro co sl sn ts ra rr rw rn um bs bh km p3 (by first | exact hrc |  assumption | omega | rfl)) yv_X9_isCell nm_X9_131 (by decide) (by decide) rfl rfl 0 rfl rfl rfl rfl (Nat.le_of_ble_eq_true rfl) (Nat.le_refl _) (Nat.le_refl _) dX9_cure_13 (fun r_13 u_13 p_13 => ?_)
    rcases p_13 with p_13 | p_13
    · obtain ⟨j_13, rfl, f0_13, rfl, -⟩ := p_13
      show J X 9 0 0 16 [(0, .ref q0), (1, .int (nI jx_4)), (2, .int (nI jw_4)), (3, .int (nI jh_4)), (4, .int (nI j_13))] [.int (nI 1)] [(q0, .inr (9, [.int (nI ro), .int (nI co), .int sl, .ref q3, .ref q4, .int sn, .ref q6, .ref q7, .ref q8, .ref q9, .int ts, .int ra, .int rr, .int rw, .ref q14, .ref q15, .int rn, .ref q17, .ref q18, .ref q19, .int um, .int bs, .int bh, .ref q23, .ref q24, .ref q25, .int km])), (q3, .inl (cI, 48, .inl th)), (q4, .inl (cI, 48, .inl mo)), (q17, .inl (cI, 8, .inl ce)), (q18, .inl (cI, 8, .inl se))]
      refine J_if_ne h 21 dX9_cure_16 (by decide) (fun _ => ?_) (fun z => absurd z (by decide))
      refine J_aload_n h (i := 0) dX9_cure_21 rfl 0 rfl ?_
      refine J_iload_n h (i := 1) dX9_cure_22 rfl 1 rfl ?_
      refine J_iload_n h (i := 2) dX9_cure_23 rfl 2 rfl ?_
      refine J_iload_n h (i := 3) dX9_cure_24 rfl 3 rfl ?_
      refine J.wld [0, 1, 3, 4, 2] (ws' := [(q0, .inr (9, [.int (nI ro), .int (nI co), .int sl, .ref q3, .ref q4, .int sn, .ref q6, .ref q7, .ref q8, .ref q9, .int ts, .int ra, .int rr, .int rw, .ref q14, .ref q15, .int rn, .ref q17, .ref q18, .ref q19, .int um, .int bs, .int bh, .ref q23, .ref q24, .ref q25, .int km])), (q3, .inl (cI, 48, .inl th)), (q17, .inl (cI, 8, .inl ce)), (q18, .inl (cI, 8, .inl se)), (q4, .inl (cI, 48, .inl mo))]) rfl rfl ?_
      refine K_vi h (wr := [(q4, .inl (cI, 48, .inl mo))]) (c_X9_goes (xl X) (xD X) cI cE q0 q3 q4 q6 q7 q8 q9 q14 q15 q17 q18 q19 q23 q24 q25 ro co sl sn ts ra rr rw rn um bs bh km th ce se cth jx_4 jw_4 jh_4 (by first | exact hrc |  assumption | omega | rfl) (by first | exact hco |  assumption | omega | rfl) (by first | exact hro |  assumption | omega | rfl) (by first | assumption | omega | rfl) (by first | assumption | omega | rfl) (by first | assumption | omega | rfl) (by exact rel_T hrel)) yv_X9_goes nm_X9_137 (by decide) (by decide) rfl rfl 0 rfl rfl rfl rfl (Nat.le_of_ble_eq_true rfl) (Nat.le_refl _) (Nat.le_refl _) dX9_cure_25 (fun r_25 u_25 p_25 => ?_)
      obtain ⟨ce2_25, se2_25⟩ := u_25
      try dsimp only at p_25
      obtain ⟨rfl, f0_25, f1_25, f2_25, f3_25, -⟩ := p_25
      show J X 9 0 0 28 [(0, .ref q0), (1, .int (nI jx_4)), (2, .int (nI jw_4)), (3, .int (nI jh_4)), (4, .int (nI j_13))] [.int (nI (ren cth co ro jh_4 jx_4 jw_4))] [(q0, .inr (9, [.int (nI ro), .int (nI co), .int sl, .ref q3, .ref q4, .int sn, .ref q6, .ref q7, .ref q8, .ref q9, .int ts, .int ra, .int rr, .int rw, .ref q14, .ref q15, .int rn, .ref q17, .ref q18, .ref q19, .int um, .int bs, .int bh, .ref q23, .ref q24, .ref q25, .int km])), (q3, .inl (cI, 48, .inl th)), (q17, .inl (cI, 8, .inl ce2_25)), (q18, .inl (cI, 8, .inl se2_25)), (q4, .inl (cI, 48, .inl mo))]
      have hrn := ren_lt cth (ro := ro) (hh := jh_4) (w := jw_4) hrc (show jx_4 < co by assumption) (by assumption)
      refine J_iload h dX9_cure_28 4 rfl ?_
      refine N_icmp_ne h 36 dX9_cure_30 (by decide) (by omega) (by omega) (fun c_30 => ?_) (fun c_30 => ?_)
      · skip
        refine J_iconst h (v := nI 0) dX9_cure_36 (by decide) ?_
        refine J_istore h (lv' := [(5, .int (nI 0)), (0, .ref q0), (1, .int (nI jx_4)), (2, .int (nI jw_4)), (3, .int (nI jh_4)), (4, .int (nI j_13))]) dX9_cure_37 (by decide) rfl ?_
        refine J.wld [0, 1, 4, 2, 3] (ws' := [(q0, .inr (9, [.int (nI ro), .int (nI co), .int sl, .ref q3, .ref q4, .int sn, .ref q6, .ref q7, .ref q8, .ref q9, .int ts, .int ra, .int rr, .int rw, .ref q14, .ref q15, .int rn, .ref q17, .ref q18, .ref q19, .int um, .int bs, .int bh, .ref q23, .ref q24, .ref q25, .int km])), (q3, .inl (cI, 48, .inl th)), (q4, .inl (cI, 48, .inl mo)), (q17, .inl (cI, 8, .inl ce2_25)), (q18, .inl (cI, 8, .inl se2_25))]) rfl rfl ?_
        refine J.loc [1, 2, 3, 4, 5, 0] (lv' := [(0, .ref q0), (1, .int (nI jx_4)), (2, .int (nI jw_4)), (3, .int (nI jh_4)), (4, .int (nI j_13)), (5, .int (nI 0))]) rfl ?_
        exact w_X9_cure_39 X h q0 q3 q4 q6 q7 q8 q9 q14 q15 q17 q18 q19 q23 q24 q25 ro co sl sn ts ra rr rw rn um bs bh km th mo ce se cth cow (nI jx_4) (nI jw_4) (nI jh_4) (nI j_13) hrc hco hro hrel hR  (ro * co - 0 + 1) 0 jx_4 jw_4 jh_4 j_13 ce2_25 se2_25 (by first | assumption | omega | rfl) (by first | assumption | omega | rfl) (by first | assumption | omega | rfl) (by first | assumption | omega | rfl) (by first | assumption | omega | rfl) (by first | assumption | omega | rfl) (by first | assumption | omega | rfl) (by intro b hb; omega) (by rfl) (by rfl) (by rfl) (by rfl) (by omega)
      · skip
        refine J_bipush h (v := (-4)) dX9_cure_33 (by decide) ?_
        refine J.wld [0, 1, 4, 2, 3] (ws' := [(q0, .inr (9, [.int (nI ro), .int (nI co), .int sl, .ref q3, .ref q4, .int sn, .ref q6, .ref q7, .ref q8, .ref q9, .int ts, .int ra, .int rr, .int rw, .ref q14, .ref q15, .int rn, .ref q17, .ref q18, .ref q19, .int um, .int bs, .int bh, .ref q23, .ref q24, .ref q25, .int km])), (q3, .inl (cI, 48, .inl th)), (q4, .inl (cI, 48, .inl mo)), (q17, .inl (cI, 8, .inl ce2_25)), (q18, .inl (cI, 8, .inl se2_25))]) rfl rfl ?_
        exact hR ((-4)) (ce2_25, se2_25) (⟨(by (try dsimp only); unfold fCure; rw [if_pos ⟨by assumption, cellI (by omega) (by omega)⟩, tnI (by omega), tnI (by omega), tnI (by omega), tnI (by omega), if_pos (by omega)]), trivial⟩) 35 _ dX9_cure_35
    · obtain ⟨rfl, f0_13, -⟩ := p_13
      show J X 9 0 0 16 [(0, .ref q0), (1, .int (nI jx_4)), (2, .int (nI jw_4)), (3, .int (nI jh_4)), (4, .int p3)] [.int (nI 0)] [(q0, .inr (9, [.int (nI ro), .int (nI co), .int sl, .ref q3, .ref q4, .int sn, .ref q6, .ref q7, .ref q8, .ref q9, .int ts, .int ra, .int rr, .int rw, .ref q14, .ref q15, .int rn, .ref q17, .ref q18, .ref q19, .int um, .int bs, .int bh, .ref q23, .ref q24, .ref q25, .int km])), (q3, .inl (cI, 48, .inl th)), (q4, .inl (cI, 48, .inl mo)), (q17, .inl (cI, 8, .inl ce)), (q18, .inl (cI, 8, .inl se))]
      refine J_if_ne h 21 dX9_cure_16 (by decide) (fun z => absurd z (by decide)) (fun _ => ?_)
      refine J_iconst h (v := (-1)) dX9_cure_19 (by decide) ?_
      exact hR ((-1)) (ce, se) (⟨(by (try dsimp only); unfold fCure; rw [if_neg (fun q => by have q1 := q.1; have q2 := q.2; first | exact absurd q1 (by assumption) | omega)]), trivial⟩) 20 _ dX9_cure_20
  · obtain ⟨rfl, f0_4, -⟩ := p_4
    show J X 9 0 0 7 [(0, .ref q0), (1, .int p0), (2, .int p1), (3, .int p2), (4, .int p3)] [.int (nI 0)] [(q0, .inr (9, [.int (nI ro), .int (nI co), .int sl, .ref q3, .ref q4, .int sn, .ref q6, .ref q7, .ref q8, .ref q9, .int ts, .int ra, .int rr, .int rw, .ref q14, .ref q15, .int rn, .ref q17, .ref q18, .ref q19, .int um, .int bs, .int bh, .ref q23, .ref q24, .ref q25, .int km])), (q3, .inl (cI, 48, .inl th)), (q4, .inl (cI, 48, .inl mo)), (q17, .inl (cI, 8, .inl ce)), (q18, .inl (cI, 8, .inl se))]
    refine J_if_eq h 19 dX9_cure_7 (by decide) (fun _ => ?_) (fun z => absurd z (by decide))
    refine J_iconst h (v := (-1)) dX9_cure_19 (by decide) ?_
    exact hR ((-1)) (ce, se) (⟨(by (try dsimp only); unfold fCure; rw [if_neg (fun q => by have q1 := q.1; have q2 := q.2; first | exact absurd q1 (by assumption) | omega)]), trivial⟩) 20 _ dX9_cure_20
theorem c_X9_cure (l : Launch) (D : va_G) (cI cE : ClassId) (q0 : Nat) (q3 : Nat) (q4 : Nat) (q6 : Nat) (q7 : Nat) (q8 : Nat) (q9 : Nat) (q14 : Nat) (q15 : Nat) (q17 : Nat) (q18 : Nat) (q19 : Nat) (q23 : Nat) (q24 : Nat) (q25 : Nat) (ro : Nat) (co : Nat) (sl : Int32) (sn : Int32) (ts : Int32) (ra : Int32) (rr : Int32) (rw : Int32) (rn : Int32) (um : Int32) (bs : Int32) (bh : Int32) (km : Int32) (th : Nat → Int32) (mo : Nat → Int32) (ce : Nat → Int32) (se : Nat → Int32) (cth : Nat → Int32) (cow : Nat → Int32) (p0 : Int32) (p1 : Int32) (p2 : Int32) (p3 : Int32) (hrc : ro * co ≤ 48) (hco : co ≤ 6) (hro : ro ≤ 8) (hrel : rel (ro * co) th mo cth cow) : Ci l D cI cE yX9_cure cX9_cure 9 (some .int) 3 0 0 [.ref q0, .int p0, .int p1, .int p2, .int p3] [(q0, .inr (9, [.int (nI ro), .int (nI co), .int sl, .ref q3, .ref q4, .int sn, .ref q6, .ref q7, .ref q8, .ref q9, .int ts, .int ra, .int rr, .int rw, .ref q14, .ref q15, .int rn, .ref q17, .ref q18, .ref q19, .int um, .int bs, .int bh, .ref q23, .ref q24, .ref q25, .int km])), (q3, .inl (cI, 48, .inl th)), (q4, .inl (cI, 48, .inl mo)), (q17, .inl (cI, 8, .inl ce)), (q18, .inl (cI, 8, .inl se))] (fun (r : Int32) (u : (Nat → Int32) × (Nat → Int32)) => ((fCure cth co ro p0 p1 p2 p3 = r) ∧ (True))) (fun (u : (Nat → Int32) × (Nat → Int32)) => ([(q0, .inr (9, [.int (nI ro), .int (nI co), .int sl, .ref q3, .ref q4, .int sn, .ref q6, .ref q7, .ref q8, .ref q9, .int ts, .int ra, .int rr, .int rw, .ref q14, .ref q15, .int rn, .ref q17, .ref q18, .ref q19, .int um, .int bs, .int bh, .ref q23, .ref q24, .ref q25, .int km])), (q3, .inl (cI, 48, .inl th)), (q4, .inl (cI, 48, .inl mo)), (q17, .inl (cI, 8, .inl u.1)), (q18, .inl (cI, 8, .inl u.2))] : va_W)) :=
  Ci.of (by decide) (Nat.le_of_ble_eq_true rfl) (fun _ _ _ => rfl) (fun X h hR => w_X9_cure X h q0 q3 q4 q6 q7 q8 q9 q14 q15 q17 q18 q19 q23 q24 q25 ro co sl sn ts ra rr rw rn um bs bh km th mo ce se cth cow p0 p1 p2 p3 hrc hco hro hrel hR)
theorem yv_X9_cure : YV yX9_cure cX9_cure 9 (some .int) 4 := ⟨no_X9_cure, nv_X9_cure, ni_X9, nk_X9_cure, by decide +kernel⟩
set_option maxRecDepth 100000 in
set_option maxHeartbeats 4000000 in
theorem w_X9_winter_47 (X : Cx) {cI cE : ClassId} (h : Ok X cX9_winter RX9 12 cI cE 3 0 0) (q0 : Nat) (q3 : Nat) (q4 : Nat) (q6 : Nat) (q7 : Nat) (q8 : Nat) (q9 : Nat) (q14 : Nat) (q15 : Nat) (q17 : Nat) (q18 : Nat) (q19 : Nat) (q23 : Nat) (q24 : Nat) (q25 : Nat) (ro : Nat) (co : Nat) (sl : Int32) (sn : Int32) (ts : Int32) (ra : Int32) (rr : Int32) (rw : Int32) (rn : Int32) (um : Int32) (bs : Int32) (bh : Int32) (km : Int32) (th : Nat → Int32) (mo : Nat → Int32) (ce : Nat → Int32) (se : Nat → Int32) (as : Nat → Int32) (cth : Nat → Int32) (cow : Nat → Int32) (p0 : Int32) (p1 : Int32) (p2 : Int32) (hrc : ro * co ≤ 48) (hco : co ≤ 6) (hro : ro ≤ 8) (hrel : rel (ro * co) th mo cth cow) (hc0 : 0 < co) (hr0 : 0 < ro * co) (hR : ∀ (r : Int32) (u : (Nat → Int32) × (Nat → Int32) × (Nat → Int32)), ((fWinter cth cow co ro p0 p1 p2 = r) ∧ (True)) → RetI X cX9_winter 12 0 0 r [(q0, .inr (9, [.int (nI ro), .int (nI co), .int sl, .ref q3, .ref q4, .int sn, .ref q6, .ref q7, .ref q8, .ref q9, .int ts, .int ra, .int rr, .int rw, .ref q14, .ref q15, .int rn, .ref q17, .ref q18, .ref q19, .int um, .int bs, .int bh, .ref q23, .ref q24, .ref q25, .int km])), (q3, .inl (cI, 48, .inl th)), (q4, .inl (cI, 48, .inl mo)), (q17, .inl (cI, 8, .inl u.1)), (q18, .inl (cI, 8, .inl u.2.1)), (q24, .inl (cI, 97, .inl u.2.2))]) : ∀ (n_47 : Nat) (i : Nat) (sc : Nat) (jz : Nat) (jn : Nat) (t1 : Nat → Int32) (m1 : Nat → Int32) (wt : Nat → Int32) (wo : Nat → Int32) (ce1 : Nat → Int32) (se1 : Nat → Int32), (i ≤ jn) → (jz < 10000) → (jn < 61) → (p0 = nI jz) → (p1 = nI jn) → (vWint (nI jz) (nI jn) p2) → (wt = (wnt co ro jz cth cow i).1) → (wo = (wnt co ro jz cth cow i).2.1) → (rel (ro * co) t1 m1 wt wo) → (EqN sc (wnt co ro jz cth cow i).2.2) → (sc ≤ i) → jn - i < n_47 → J X 12 0 0 47 [(0, .ref q0), (1, .int (nI jz)), (2, .int (nI jn)), (3, .int p2), (4, .int (nI sc)), (5, .int (nI i))] [] [(q0, .inr (9, [.int (nI ro), .int (nI co), .int sl, .ref q3, .ref q4, .int sn, .ref q6, .ref q7, .ref q8, .ref q9, .int ts, .int ra, .int rr, .int rw, .ref q14, .ref q15, .int rn, .ref q17, .ref q18, .ref q19, .int um, .int bs, .int bh, .ref q23, .ref q24, .ref q25, .int km])), (q3, .inl (cI, 48, .inl t1)), (q4, .inl (cI, 48, .inl m1)), (q17, .inl (cI, 8, .inl ce1)), (q18, .inl (cI, 8, .inl se1)), (q24, .inl (cI, 97, .inl (noteA 0 sl th mo as)))] := by
  intro n_47
  induction n_47 with
  | zero => intro i sc jz jn t1 m1 wt wo ce1 se1 hi hjz hjn e0 e1 hv ht ho hrl hs hsb hn_; exact absurd hn_ (Nat.not_lt_zero _)
  | succ n_47 ih_47 =>
    intro i sc jz jn t1 m1 wt wo ce1 se1 hi hjz hjn e0 e1 hv ht ho hrl hs hsb hn_47
    refine J_iload h dX9_winter_47 5 rfl ?_
    refine J_iload_n h (i := 2) dX9_winter_49 rfl 2 rfl ?_
    refine N_icmp_ge h 207 dX9_winter_50 (by decide) (by omega) (by omega) (fun c_50 => ?_) (fun c_50 => ?_)
    · skip
      have hi2 : i = jn := by omega
      have hct := cntP_le (fun k => decide (wo k = nI 4)) (ro * co)
      refine J_iload_n h (i := 3) dX9_winter_207 rfl 3 rfl ?_
      refine T_if_ne h (A := (p2).toInt) 218 dX9_winter_208 (by decide) (rfl) (fun c_208 => ?_) (fun c_208 => ?_)
      · skip
        refine J_iload_n h (i := 3) dX9_winter_218 rfl 3 rfl ?_
        refine J_iconst h (v := nI 1) dX9_winter_219 (by decide) ?_
        refine T_icmp_ne h (A := (p2).toInt) (B := 1) 230 dX9_winter_220 (by decide) (rfl) (nI_toInt (by omega)) (fun c_220 => ?_) (fun c_220 => ?_)
        · skip
          refine J_iload h dX9_winter_230 4 rfl ?_
          refine J_istore h (lv' := [(5, .int (nI sc)), (0, .ref q0), (1, .int (nI jz)), (2, .int (nI jn)), (3, .int p2), (4, .int (nI sc))]) dX9_winter_232 (by decide) rfl ?_
          refine J_aload_n h (i := 0) dX9_winter_234 rfl 1 rfl ?_
          refine J_aload_n h (i := 0) dX9_winter_235 rfl 1 rfl ?_
          refine J_get h inX9 rfl 0 24 (by decide) rfl rfl nf_X9_46 dX9_winter_236 ?_
          refine J_iconst h (v := nI 0) dX9_winter_239 (by decide) ?_
          refine J.wld [0, 1, 2, 5, 3, 4] (ws' := [(q0, .inr (9, [.int (nI ro), .int (nI co), .int sl, .ref q3, .ref q4, .int sn, .ref q6, .ref q7, .ref q8, .ref q9, .int ts, .int ra, .int rr, .int rw, .ref q14, .ref q15, .int rn, .ref q17, .ref q18, .ref q19, .int um, .int bs, .int bh, .ref q23, .ref q24, .ref q25, .int km])), (q3, .inl (cI, 48, .inl t1)), (q4, .inl (cI, 48, .inl m1)), (q24, .inl (cI, 97, .inl (noteA 0 sl th mo as))), (q17, .inl (cI, 8, .inl ce1)), (q18, .inl (cI, 8, .inl se1))]) rfl rfl ?_
          refine K_vv h (wr := [(q17, .inl (cI, 8, .inl ce1)), (q18, .inl (cI, 8, .inl se1))]) (c_X9_takes97 (xl X) (xD X) cI cE q0 q3 q4 q6 q7 q8 q9 q14 q15 q17 q18 q19 q23 q24 q25 ro co sl sn ts ra rr rw rn um bs bh km t1 m1 q24 (noteA 0 sl th mo as) 0 (by first | assumption | omega | rfl)) yv_X9_takes nm_X9_167 (by decide) (by decide) rfl rfl 0 rfl rfl rfl rfl (Nat.le_of_ble_eq_true rfl) (Nat.le_refl _) (Nat.le_refl _) dX9_winter_240 (fun u_240 p_240 => ?_)
          show J X 12 0 0 243 [(5, .int (nI sc)), (0, .ref q0), (1, .int (nI jz)), (2, .int (nI jn)), (3, .int p2), (4, .int (nI sc))] [] [(q0, .inr (9, [.int (nI ro), .int (nI co), .int ((noteA 0 sl th mo as) 0), .ref q3, .ref q4, .int sn, .ref q6, .ref q7, .ref q8, .ref q9, .int ts, .int ra, .int rr, .int rw, .ref q14, .ref q15, .int rn, .ref q17, .ref q18, .ref q19, .int um, .int bs, .int bh, .ref q23, .ref q24, .ref q25, .int km])), (q3, .inl (cI, 48, .inl (tkT 0 (noteA 0 sl th mo as)))), (q4, .inl (cI, 48, .inl (tkO 0 (noteA 0 sl th mo as)))), (q24, .inl (cI, 97, .inl ((noteA 0 sl th mo as)))), (q17, .inl (cI, 8, .inl ce1)), (q18, .inl (cI, 8, .inl se1))]
          refine J_arr (g := th) (ws' := [(q0, .inr (9, [.int (nI ro), .int (nI co), .int ((noteA 0 sl th mo as) 0), .ref q3, .ref q4, .int sn, .ref q6, .ref q7, .ref q8, .ref q9, .int ts, .int ra, .int rr, .int rw, .ref q14, .ref q15, .int rn, .ref q17, .ref q18, .ref q19, .int um, .int bs, .int bh, .ref q23, .ref q24, .ref q25, .int km])), (q3, .inl (cI, 48, .inl th)), (q4, .inl (cI, 48, .inl (tkO 0 (noteA 0 sl th mo as)))), (q24, .inl (cI, 97, .inl ((noteA 0 sl th mo as)))), (q17, .inl (cI, 8, .inl ce1)), (q18, .inl (cI, 8, .inl se1))]) 1 rfl (by exact fun j hj => tkT_note _ _ _ _ _ hj) rfl ?_
          refine J_arr (g := mo) (ws' := [(q0, .inr (9, [.int (nI ro), .int (nI co), .int ((noteA 0 sl th mo as) 0), .ref q3, .ref q4, .int sn, .ref q6, .ref q7, .ref q8, .ref q9, .int ts, .int ra, .int rr, .int rw, .ref q14, .ref q15, .int rn, .ref q17, .ref q18, .ref q19, .int um, .int bs, .int bh, .ref q23, .ref q24, .ref q25, .int km])), (q3, .inl (cI, 48, .inl th)), (q4, .inl (cI, 48, .inl mo)), (q24, .inl (cI, 97, .inl ((noteA 0 sl th mo as)))), (q17, .inl (cI, 8, .inl ce1)), (q18, .inl (cI, 8, .inl se1))]) 2 rfl (by exact fun j hj => tkO_note _ _ _ _ _ hj) rfl ?_
          refine J_eqw (ws' := [(q0, .inr (9, [.int (nI ro), .int (nI co), .int sl, .ref q3, .ref q4, .int sn, .ref q6, .ref q7, .ref q8, .ref q9, .int ts, .int ra, .int rr, .int rw, .ref q14, .ref q15, .int rn, .ref q17, .ref q18, .ref q19, .int um, .int bs, .int bh, .ref q23, .ref q24, .ref q25, .int km])), (q3, .inl (cI, 48, .inl th)), (q4, .inl (cI, 48, .inl mo)), (q24, .inl (cI, 97, .inl ((noteA 0 sl th mo as)))), (q17, .inl (cI, 8, .inl ce1)), (q18, .inl (cI, 8, .inl se1))]) (by rw [note_at]) ?_
          refine J_iload h dX9_winter_243 0 rfl ?_
          refine J.wld [0, 1, 2, 4, 5, 3] (ws' := [(q0, .inr (9, [.int (nI ro), .int (nI co), .int sl, .ref q3, .ref q4, .int sn, .ref q6, .ref q7, .ref q8, .ref q9, .int ts, .int ra, .int rr, .int rw, .ref q14, .ref q15, .int rn, .ref q17, .ref q18, .ref q19, .int um, .int bs, .int bh, .ref q23, .ref q24, .ref q25, .int km])), (q3, .inl (cI, 48, .inl th)), (q4, .inl (cI, 48, .inl mo)), (q17, .inl (cI, 8, .inl ce1)), (q18, .inl (cI, 8, .inl se1)), (q24, .inl (cI, 97, .inl ((noteA 0 sl th mo as))))]) rfl rfl ?_
          exact hR (nI sc) (ce1, se1, noteA 0 sl th mo as) (⟨(by (try dsimp only); rw [e0, e1]; unfold fWinter; rw [if_pos hv]; first | (rw [if_pos (by omega), tnI (by omega), tnI (by omega), ho, hi2]; done) | (rw [if_neg (by omega), if_pos (by omega), tnI (by omega), tnI (by omega), ht, hi2]; done) | (rw [if_neg (by omega), if_neg (by omega), tnI (by omega), tnI (by omega), hs.eq, hi2]; done)), trivial⟩) 245 _ dX9_winter_245
        · skip
          refine J_aload_n h (i := 0) dX9_winter_223 rfl 0 rfl ?_
          refine K_vi h (wr := [(q17, .inl (cI, 8, .inl ce1)), (q18, .inl (cI, 8, .inl se1)), (q24, .inl (cI, 97, .inl (noteA 0 sl th mo as)))]) (c_X9_iceMany (xl X) (xD X) cI cE q0 q3 q4 q6 q7 q8 q9 q14 q15 q17 q18 q19 q23 q24 q25 ro co sl sn ts ra rr rw rn um bs bh km t1 m1 wt wo (by first | exact hrc |  assumption | omega | rfl) (by first | exact hco |  assumption | omega | rfl) (by first | exact hro |  assumption | omega | rfl) (by exact hrl)) yv_X9_iceMany nm_X9_217 (by decide) (by decide) rfl rfl 0 rfl rfl rfl rfl (Nat.le_of_ble_eq_true rfl) (Nat.le_refl _) (Nat.le_refl _) dX9_winter_224 (fun r_224 u_224 p_224 => ?_)
          obtain ⟨rfl, -⟩ := p_224
          show J X 12 0 0 227 [(0, .ref q0), (1, .int (nI jz)), (2, .int (nI jn)), (3, .int p2), (4, .int (nI sc)), (5, .int (nI i))] [.int (nI (cntP (fun k => decide (wt k = nI 1)) (ro * co)))] [(q0, .inr (9, [.int (nI ro), .int (nI co), .int sl, .ref q3, .ref q4, .int sn, .ref q6, .ref q7, .ref q8, .ref q9, .int ts, .int ra, .int rr, .int rw, .ref q14, .ref q15, .int rn, .ref q17, .ref q18, .ref q19, .int um, .int bs, .int bh, .ref q23, .ref q24, .ref q25, .int km])), (q3, .inl (cI, 48, .inl t1)), (q4, .inl (cI, 48, .inl m1)), (q17, .inl (cI, 8, .inl ce1)), (q18, .inl (cI, 8, .inl se1)), (q24, .inl (cI, 97, .inl (noteA 0 sl th mo as)))]
          refine J_goto h 232 dX9_winter_227 (by decide) ?_
          refine J_istore h (lv' := [(5, .int (nI (cntP (fun k => decide (wt k = nI 1)) (ro * co)))), (0, .ref q0), (1, .int (nI jz)), (2, .int (nI jn)), (3, .int p2), (4, .int (nI sc))]) dX9_winter_232 (by decide) rfl ?_
          refine J_aload_n h (i := 0) dX9_winter_234 rfl 1 rfl ?_
          refine J_aload_n h (i := 0) dX9_winter_235 rfl 1 rfl ?_
          refine J_get h inX9 rfl 0 24 (by decide) rfl rfl nf_X9_46 dX9_winter_236 ?_
          refine J_iconst h (v := nI 0) dX9_winter_239 (by decide) ?_
          refine J.wld [0, 1, 2, 5, 3, 4] (ws' := [(q0, .inr (9, [.int (nI ro), .int (nI co), .int sl, .ref q3, .ref q4, .int sn, .ref q6, .ref q7, .ref q8, .ref q9, .int ts, .int ra, .int rr, .int rw, .ref q14, .ref q15, .int rn, .ref q17, .ref q18, .ref q19, .int um, .int bs, .int bh, .ref q23, .ref q24, .ref q25, .int km])), (q3, .inl (cI, 48, .inl t1)), (q4, .inl (cI, 48, .inl m1)), (q24, .inl (cI, 97, .inl (noteA 0 sl th mo as))), (q17, .inl (cI, 8, .inl ce1)), (q18, .inl (cI, 8, .inl se1))]) rfl rfl ?_
          refine K_vv h (wr := [(q17, .inl (cI, 8, .inl ce1)), (q18, .inl (cI, 8, .inl se1))]) (c_X9_takes97 (xl X) (xD X) cI cE q0 q3 q4 q6 q7 q8 q9 q14 q15 q17 q18 q19 q23 q24 q25 ro co sl sn ts ra rr rw rn um bs bh km t1 m1 q24 (noteA 0 sl th mo as) 0 (by first | assumption | omega | rfl)) yv_X9_takes nm_X9_167 (by decide) (by decide) rfl rfl 0 rfl rfl rfl rfl (Nat.le_of_ble_eq_true rfl) (Nat.le_refl _) (Nat.le_refl _) dX9_winter_240 (fun u_240 p_240 => ?_)
          show J X 12 0 0 243 [(5, .int (nI (cntP (fun k => decide (wt k = nI 1)) (ro * co)))), (0, .ref q0), (1, .int (nI jz)), (2, .int (nI jn)), (3, .int p2), (4, .int (nI sc))] [] [(q0, .inr (9, [.int (nI ro), .int (nI co), .int ((noteA 0 sl th mo as) 0), .ref q3, .ref q4, .int sn, .ref q6, .ref q7, .ref q8, .ref q9, .int ts, .int ra, .int rr, .int rw, .ref q14, .ref q15, .int rn, .ref q17, .ref q18, .ref q19, .int um, .int bs, .int bh, .ref q23, .ref q24, .ref q25, .int km])), (q3, .inl (cI, 48, .inl (tkT 0 (noteA 0 sl th mo as)))), (q4, .inl (cI, 48, .inl (tkO 0 (noteA 0 sl th mo as)))), (q24, .inl (cI, 97, .inl ((noteA 0 sl th mo as)))), (q17, .inl (cI, 8, .inl ce1)), (q18, .inl (cI, 8, .inl se1))]
          refine J_arr (g := th) (ws' := [(q0, .inr (9, [.int (nI ro), .int (nI co), .int ((noteA 0 sl th mo as) 0), .ref q3, .ref q4, .int sn, .ref q6, .ref q7, .ref q8, .ref q9, .int ts, .int ra, .int rr, .int rw, .ref q14, .ref q15, .int rn, .ref q17, .ref q18, .ref q19, .int um, .int bs, .int bh, .ref q23, .ref q24, .ref q25, .int km])), (q3, .inl (cI, 48, .inl th)), (q4, .inl (cI, 48, .inl (tkO 0 (noteA 0 sl th mo as)))), (q24, .inl (cI, 97, .inl ((noteA 0 sl th mo as)))), (q17, .inl (cI, 8, .inl ce1)), (q18, .inl (cI, 8, .inl se1))]) 1 rfl (by exact fun j hj => tkT_note _ _ _ _ _ hj) rfl ?_
          refine J_arr (g := mo) (ws' := [(q0, .inr (9, [.int (nI ro), .int (nI co), .int ((noteA 0 sl th mo as) 0), .ref q3, .ref q4, .int sn, .ref q6, .ref q7, .ref q8, .ref q9, .int ts, .int ra, .int rr, .int rw, .ref q14, .ref q15, .int rn, .ref q17, .ref q18, .ref q19, .int um, .int bs, .int bh, .ref q23, .ref q24, .ref q25, .int km])), (q3, .inl (cI, 48, .inl th)), (q4, .inl (cI, 48, .inl mo)), (q24, .inl (cI, 97, .inl ((noteA 0 sl th mo as)))), (q17, .inl (cI, 8, .inl ce1)), (q18, .inl (cI, 8, .inl se1))]) 2 rfl (by exact fun j hj => tkO_note _ _ _ _ _ hj) rfl ?_
          refine J_eqw (ws' := [(q0, .inr (9, [.int (nI ro), .int (nI co), .int sl, .ref q3, .ref q4, .int sn, .ref q6, .ref q7, .ref q8, .ref q9, .int ts, .int ra, .int rr, .int rw, .ref q14, .ref q15, .int rn, .ref q17, .ref q18, .ref q19, .int um, .int bs, .int bh, .ref q23, .ref q24, .ref q25, .int km])), (q3, .inl (cI, 48, .inl th)), (q4, .inl (cI, 48, .inl mo)), (q24, .inl (cI, 97, .inl ((noteA 0 sl th mo as)))), (q17, .inl (cI, 8, .inl ce1)), (q18, .inl (cI, 8, .inl se1))]) (by rw [note_at]) ?_
          refine J_iload h dX9_winter_243 0 rfl ?_
          refine J.wld [0, 1, 2, 4, 5, 3] (ws' := [(q0, .inr (9, [.int (nI ro), .int (nI co), .int sl, .ref q3, .ref q4, .int sn, .ref q6, .ref q7, .ref q8, .ref q9, .int ts, .int ra, .int rr, .int rw, .ref q14, .ref q15, .int rn, .ref q17, .ref q18, .ref q19, .int um, .int bs, .int bh, .ref q23, .ref q24, .ref q25, .int km])), (q3, .inl (cI, 48, .inl th)), (q4, .inl (cI, 48, .inl mo)), (q17, .inl (cI, 8, .inl ce1)), (q18, .inl (cI, 8, .inl se1)), (q24, .inl (cI, 97, .inl ((noteA 0 sl th mo as))))]) rfl rfl ?_
          exact hR (nI (cntP (fun k => decide (wt k = nI 1)) (ro * co))) (ce1, se1, noteA 0 sl th mo as) (⟨(by (try dsimp only); rw [e0, e1]; unfold fWinter; rw [if_pos hv]; first | (rw [if_pos (by omega), tnI (by omega), tnI (by omega), ho, hi2]; done) | (rw [if_neg (by omega), if_pos (by omega), tnI (by omega), tnI (by omega), ht, hi2]; done) | (rw [if_neg (by omega), if_neg (by omega), tnI (by omega), tnI (by omega), hs.eq, hi2]; done)), trivial⟩) 245 _ dX9_winter_245
      · skip
        refine J_aload_n h (i := 0) dX9_winter_211 rfl 0 rfl ?_
        refine K_vi h (wr := [(q17, .inl (cI, 8, .inl ce1)), (q18, .inl (cI, 8, .inl se1)), (q24, .inl (cI, 97, .inl (noteA 0 sl th mo as)))]) (c_X9_ownedAll (xl X) (xD X) cI cE q0 q3 q4 q6 q7 q8 q9 q14 q15 q17 q18 q19 q23 q24 q25 ro co sl sn ts ra rr rw rn um bs bh km t1 m1 wt wo (by first | exact hrc |  assumption | omega | rfl) (by first | exact hco |  assumption | omega | rfl) (by first | exact hro |  assumption | omega | rfl) (by exact hrl)) yv_X9_ownedAll nm_X9_214 (by decide) (by decide) rfl rfl 0 rfl rfl rfl rfl (Nat.le_of_ble_eq_true rfl) (Nat.le_refl _) (Nat.le_refl _) dX9_winter_212 (fun r_212 u_212 p_212 => ?_)
        obtain ⟨rfl, -⟩ := p_212
        show J X 12 0 0 215 [(0, .ref q0), (1, .int (nI jz)), (2, .int (nI jn)), (3, .int p2), (4, .int (nI sc)), (5, .int (nI i))] [.int (nI (ro * co - cntP (fun k => decide (wo k = nI 4)) (ro * co)))] [(q0, .inr (9, [.int (nI ro), .int (nI co), .int sl, .ref q3, .ref q4, .int sn, .ref q6, .ref q7, .ref q8, .ref q9, .int ts, .int ra, .int rr, .int rw, .ref q14, .ref q15, .int rn, .ref q17, .ref q18, .ref q19, .int um, .int bs, .int bh, .ref q23, .ref q24, .ref q25, .int km])), (q3, .inl (cI, 48, .inl t1)), (q4, .inl (cI, 48, .inl m1)), (q17, .inl (cI, 8, .inl ce1)), (q18, .inl (cI, 8, .inl se1)), (q24, .inl (cI, 97, .inl (noteA 0 sl th mo as)))]
        refine J_goto h 232 dX9_winter_215 (by decide) ?_
        refine J_istore h (lv' := [(5, .int (nI (ro * co - cntP (fun k => decide (wo k = nI 4)) (ro * co)))), (0, .ref q0), (1, .int (nI jz)), (2, .int (nI jn)), (3, .int p2), (4, .int (nI sc))]) dX9_winter_232 (by decide) rfl ?_
        refine J_aload_n h (i := 0) dX9_winter_234 rfl 1 rfl ?_
        refine J_aload_n h (i := 0) dX9_winter_235 rfl 1 rfl ?_
        refine J_get h inX9 rfl 0 24 (by decide) rfl rfl nf_X9_46 dX9_winter_236 ?_
        refine J_iconst h (v := nI 0) dX9_winter_239 (by decide) ?_
        refine J.wld [0, 1, 2, 5, 3, 4] (ws' := [(q0, .inr (9, [.int (nI ro), .int (nI co), .int sl, .ref q3, .ref q4, .int sn, .ref q6, .ref q7, .ref q8, .ref q9, .int ts, .int ra, .int rr, .int rw, .ref q14, .ref q15, .int rn, .ref q17, .ref q18, .ref q19, .int um, .int bs, .int bh, .ref q23, .ref q24, .ref q25, .int km])), (q3, .inl (cI, 48, .inl t1)), (q4, .inl (cI, 48, .inl m1)), (q24, .inl (cI, 97, .inl (noteA 0 sl th mo as))), (q17, .inl (cI, 8, .inl ce1)), (q18, .inl (cI, 8, .inl se1))]) rfl rfl ?_
        refine K_vv h (wr := [(q17, .inl (cI, 8, .inl ce1)), (q18, .inl (cI, 8, .inl se1))]) (c_X9_takes97 (xl X) (xD X) cI cE q0 q3 q4 q6 q7 q8 q9 q14 q15 q17 q18 q19 q23 q24 q25 ro co sl sn ts ra rr rw rn um bs bh km t1 m1 q24 (noteA 0 sl th mo as) 0 (by first | assumption | omega | rfl)) yv_X9_takes nm_X9_167 (by decide) (by decide) rfl rfl 0 rfl rfl rfl rfl (Nat.le_of_ble_eq_true rfl) (Nat.le_refl _) (Nat.le_refl _) dX9_winter_240 (fun u_240 p_240 => ?_)
        show J X 12 0 0 243 [(5, .int (nI (ro * co - cntP (fun k => decide (wo k = nI 4)) (ro * co)))), (0, .ref q0), (1, .int (nI jz)), (2, .int (nI jn)), (3, .int p2), (4, .int (nI sc))] [] [(q0, .inr (9, [.int (nI ro), .int (nI co), .int ((noteA 0 sl th mo as) 0), .ref q3, .ref q4, .int sn, .ref q6, .ref q7, .ref q8, .ref q9, .int ts, .int ra, .int rr, .int rw, .ref q14, .ref q15, .int rn, .ref q17, .ref q18, .ref q19, .int um, .int bs, .int bh, .ref q23, .ref q24, .ref q25, .int km])), (q3, .inl (cI, 48, .inl (tkT 0 (noteA 0 sl th mo as)))), (q4, .inl (cI, 48, .inl (tkO 0 (noteA 0 sl th mo as)))), (q24, .inl (cI, 97, .inl ((noteA 0 sl th mo as)))), (q17, .inl (cI, 8, .inl ce1)), (q18, .inl (cI, 8, .inl se1))]
        refine J_arr (g := th) (ws' := [(q0, .inr (9, [.int (nI ro), .int (nI co), .int ((noteA 0 sl th mo as) 0), .ref q3, .ref q4, .int sn, .ref q6, .ref q7, .ref q8, .ref q9, .int ts, .int ra, .int rr, .int rw, .ref q14, .ref q15, .int rn, .ref q17, .ref q18, .ref q19, .int um, .int bs, .int bh, .ref q23, .ref q24, .ref q25, .int km])), (q3, .inl (cI, 48, .inl th)), (q4, .inl (cI, 48, .inl (tkO 0 (noteA 0 sl th mo as)))), (q24, .inl (cI, 97, .inl ((noteA 0 sl th mo as)))), (q17, .inl (cI, 8, .inl ce1)), (q18, .inl (cI, 8, .inl se1))]) 1 rfl (by exact fun j hj => tkT_note _ _ _ _ _ hj) rfl ?_
        refine J_arr (g := mo) (ws' := [(q0, .inr (9, [.int (nI ro), .int (nI co), .int ((noteA 0 sl th mo as) 0), .ref q3, .ref q4, .int sn, .ref q6, .ref q7, .ref q8, .ref q9, .int ts, .int ra, .int rr, .int rw, .ref q14, .ref q15, .int rn, .ref q17, .ref q18, .ref q19, .int um, .int bs, .int bh, .ref q23, .ref q24, .ref q25, .int km])), (q3, .inl (cI, 48, .inl th)), (q4, .inl (cI, 48, .inl mo)), (q24, .inl (cI, 97, .inl ((noteA 0 sl th mo as)))), (q17, .inl (cI, 8, .inl ce1)), (q18, .inl (cI, 8, .inl se1))]) 2 rfl (by exact fun j hj => tkO_note _ _ _ _ _ hj) rfl ?_
        refine J_eqw (ws' := [(q0, .inr (9, [.int (nI ro), .int (nI co), .int sl, .ref q3, .ref q4, .int sn, .ref q6, .ref q7, .ref q8, .ref q9, .int ts, .int ra, .int rr, .int rw, .ref q14, .ref q15, .int rn, .ref q17, .ref q18, .ref q19, .int um, .int bs, .int bh, .ref q23, .ref q24, .ref q25, .int km])), (q3, .inl (cI, 48, .inl th)), (q4, .inl (cI, 48, .inl mo)), (q24, .inl (cI, 97, .inl ((noteA 0 sl th mo as)))), (q17, .inl (cI, 8, .inl ce1)), (q18, .inl (cI, 8, .inl se1))]) (by rw [note_at]) ?_
        refine J_iload h dX9_winter_243 0 rfl ?_
        refine J.wld [0, 1, 2, 4, 5, 3] (ws' := [(q0, .inr (9, [.int (nI ro), .int (nI co), .int sl, .ref q3, .ref q4, .int sn, .ref q6, .ref q7, .ref q8, .ref q9, .int ts, .int ra, .int rr, .int rw, .ref q14, .ref q15, .int rn, .ref q17, .ref q18, .ref q19, .int um, .int bs, .int bh, .ref q23, .ref q24, .ref q25, .int km])), (q3, .inl (cI, 48, .inl th)), (q4, .inl (cI, 48, .inl mo)), (q17, .inl (cI, 8, .inl ce1)), (q18, .inl (cI, 8, .inl se1)), (q24, .inl (cI, 97, .inl ((noteA 0 sl th mo as))))]) rfl rfl ?_
        exact hR (nI (ro * co - cntP (fun k => decide (wo k = nI 4)) (ro * co))) (ce1, se1, noteA 0 sl th mo as) (⟨(by (try dsimp only); rw [e0, e1]; unfold fWinter; rw [if_pos hv]; first | (rw [if_pos (by omega), tnI (by omega), tnI (by omega), ho, hi2]; done) | (rw [if_neg (by omega), if_pos (by omega), tnI (by omega), tnI (by omega), ht, hi2]; done) | (rw [if_neg (by omega), if_neg (by omega), tnI (by omega), tnI (by omega), hs.eq, hi2]; done)), trivial⟩) 245 _ dX9_winter_245
    · skip
      refine J_ldc2 h nl_X9_206 dX9_winter_53 ?_
      refine J_iload_n h (i := 1) dX9_winter_56 rfl 1 rfl ?_
      refine J_i2l h dX9_winter_57 ?_
      refine J_lmul h dX9_winter_58 ?_
      refine J_ldc2 h nl_X9_208 dX9_winter_59 ?_
      refine J_iload h dX9_winter_62 5 rfl ?_
      refine J_i2l h dX9_winter_64 ?_
      refine J_lmul h dX9_winter_65 ?_
      refine J_ladd h dX9_winter_66 ?_
      refine J_lconst h (v := 1) dX9_winter_67 rfl ?_
      refine J_ladd h dX9_winter_68 ?_
      refine J_lstore h (lv' := [(6, .long (((7919 * ((nI jz).toInt64)) + (6151 * ((nI i).toInt64))) + 1)), (0, .ref q0), (1, .int (nI jz)), (2, .int (nI jn)), (3, .int p2), (4, .int (nI sc)), (5, .int (nI i))]) dX9_winter_69 (by decide) rfl ?_
      refine J_lload h dX9_winter_71 0 rfl ?_
      refine J_lload h dX9_winter_73 0 rfl ?_
      refine J_lmul h dX9_winter_75 ?_
      refine J_ldc2 h nl_X9_210 dX9_winter_76 ?_
      refine J_lrem h dX9_winter_79 (by decide) ?_
      refine J_ldc2 h nl_X9_212 dX9_winter_80 ?_
      refine J_ldiv h dX9_winter_83 (by decide) ?_
      refine J_l2i h dX9_winter_84 ?_
      obtain ⟨dd, hdd⟩ : ∃ z, z = drw jz i := ⟨_, rfl⟩
      have hdr : dd < 32761 := by rw [hdd]; exact drw_lt jz i
      refine J_eqs (st' := [.int (nI dd)]) (by rw [drw_long jz i (by omega) (by omega), ← hdd]) ?_
      refine J_istore h (lv' := [(8, .int (nI dd)), (6, .long (((7919 * ((nI jz).toInt64)) + (6151 * ((nI i).toInt64))) + 1)), (0, .ref q0), (1, .int (nI jz)), (2, .int (nI jn)), (3, .int p2), (4, .int (nI sc)), (5, .int (nI i))]) dX9_winter_85 (by decide) rfl ?_
      refine J_iload h dX9_winter_87 0 rfl ?_
      refine J_aload_n h (i := 0) dX9_winter_89 rfl 2 rfl ?_
      refine K_vi h (wr := [(q3, .inl (cI, 48, .inl t1)), (q4, .inl (cI, 48, .inl m1)), (q17, .inl (cI, 8, .inl ce1)), (q18, .inl (cI, 8, .inl se1)), (q24, .inl (cI, 97, .inl (noteA 0 sl th mo as)))]) (c_X9_cells (xl X) (xD X) cI cE q0 q3 q4 q6 q7 q8 q9 q14 q15 q17 q18 q19 q23 q24 q25 ro co sl sn ts ra rr rw rn um bs bh km ) yv_X9_cells nm_X9_63 (by decide) (by decide) rfl rfl 0 rfl rfl rfl rfl (Nat.le_of_ble_eq_true rfl) (Nat.le_refl _) (Nat.le_refl _) dX9_winter_90 (fun r_90 u_90 p_90 => ?_)
      obtain ⟨rfl, -⟩ := p_90
      show J X 12 0 0 93 [(8, .int (nI dd)), (6, .long (((7919 * ((nI jz).toInt64)) + (6151 * ((nI i).toInt64))) + 1)), (0, .ref q0), (1, .int (nI jz)), (2, .int (nI jn)), (3, .int p2), (4, .int (nI sc)), (5, .int (nI i))] [.int (nI (ro * co)), .int (nI dd)] [(q0, .inr (9, [.int (nI ro), .int (nI co), .int sl, .ref q3, .ref q4, .int sn, .ref q6, .ref q7, .ref q8, .ref q9, .int ts, .int ra, .int rr, .int rw, .ref q14, .ref q15, .int rn, .ref q17, .ref q18, .ref q19, .int um, .int bs, .int bh, .ref q23, .ref q24, .ref q25, .int km])), (q3, .inl (cI, 48, .inl t1)), (q4, .inl (cI, 48, .inl m1)), (q17, .inl (cI, 8, .inl ce1)), (q18, .inl (cI, 8, .inl se1)), (q24, .inl (cI, 97, .inl (noteA 0 sl th mo as)))]
      refine N_irem h (by omega) (by omega) (by omega) dX9_winter_93 ?_
      obtain ⟨qm, eqm⟩ : ∃ z, z = dd % (ro * co) := ⟨_, rfl⟩
      have hqm : qm < ro * co := by rw [eqm]; exact Nat.mod_lt dd hr0
      refine J_eqs (st' := [.int (nI qm)]) (by rw [eqm]) ?_
      refine J_istore h (lv' := [(9, .int (nI qm)), (8, .int (nI dd)), (6, .long (((7919 * ((nI jz).toInt64)) + (6151 * ((nI i).toInt64))) + 1)), (0, .ref q0), (1, .int (nI jz)), (2, .int (nI jn)), (3, .int p2), (4, .int (nI sc)), (5, .int (nI i))]) dX9_winter_94 (by decide) rfl ?_
      refine J_iload h dX9_winter_96 1 rfl ?_
      refine J_bipush h (v := nI 64) dX9_winter_98 (by decide) ?_
      refine N_idiv h (by omega) (by omega) (by omega) dX9_winter_100 ?_
      refine J_iconst h (v := nI 4) dX9_winter_101 (by decide) ?_
      refine N_irem h (by omega) (by omega) (by omega) dX9_winter_102 ?_
      refine J_istore h (lv' := [(10, .int (nI ((dd / 64) % 4))), (9, .int (nI qm)), (8, .int (nI dd)), (6, .long (((7919 * ((nI jz).toInt64)) + (6151 * ((nI i).toInt64))) + 1)), (0, .ref q0), (1, .int (nI jz)), (2, .int (nI jn)), (3, .int p2), (4, .int (nI sc)), (5, .int (nI i))]) dX9_winter_103 (by decide) rfl ?_
      refine J_iload h dX9_winter_105 0 rfl ?_
      refine N_if_ne h 128 dX9_winter_107 (by decide) (by omega) (fun c_107 => ?_) (fun c_107 => ?_)
      · skip
        refine J_iload h dX9_winter_128 0 rfl ?_
        refine J_iconst h (v := nI 1) dX9_winter_130 (by decide) ?_
        refine N_icmp_ne h 148 dX9_winter_131 (by decide) (by omega) (by omega) (fun c_131 => ?_) (fun c_131 => ?_)
        · skip
          refine J_aload_n h (i := 0) dX9_winter_148 rfl 4 rfl ?_
          refine J_iload h dX9_winter_149 1 rfl ?_
          refine J_aload_n h (i := 0) dX9_winter_151 rfl 4 rfl ?_
          refine J_get h inX9 rfl 0 1 (by decide) rfl rfl nf_X9_52 dX9_winter_152 ?_
          refine N_irem h (by omega) (by omega) (by omega) dX9_winter_155 ?_
          obtain ⟨qx, eqx⟩ : ∃ z, z = qm % co := ⟨_, rfl⟩
          have hqx : qx < co := by rw [eqx]; exact Nat.mod_lt _ hc0
          refine J_eqs (st' := [.int (nI qx), .ref q0]) (by rw [eqx]) ?_
          refine J_iload h dX9_winter_156 2 rfl ?_
          refine J_sipush h (v := nI 256) dX9_winter_158 (by decide) ?_
          refine N_idiv h (by omega) (by omega) (by omega) dX9_winter_161 ?_
          refine J_bipush h (v := nI 20) dX9_winter_162 (by decide) ?_
          refine N_irem h (by omega) (by omega) (by omega) dX9_winter_164 ?_
          refine J_iconst h (v := nI 1) dX9_winter_165 (by decide) ?_
          refine N_iadd h dX9_winter_166 ?_
          refine J_iconst h (v := nI 0) dX9_winter_167 (by decide) ?_
          refine J.wld [0, 1, 3, 4, 2, 5] (ws' := [(q0, .inr (9, [.int (nI ro), .int (nI co), .int sl, .ref q3, .ref q4, .int sn, .ref q6, .ref q7, .ref q8, .ref q9, .int ts, .int ra, .int rr, .int rw, .ref q14, .ref q15, .int rn, .ref q17, .ref q18, .ref q19, .int um, .int bs, .int bh, .ref q23, .ref q24, .ref q25, .int km])), (q3, .inl (cI, 48, .inl t1)), (q17, .inl (cI, 8, .inl ce1)), (q18, .inl (cI, 8, .inl se1)), (q4, .inl (cI, 48, .inl m1)), (q24, .inl (cI, 97, .inl (noteA 0 sl th mo as)))]) rfl rfl ?_
          refine K_vi h (wr := [(q4, .inl (cI, 48, .inl m1)), (q24, .inl (cI, 97, .inl (noteA 0 sl th mo as)))]) (c_X9_goes (xl X) (xD X) cI cE q0 q3 q4 q6 q7 q8 q9 q14 q15 q17 q18 q19 q23 q24 q25 ro co sl sn ts ra rr rw rn um bs bh km t1 ce1 se1 wt qx (((dd / 256) % 20) + 1) 0 (by first | exact hrc |  assumption | omega | rfl) (by first | exact hco |  assumption | omega | rfl) (by first | exact hro |  assumption | omega | rfl) (by first | assumption | omega | rfl) (by first | assumption | omega | rfl) (by first | assumption | omega | rfl) (by exact rel_T hrl)) yv_X9_goes nm_X9_137 (by decide) (by decide) rfl rfl 0 rfl rfl rfl rfl (Nat.le_of_ble_eq_true rfl) (Nat.le_refl _) (Nat.le_refl _) dX9_winter_168 (fun r_168 u_168 p_168 => ?_)
          obtain ⟨ce2_168, se2_168⟩ := u_168
          try dsimp only at p_168
          obtain ⟨rfl, f0_168, f1_168, f2_168, f3_168, -⟩ := p_168
          show J X 12 0 0 171 [(10, .int (nI ((dd / 64) % 4))), (9, .int (nI qm)), (8, .int (nI dd)), (6, .long (((7919 * ((nI jz).toInt64)) + (6151 * ((nI i).toInt64))) + 1)), (0, .ref q0), (1, .int (nI jz)), (2, .int (nI jn)), (3, .int p2), (4, .int (nI sc)), (5, .int (nI i))] [.int (nI (ren wt co ro 0 qx (((dd / 256) % 20) + 1)))] [(q0, .inr (9, [.int (nI ro), .int (nI co), .int sl, .ref q3, .ref q4, .int sn, .ref q6, .ref q7, .ref q8, .ref q9, .int ts, .int ra, .int rr, .int rw, .ref q14, .ref q15, .int rn, .ref q17, .ref q18, .ref q19, .int um, .int bs, .int bh, .ref q23, .ref q24, .ref q25, .int km])), (q3, .inl (cI, 48, .inl t1)), (q17, .inl (cI, 8, .inl ce2_168)), (q18, .inl (cI, 8, .inl se2_168)), (q4, .inl (cI, 48, .inl m1)), (q24, .inl (cI, 97, .inl (noteA 0 sl th mo as)))]
          have hrn := ren_lt wt (ro := ro) (hh := 0) (w := dd / 256 % 20 + 1) hrc hqx (by omega)
          refine J_istore h (lv' := [(11, .int (nI (ren wt co ro 0 qx (((dd / 256) % 20) + 1)))), (10, .int (nI ((dd / 64) % 4))), (9, .int (nI qm)), (8, .int (nI dd)), (6, .long (((7919 * ((nI jz).toInt64)) + (6151 * ((nI i).toInt64))) + 1)), (0, .ref q0), (1, .int (nI jz)), (2, .int (nI jn)), (3, .int p2), (4, .int (nI sc)), (5, .int (nI i))]) dX9_winter_171 (by decide) rfl ?_
          refine J_aload_n h (i := 0) dX9_winter_173 rfl 5 rfl ?_
          refine J_iload h dX9_winter_174 3 rfl ?_
          refine J_bipush h (v := nI 16) dX9_winter_176 (by decide) ?_
          refine N_idiv h (by omega) (by omega) (by omega) dX9_winter_178 ?_
          refine J_iconst h (v := nI 4) dX9_winter_179 (by decide) ?_
          refine N_irem h (by omega) (by omega) (by omega) dX9_winter_180 ?_
          refine J.wld [0, 1, 4, 2, 3, 5] (ws' := [(q0, .inr (9, [.int (nI ro), .int (nI co), .int sl, .ref q3, .ref q4, .int sn, .ref q6, .ref q7, .ref q8, .ref q9, .int ts, .int ra, .int rr, .int rw, .ref q14, .ref q15, .int rn, .ref q17, .ref q18, .ref q19, .int um, .int bs, .int bh, .ref q23, .ref q24, .ref q25, .int km])), (q3, .inl (cI, 48, .inl t1)), (q4, .inl (cI, 48, .inl m1)), (q17, .inl (cI, 8, .inl ce2_168)), (q18, .inl (cI, 8, .inl se2_168)), (q24, .inl (cI, 97, .inl (noteA 0 sl th mo as)))]) rfl rfl ?_
          refine K_vv h (wr := [(q24, .inl (cI, 97, .inl (noteA 0 sl th mo as)))]) (c_X9_gives (xl X) (xD X) cI cE q0 q3 q4 q6 q7 q8 q9 q14 q15 q17 q18 q19 q23 q24 q25 ro co sl sn ts ra rr rw rn um bs bh km t1 m1 ce2_168 se2_168 wt wo (nI ((dd / 16) % 4)) (rcl wt co 0 qx (dd / 256 % 20 + 1)) (rln wt co ro 0 qx (dd / 256 % 20 + 1)) (by first | exact hrc |  assumption | omega | rfl) (by first | exact hco |  assumption | omega | rfl) (by first | exact hro |  assumption | omega | rfl) (by exact hrl) (by intro k hk; exact ⟨f0_168 k hk, rcl_lt wt hqx (by omega) (Nat.lt_of_lt_of_le hk (rln_le _ _ _ _ _ _))⟩) (by exact f2_168) (by exact rln_le _ _ _ _ _ _) (by have hti := tiI (j := dd / 16 % 4) (by omega); omega)) yv_X9_gives nm_X9_155 (by decide) (by decide) rfl rfl 0 rfl rfl rfl rfl (Nat.le_of_ble_eq_true rfl) (Nat.le_refl _) (Nat.le_refl _) dX9_winter_181 (fun u_181 p_181 => ?_)
          obtain ⟨mo2_181, rfl⟩ : ∃ z, z = u_181 := ⟨_, rfl⟩
          obtain ⟨f0_181, -⟩ := p_181
          show J X 12 0 0 184 [(11, .int (nI (ren wt co ro 0 qx (((dd / 256) % 20) + 1)))), (10, .int (nI ((dd / 64) % 4))), (9, .int (nI qm)), (8, .int (nI dd)), (6, .long (((7919 * ((nI jz).toInt64)) + (6151 * ((nI i).toInt64))) + 1)), (0, .ref q0), (1, .int (nI jz)), (2, .int (nI jn)), (3, .int p2), (4, .int (nI sc)), (5, .int (nI i))] [] [(q0, .inr (9, [.int (nI ro), .int (nI co), .int sl, .ref q3, .ref q4, .int sn, .ref q6, .ref q7, .ref q8, .ref q9, .int ts, .int ra, .int rr, .int rw, .ref q14, .ref q15, .int rn, .ref q17, .ref q18, .ref q19, .int um, .int bs, .int bh, .ref q23, .ref q24, .ref q25, .int km])), (q3, .inl (cI, 48, .inl t1)), (q4, .inl (cI, 48, .inl mo2_181)), (q17, .inl (cI, 8, .inl ce2_168)), (q18, .inl (cI, 8, .inl se2_168)), (q24, .inl (cI, 97, .inl (noteA 0 sl th mo as)))]
          refine J_iload h dX9_winter_184 9 rfl ?_
          refine J_iload h dX9_winter_186 0 rfl ?_
          refine J_bipush h (v := nI 99) dX9_winter_188 (by decide) ?_
          refine N_icmp_ne h 197 dX9_winter_190 (by decide) (by omega) (by omega) (fun c_190 => ?_) (fun c_190 => ?_)
          · skip
            refine J_iconst h (v := nI 0) dX9_winter_197 (by decide) ?_
            refine N_iadd h dX9_winter_198 ?_
            refine J_istore h (lv' := [(4, .int (nI (sc + 0))), (11, .int (nI (ren wt co ro 0 qx (((dd / 256) % 20) + 1)))), (10, .int (nI ((dd / 64) % 4))), (9, .int (nI qm)), (8, .int (nI dd)), (6, .long (((7919 * ((nI jz).toInt64)) + (6151 * ((nI i).toInt64))) + 1)), (0, .ref q0), (1, .int (nI jz)), (2, .int (nI jn)), (3, .int p2), (5, .int (nI i))]) dX9_winter_199 (by decide) rfl ?_
            refine J_iinc h (v := nI (i + 1)) (lv' := [(5, .int (nI (i + 1))), (4, .int (nI (sc + 0))), (11, .int (nI (ren wt co ro 0 qx (((dd / 256) % 20) + 1)))), (10, .int (nI ((dd / 64) % 4))), (9, .int (nI qm)), (8, .int (nI dd)), (6, .long (((7919 * ((nI jz).toInt64)) + (6151 * ((nI i).toInt64))) + 1)), (0, .ref q0), (1, .int (nI jz)), (2, .int (nI jn)), (3, .int p2)]) dX9_winter_201 10 rfl (inc_ok _ 1) (by decide) rfl ?_
            refine J_goto h 47 dX9_winter_204 (by decide) ?_
            refine J.loc [7, 8, 9, 10, 1, 0] (lv' := [(0, .ref q0), (1, .int (nI jz)), (2, .int (nI jn)), (3, .int p2), (4, .int (nI (sc + 0))), (5, .int (nI (i + 1)))]) rfl ?_
            exact ih_47 (i + 1) (sc + 0) jz jn t1 mo2_181 (wTh co ro wt dd) (wOw co ro wt wo dd) ce2_168 se2_168 (by first | exact hi |  assumption | omega | rfl) (by first | exact hjz |  assumption | omega | rfl) (by first | exact hjn |  assumption | omega | rfl) (by first | exact e0 |  assumption | omega | rfl) (by first | exact e1 |  assumption | omega | rfl) (by first | exact hv |  assumption | omega | rfl) (by rw [ht, hdd]; rfl) (by rw [ht, ho, hdd]; rfl) (by unfold wTh wOw; first | (rw [if_pos c_107, if_pos c_107, ← eqm]; have hti := tiI (j := dd / 256 % 4) (by omega); exact rel_updT hrl _ (by omega) (by omega)) | (rw [if_neg c_107, if_neg c_107, if_pos c_131, if_pos c_131, ← eqm, ← eqr]; exact rel_fz hrl _ _) | (rw [if_neg c_107, if_neg c_107, if_neg c_131, if_neg c_131, ← eqm, ← eqx]; exact f0_181)) (by exact .mk (by have e := hs.eq; rw [wnt]; show _ = (wnt co ro jz cth cow i).2.2 + wSe co ro (wnt co ro jz cth cow i).1 (drw jz i); rw [← ht, ← hdd]; unfold wSe; first | (rw [if_pos c_107]; omega) | (rw [if_neg c_107, if_pos c_131]; omega) | (rw [if_neg c_107, if_neg c_131, ← eqm, ← eqx, if_pos c_190]; omega) | (rw [if_neg c_107, if_neg c_131, ← eqm, ← eqx, if_neg c_190]; omega))) (by first | exact hsb |  assumption | omega | rfl) (by omega)
          · skip
            refine J_iconst h (v := nI 1) dX9_winter_193 (by decide) ?_
            refine J_goto h 198 dX9_winter_194 (by decide) ?_
            refine N_iadd h dX9_winter_198 ?_
            refine J_istore h (lv' := [(4, .int (nI (sc + 1))), (11, .int (nI (ren wt co ro 0 qx (((dd / 256) % 20) + 1)))), (10, .int (nI ((dd / 64) % 4))), (9, .int (nI qm)), (8, .int (nI dd)), (6, .long (((7919 * ((nI jz).toInt64)) + (6151 * ((nI i).toInt64))) + 1)), (0, .ref q0), (1, .int (nI jz)), (2, .int (nI jn)), (3, .int p2), (5, .int (nI i))]) dX9_winter_199 (by decide) rfl ?_
            refine J_iinc h (v := nI (i + 1)) (lv' := [(5, .int (nI (i + 1))), (4, .int (nI (sc + 1))), (11, .int (nI (ren wt co ro 0 qx (((dd / 256) % 20) + 1)))), (10, .int (nI ((dd / 64) % 4))), (9, .int (nI qm)), (8, .int (nI dd)), (6, .long (((7919 * ((nI jz).toInt64)) + (6151 * ((nI i).toInt64))) + 1)), (0, .ref q0), (1, .int (nI jz)), (2, .int (nI jn)), (3, .int p2)]) dX9_winter_201 10 rfl (inc_ok _ 1) (by decide) rfl ?_
            refine J_goto h 47 dX9_winter_204 (by decide) ?_
            refine J.loc [7, 8, 9, 10, 1, 0] (lv' := [(0, .ref q0), (1, .int (nI jz)), (2, .int (nI jn)), (3, .int p2), (4, .int (nI (sc + 1))), (5, .int (nI (i + 1)))]) rfl ?_
            exact ih_47 (i + 1) (sc + 1) jz jn t1 mo2_181 (wTh co ro wt dd) (wOw co ro wt wo dd) ce2_168 se2_168 (by first | exact hi |  assumption | omega | rfl) (by first | exact hjz |  assumption | omega | rfl) (by first | exact hjn |  assumption | omega | rfl) (by first | exact e0 |  assumption | omega | rfl) (by first | exact e1 |  assumption | omega | rfl) (by first | exact hv |  assumption | omega | rfl) (by rw [ht, hdd]; rfl) (by rw [ht, ho, hdd]; rfl) (by unfold wTh wOw; first | (rw [if_pos c_107, if_pos c_107, ← eqm]; have hti := tiI (j := dd / 256 % 4) (by omega); exact rel_updT hrl _ (by omega) (by omega)) | (rw [if_neg c_107, if_neg c_107, if_pos c_131, if_pos c_131, ← eqm, ← eqr]; exact rel_fz hrl _ _) | (rw [if_neg c_107, if_neg c_107, if_neg c_131, if_neg c_131, ← eqm, ← eqx]; exact f0_181)) (by exact .mk (by have e := hs.eq; rw [wnt]; show _ = (wnt co ro jz cth cow i).2.2 + wSe co ro (wnt co ro jz cth cow i).1 (drw jz i); rw [← ht, ← hdd]; unfold wSe; first | (rw [if_pos c_107]; omega) | (rw [if_neg c_107, if_pos c_131]; omega) | (rw [if_neg c_107, if_neg c_131, ← eqm, ← eqx, if_pos c_190]; omega) | (rw [if_neg c_107, if_neg c_131, ← eqm, ← eqx, if_neg c_190]; omega))) (by first | exact hsb |  assumption | omega | rfl) (by omega)
        · skip
          refine J_aload_n h (i := 0) dX9_winter_134 rfl 4 rfl ?_
          refine J_iload h dX9_winter_135 1 rfl ?_
          refine J_aload_n h (i := 0) dX9_winter_137 rfl 4 rfl ?_
          refine J_get h inX9 rfl 0 1 (by decide) rfl rfl nf_X9_52 dX9_winter_138 ?_
          refine N_idiv h (by omega) (by omega) (by omega) dX9_winter_141 ?_
          obtain ⟨qr, eqr⟩ : ∃ z, z = qm / co := ⟨_, rfl⟩
          have hqr : qr < ro := by rw [eqr]; exact (Nat.div_lt_iff_lt_mul hc0).mpr hqm
          refine J_eqs (st' := [.int (nI qr), .ref q0]) (by rw [eqr]) ?_
          refine K_vv h (wr := [(q4, .inl (cI, 48, .inl m1)), (q17, .inl (cI, 8, .inl ce1)), (q18, .inl (cI, 8, .inl se1)), (q24, .inl (cI, 97, .inl (noteA 0 sl th mo as)))]) (c_X9_freezes (xl X) (xD X) cI cE q0 q3 q4 q6 q7 q8 q9 q14 q15 q17 q18 q19 q23 q24 q25 ro co sl sn ts ra rr rw rn um bs bh km t1 qr (by first | exact hrc |  assumption | omega | rfl) (by first | exact hco |  assumption | omega | rfl) (by first | exact hro |  assumption | omega | rfl) (by first | assumption | omega | rfl)) yv_X9_freezes nm_X9_164 (by decide) (by decide) rfl rfl 0 rfl rfl rfl rfl (Nat.le_of_ble_eq_true rfl) (Nat.le_refl _) (Nat.le_refl _) dX9_winter_142 (fun u_142 p_142 => ?_)
          show J X 12 0 0 145 [(10, .int (nI ((dd / 64) % 4))), (9, .int (nI qm)), (8, .int (nI dd)), (6, .long (((7919 * ((nI jz).toInt64)) + (6151 * ((nI i).toInt64))) + 1)), (0, .ref q0), (1, .int (nI jz)), (2, .int (nI jn)), (3, .int p2), (4, .int (nI sc)), (5, .int (nI i))] [] [(q0, .inr (9, [.int (nI ro), .int (nI co), .int sl, .ref q3, .ref q4, .int sn, .ref q6, .ref q7, .ref q8, .ref q9, .int ts, .int ra, .int rr, .int rw, .ref q14, .ref q15, .int rn, .ref q17, .ref q18, .ref q19, .int um, .int bs, .int bh, .ref q23, .ref q24, .ref q25, .int km])), (q3, .inl (cI, 48, .inl (sgm (qr * co) co fz t1))), (q4, .inl (cI, 48, .inl m1)), (q17, .inl (cI, 8, .inl ce1)), (q18, .inl (cI, 8, .inl se1)), (q24, .inl (cI, 97, .inl (noteA 0 sl th mo as)))]
          refine J_goto h 201 dX9_winter_145 (by decide) ?_
          refine J_iinc h (v := nI (i + 1)) (lv' := [(5, .int (nI (i + 1))), (10, .int (nI ((dd / 64) % 4))), (9, .int (nI qm)), (8, .int (nI dd)), (6, .long (((7919 * ((nI jz).toInt64)) + (6151 * ((nI i).toInt64))) + 1)), (0, .ref q0), (1, .int (nI jz)), (2, .int (nI jn)), (3, .int p2), (4, .int (nI sc))]) dX9_winter_201 9 rfl (inc_ok _ 1) (by decide) rfl ?_
          refine J_goto h 47 dX9_winter_204 (by decide) ?_
          refine J.loc [5, 6, 7, 8, 9, 0] (lv' := [(0, .ref q0), (1, .int (nI jz)), (2, .int (nI jn)), (3, .int p2), (4, .int (nI sc)), (5, .int (nI (i + 1)))]) rfl ?_
          exact ih_47 (i + 1) sc jz jn (sgm (qr * co) co fz t1) m1 (wTh co ro wt dd) (wOw co ro wt wo dd) ce1 se1 (by first | exact hi |  assumption | omega | rfl) (by first | exact hjz |  assumption | omega | rfl) (by first | exact hjn |  assumption | omega | rfl) (by first | exact e0 |  assumption | omega | rfl) (by first | exact e1 |  assumption | omega | rfl) (by first | exact hv |  assumption | omega | rfl) (by rw [ht, hdd]; rfl) (by rw [ht, ho, hdd]; rfl) (by unfold wTh wOw; first | (rw [if_pos c_107, if_pos c_107, ← eqm]; have hti := tiI (j := dd / 256 % 4) (by omega); exact rel_updT hrl _ (by omega) (by omega)) | (rw [if_neg c_107, if_neg c_107, if_pos c_131, if_pos c_131, ← eqm, ← eqr]; exact rel_fz hrl _ _) | (rw [if_neg c_107, if_neg c_107, if_neg c_131, if_neg c_131, ← eqm, ← eqx]; exact f0_181)) (by exact .mk (by have e := hs.eq; rw [wnt]; show _ = (wnt co ro jz cth cow i).2.2 + wSe co ro (wnt co ro jz cth cow i).1 (drw jz i); rw [← ht, ← hdd]; unfold wSe; first | (rw [if_pos c_107]; omega) | (rw [if_neg c_107, if_pos c_131]; omega) | (rw [if_neg c_107, if_neg c_131, ← eqm, ← eqx, if_pos c_190]; omega) | (rw [if_neg c_107, if_neg c_131, ← eqm, ← eqx, if_neg c_190]; omega))) (by first | exact hsb |  assumption | omega | rfl) (by omega)
      · skip
        refine J_aload_n h (i := 0) dX9_winter_110 rfl 4 rfl ?_
        refine J_get h inX9 rfl 0 3 (by decide) rfl rfl nf_X9_7 dX9_winter_111 ?_
        refine J_iload h dX9_winter_114 1 rfl ?_
        refine J_iload h dX9_winter_116 2 rfl ?_
        refine J_sipush h (v := nI 256) dX9_winter_118 (by decide) ?_
        refine N_idiv h (by omega) (by omega) (by omega) dX9_winter_121 ?_
        refine J_iconst h (v := nI 4) dX9_winter_122 (by decide) ?_
        refine N_irem h (by omega) (by omega) (by omega) dX9_winter_123 ?_
        refine N_iast h (ws' := [(q0, .inr (9, [.int (nI ro), .int (nI co), .int sl, .ref q3, .ref q4, .int sn, .ref q6, .ref q7, .ref q8, .ref q9, .int ts, .int ra, .int rr, .int rw, .ref q14, .ref q15, .int rn, .ref q17, .ref q18, .ref q19, .int um, .int bs, .int bh, .ref q23, .ref q24, .ref q25, .int km])), (q3, .inl (cI, 48, .inl (upd t1 qm (nI ((dd / 256) % 4))))), (q4, .inl (cI, 48, .inl m1)), (q17, .inl (cI, 8, .inl ce1)), (q18, .inl (cI, 8, .inl se1)), (q24, .inl (cI, 97, .inl (noteA 0 sl th mo as)))]) 1 rfl (by decide) (by omega) dX9_winter_124 rfl ?_
        refine J_goto h 201 dX9_winter_125 (by decide) ?_
        refine J_iinc h (v := nI (i + 1)) (lv' := [(5, .int (nI (i + 1))), (10, .int (nI ((dd / 64) % 4))), (9, .int (nI qm)), (8, .int (nI dd)), (6, .long (((7919 * ((nI jz).toInt64)) + (6151 * ((nI i).toInt64))) + 1)), (0, .ref q0), (1, .int (nI jz)), (2, .int (nI jn)), (3, .int p2), (4, .int (nI sc))]) dX9_winter_201 9 rfl (inc_ok _ 1) (by decide) rfl ?_
        refine J_goto h 47 dX9_winter_204 (by decide) ?_
        refine J.loc [5, 6, 7, 8, 9, 0] (lv' := [(0, .ref q0), (1, .int (nI jz)), (2, .int (nI jn)), (3, .int p2), (4, .int (nI sc)), (5, .int (nI (i + 1)))]) rfl ?_
        exact ih_47 (i + 1) sc jz jn (upd t1 qm (nI ((dd / 256) % 4))) m1 (wTh co ro wt dd) (wOw co ro wt wo dd) ce1 se1 (by first | exact hi |  assumption | omega | rfl) (by first | exact hjz |  assumption | omega | rfl) (by first | exact hjn |  assumption | omega | rfl) (by first | exact e0 |  assumption | omega | rfl) (by first | exact e1 |  assumption | omega | rfl) (by first | exact hv |  assumption | omega | rfl) (by rw [ht, hdd]; rfl) (by rw [ht, ho, hdd]; rfl) (by unfold wTh wOw; first | (rw [if_pos c_107, if_pos c_107, ← eqm]; have hti := tiI (j := dd / 256 % 4) (by omega); exact rel_updT hrl _ (by omega) (by omega)) | (rw [if_neg c_107, if_neg c_107, if_pos c_131, if_pos c_131, ← eqm, ← eqr]; exact rel_fz hrl _ _) | (rw [if_neg c_107, if_neg c_107, if_neg c_131, if_neg c_131, ← eqm, ← eqx]; exact f0_181)) (by exact .mk (by have e := hs.eq; rw [wnt]; show _ = (wnt co ro jz cth cow i).2.2 + wSe co ro (wnt co ro jz cth cow i).1 (drw jz i); rw [← ht, ← hdd]; unfold wSe; first | (rw [if_pos c_107]; omega) | (rw [if_neg c_107, if_pos c_131]; omega) | (rw [if_neg c_107, if_neg c_131, ← eqm, ← eqx, if_pos c_190]; omega) | (rw [if_neg c_107, if_neg c_131, ← eqm, ← eqx, if_neg c_190]; omega))) (by first | exact hsb |  assumption | omega | rfl) (by omega)
set_option maxRecDepth 100000 in
set_option maxHeartbeats 4000000 in
theorem w_X9_winter (X : Cx) {cI cE : ClassId} (h : Ok X cX9_winter RX9 12 cI cE 3 0 0) (q0 : Nat) (q3 : Nat) (q4 : Nat) (q6 : Nat) (q7 : Nat) (q8 : Nat) (q9 : Nat) (q14 : Nat) (q15 : Nat) (q17 : Nat) (q18 : Nat) (q19 : Nat) (q23 : Nat) (q24 : Nat) (q25 : Nat) (ro : Nat) (co : Nat) (sl : Int32) (sn : Int32) (ts : Int32) (ra : Int32) (rr : Int32) (rw : Int32) (rn : Int32) (um : Int32) (bs : Int32) (bh : Int32) (km : Int32) (th : Nat → Int32) (mo : Nat → Int32) (ce : Nat → Int32) (se : Nat → Int32) (as : Nat → Int32) (cth : Nat → Int32) (cow : Nat → Int32) (p0 : Int32) (p1 : Int32) (p2 : Int32) (hrc : ro * co ≤ 48) (hco : co ≤ 6) (hro : ro ≤ 8) (hrel : rel (ro * co) th mo cth cow) (hc0 : 0 < co) (hr0 : 0 < ro * co) (hR : ∀ (r : Int32) (u : (Nat → Int32) × (Nat → Int32) × (Nat → Int32)), ((fWinter cth cow co ro p0 p1 p2 = r) ∧ (True)) → RetI X cX9_winter 12 0 0 r [(q0, .inr (9, [.int (nI ro), .int (nI co), .int sl, .ref q3, .ref q4, .int sn, .ref q6, .ref q7, .ref q8, .ref q9, .int ts, .int ra, .int rr, .int rw, .ref q14, .ref q15, .int rn, .ref q17, .ref q18, .ref q19, .int um, .int bs, .int bh, .ref q23, .ref q24, .ref q25, .int km])), (q3, .inl (cI, 48, .inl th)), (q4, .inl (cI, 48, .inl mo)), (q17, .inl (cI, 8, .inl u.1)), (q18, .inl (cI, 8, .inl u.2.1)), (q24, .inl (cI, 97, .inl u.2.2))]) : J X 12 0 0 0 [(0, .ref q0), (1, .int p0), (2, .int p1), (3, .int p2)] [] [(q0, .inr (9, [.int (nI ro), .int (nI co), .int sl, .ref q3, .ref q4, .int sn, .ref q6, .ref q7, .ref q8, .ref q9, .int ts, .int ra, .int rr, .int rw, .ref q14, .ref q15, .int rn, .ref q17, .ref q18, .ref q19, .int um, .int bs, .int bh, .ref q23, .ref q24, .ref q25, .int km])), (q3, .inl (cI, 48, .inl th)), (q4, .inl (cI, 48, .inl mo)), (q17, .inl (cI, 8, .inl ce)), (q18, .inl (cI, 8, .inl se)), (q24, .inl (cI, 97, .inl as))] := by
  refine J_iload_n h (i := 1) dX9_winter_0 rfl 1 rfl ?_
  refine J_iconst h (v := nI 0) dX9_winter_1 (by decide) ?_
  refine J_sipush h (v := nI 9999) dX9_winter_2 (by decide) ?_
  refine K_si h (wr := [(q0, .inr (9, [.int (nI ro), .int (nI co), .int sl, .ref q3, .ref q4, .int sn, .ref q6, .ref q7, .ref q8, .ref q9, .int ts, .int ra, .int rr, .int rw, .ref q14, .ref q15, .int rn, .ref q17, .ref q18, .ref q19, .int um, .int bs, .int bh, .ref q23, .ref q24, .ref q25, .int km])), (q3, .inl (cI, 48, .inl th)), (q4, .inl (cI, 48, .inl mo)), (q17, .inl (cI, 8, .inl ce)), (q18, .inl (cI, 8, .inl se)), (q24, .inl (cI, 97, .inl as))]) (c_X9_in (xl X) (xD X) cI cE p0 (nI 0) (nI 9999) ((p0).toInt) 0 9999 (by exact rfl) (by exact nI_toInt (by omega)) (by exact nI_toInt (by omega))) yv_X9_in nm_X9_67 (by decide) (by decide) rfl rfl rfl (Nat.le_of_ble_eq_true rfl) (Nat.le_refl _) (Nat.le_refl _) dX9_winter_5 (fun r_5 u_5 p_5 => ?_)
  rcases p_5 with p_5 | p_5
  · obtain ⟨rfl, f0_5, -⟩ := p_5
    show J X 12 0 0 8 [(0, .ref q0), (1, .int p0), (2, .int p1), (3, .int p2)] [.int (nI 1)] [(q0, .inr (9, [.int (nI ro), .int (nI co), .int sl, .ref q3, .ref q4, .int sn, .ref q6, .ref q7, .ref q8, .ref q9, .int ts, .int ra, .int rr, .int rw, .ref q14, .ref q15, .int rn, .ref q17, .ref q18, .ref q19, .int um, .int bs, .int bh, .ref q23, .ref q24, .ref q25, .int km])), (q3, .inl (cI, 48, .inl th)), (q4, .inl (cI, 48, .inl mo)), (q17, .inl (cI, 8, .inl ce)), (q18, .inl (cI, 8, .inl se)), (q24, .inl (cI, 97, .inl as))]
    refine J_if_eq h 30 dX9_winter_8 (by decide) (fun z => absurd z (by decide)) (fun _ => ?_)
    refine J_iload_n h (i := 2) dX9_winter_11 rfl 2 rfl ?_
    refine J_iconst h (v := nI 1) dX9_winter_12 (by decide) ?_
    refine J_bipush h (v := nI 60) dX9_winter_13 (by decide) ?_
    refine K_si h (wr := [(q0, .inr (9, [.int (nI ro), .int (nI co), .int sl, .ref q3, .ref q4, .int sn, .ref q6, .ref q7, .ref q8, .ref q9, .int ts, .int ra, .int rr, .int rw, .ref q14, .ref q15, .int rn, .ref q17, .ref q18, .ref q19, .int um, .int bs, .int bh, .ref q23, .ref q24, .ref q25, .int km])), (q3, .inl (cI, 48, .inl th)), (q4, .inl (cI, 48, .inl mo)), (q17, .inl (cI, 8, .inl ce)), (q18, .inl (cI, 8, .inl se)), (q24, .inl (cI, 97, .inl as))]) (c_X9_in (xl X) (xD X) cI cE p1 (nI 1) (nI 60) ((p1).toInt) 1 60 (by exact rfl) (by exact nI_toInt (by omega)) (by exact nI_toInt (by omega))) yv_X9_in nm_X9_67 (by decide) (by decide) rfl rfl rfl (Nat.le_of_ble_eq_true rfl) (Nat.le_refl _) (Nat.le_refl _) dX9_winter_15 (fun r_15 u_15 p_15 => ?_)
    rcases p_15 with p_15 | p_15
    · obtain ⟨rfl, f0_15, -⟩ := p_15
      show J X 12 0 0 18 [(0, .ref q0), (1, .int p0), (2, .int p1), (3, .int p2)] [.int (nI 1)] [(q0, .inr (9, [.int (nI ro), .int (nI co), .int sl, .ref q3, .ref q4, .int sn, .ref q6, .ref q7, .ref q8, .ref q9, .int ts, .int ra, .int rr, .int rw, .ref q14, .ref q15, .int rn, .ref q17, .ref q18, .ref q19, .int um, .int bs, .int bh, .ref q23, .ref q24, .ref q25, .int km])), (q3, .inl (cI, 48, .inl th)), (q4, .inl (cI, 48, .inl mo)), (q17, .inl (cI, 8, .inl ce)), (q18, .inl (cI, 8, .inl se)), (q24, .inl (cI, 97, .inl as))]
      refine J_if_eq h 30 dX9_winter_18 (by decide) (fun z => absurd z (by decide)) (fun _ => ?_)
      refine J_iload_n h (i := 3) dX9_winter_21 rfl 3 rfl ?_
      refine J_iconst h (v := nI 0) dX9_winter_22 (by decide) ?_
      refine J_iconst h (v := nI 2) dX9_winter_23 (by decide) ?_
      refine K_si h (wr := [(q0, .inr (9, [.int (nI ro), .int (nI co), .int sl, .ref q3, .ref q4, .int sn, .ref q6, .ref q7, .ref q8, .ref q9, .int ts, .int ra, .int rr, .int rw, .ref q14, .ref q15, .int rn, .ref q17, .ref q18, .ref q19, .int um, .int bs, .int bh, .ref q23, .ref q24, .ref q25, .int km])), (q3, .inl (cI, 48, .inl th)), (q4, .inl (cI, 48, .inl mo)), (q17, .inl (cI, 8, .inl ce)), (q18, .inl (cI, 8, .inl se)), (q24, .inl (cI, 97, .inl as))]) (c_X9_in (xl X) (xD X) cI cE p2 (nI 0) (nI 2) ((p2).toInt) 0 2 (by exact rfl) (by exact nI_toInt (by omega)) (by exact nI_toInt (by omega))) yv_X9_in nm_X9_67 (by decide) (by decide) rfl rfl rfl (Nat.le_of_ble_eq_true rfl) (Nat.le_refl _) (Nat.le_refl _) dX9_winter_24 (fun r_24 u_24 p_24 => ?_)
      rcases p_24 with p_24 | p_24
      · obtain ⟨rfl, f0_24, -⟩ := p_24
        show J X 12 0 0 27 [(0, .ref q0), (1, .int p0), (2, .int p1), (3, .int p2)] [.int (nI 1)] [(q0, .inr (9, [.int (nI ro), .int (nI co), .int sl, .ref q3, .ref q4, .int sn, .ref q6, .ref q7, .ref q8, .ref q9, .int ts, .int ra, .int rr, .int rw, .ref q14, .ref q15, .int rn, .ref q17, .ref q18, .ref q19, .int um, .int bs, .int bh, .ref q23, .ref q24, .ref q25, .int km])), (q3, .inl (cI, 48, .inl th)), (q4, .inl (cI, 48, .inl mo)), (q17, .inl (cI, 8, .inl ce)), (q18, .inl (cI, 8, .inl se)), (q24, .inl (cI, 97, .inl as))]
        refine J_if_ne h 32 dX9_winter_27 (by decide) (fun _ => ?_) (fun z => absurd z (by decide))
        obtain ⟨jz, hjz, rfl⟩ := toNI (x := p0) (n := 10000) (by omega) (by omega)
        obtain ⟨jn, hjn, rfl⟩ := toNI (x := p1) (n := 61) (by omega) (by omega)
        refine J_aload_n h (i := 0) dX9_winter_32 rfl 0 rfl ?_
        refine J_aload_n h (i := 0) dX9_winter_33 rfl 0 rfl ?_
        refine J_get h inX9 rfl 0 24 (by decide) rfl rfl nf_X9_46 dX9_winter_34 ?_
        refine J_iconst h (v := nI 0) dX9_winter_37 (by decide) ?_
        refine J.wld [0, 1, 2, 5, 3, 4] (ws' := [(q0, .inr (9, [.int (nI ro), .int (nI co), .int sl, .ref q3, .ref q4, .int sn, .ref q6, .ref q7, .ref q8, .ref q9, .int ts, .int ra, .int rr, .int rw, .ref q14, .ref q15, .int rn, .ref q17, .ref q18, .ref q19, .int um, .int bs, .int bh, .ref q23, .ref q24, .ref q25, .int km])), (q3, .inl (cI, 48, .inl th)), (q4, .inl (cI, 48, .inl mo)), (q24, .inl (cI, 97, .inl as)), (q17, .inl (cI, 8, .inl ce)), (q18, .inl (cI, 8, .inl se))]) rfl rfl ?_
        refine K_vv h (wr := [(q17, .inl (cI, 8, .inl ce)), (q18, .inl (cI, 8, .inl se))]) (c_X9_lays97 (xl X) (xD X) cI cE q0 q3 q4 q6 q7 q8 q9 q14 q15 q17 q18 q19 q23 q24 q25 ro co sl sn ts ra rr rw rn um bs bh km th mo q24 as 0 (by first | assumption | omega | rfl)) yv_X9_lays nm_X9_148 (by decide) (by decide) rfl rfl 0 rfl rfl rfl rfl (Nat.le_of_ble_eq_true rfl) (Nat.le_refl _) (Nat.le_refl _) dX9_winter_38 (fun u_38 p_38 => ?_)
        show J X 12 0 0 41 [(0, .ref q0), (1, .int (nI jz)), (2, .int (nI jn)), (3, .int p2)] [] [(q0, .inr (9, [.int (nI ro), .int (nI co), .int sl, .ref q3, .ref q4, .int sn, .ref q6, .ref q7, .ref q8, .ref q9, .int ts, .int ra, .int rr, .int rw, .ref q14, .ref q15, .int rn, .ref q17, .ref q18, .ref q19, .int um, .int bs, .int bh, .ref q23, .ref q24, .ref q25, .int km])), (q3, .inl (cI, 48, .inl th)), (q4, .inl (cI, 48, .inl mo)), (q24, .inl (cI, 97, .inl (noteA 0 sl th mo as))), (q17, .inl (cI, 8, .inl ce)), (q18, .inl (cI, 8, .inl se))]
        refine J_iconst h (v := nI 0) dX9_winter_41 (by decide) ?_
        refine J_istore h (lv' := [(4, .int (nI 0)), (0, .ref q0), (1, .int (nI jz)), (2, .int (nI jn)), (3, .int p2)]) dX9_winter_42 (by decide) rfl ?_
        refine J_iconst h (v := nI 0) dX9_winter_44 (by decide) ?_
        refine J_istore h (lv' := [(5, .int (nI 0)), (4, .int (nI 0)), (0, .ref q0), (1, .int (nI jz)), (2, .int (nI jn)), (3, .int p2)]) dX9_winter_45 (by decide) rfl ?_
        refine J.wld [0, 1, 2, 4, 5, 3] (ws' := [(q0, .inr (9, [.int (nI ro), .int (nI co), .int sl, .ref q3, .ref q4, .int sn, .ref q6, .ref q7, .ref q8, .ref q9, .int ts, .int ra, .int rr, .int rw, .ref q14, .ref q15, .int rn, .ref q17, .ref q18, .ref q19, .int um, .int bs, .int bh, .ref q23, .ref q24, .ref q25, .int km])), (q3, .inl (cI, 48, .inl th)), (q4, .inl (cI, 48, .inl mo)), (q17, .inl (cI, 8, .inl ce)), (q18, .inl (cI, 8, .inl se)), (q24, .inl (cI, 97, .inl (noteA 0 sl th mo as)))]) rfl rfl ?_
        refine J.loc [2, 3, 4, 5, 1, 0] (lv' := [(0, .ref q0), (1, .int (nI jz)), (2, .int (nI jn)), (3, .int p2), (4, .int (nI 0)), (5, .int (nI 0))]) rfl ?_
        exact w_X9_winter_47 X h q0 q3 q4 q6 q7 q8 q9 q14 q15 q17 q18 q19 q23 q24 q25 ro co sl sn ts ra rr rw rn um bs bh km th mo ce se as cth cow (nI jz) (nI jn) p2 hrc hco hro hrel hc0 hr0 hR  (jn - 0 + 1) 0 0 jz jn th mo cth cow ce se (by first | assumption | omega | rfl) (by first | assumption | omega | rfl) (by first | assumption | omega | rfl) (by rfl) (by rfl) (by have h1 := tiI (j := jz) (by omega); have h2 := tiI (j := jn) (by omega); omega) (by rfl) (by rfl) (by exact hrel) (by exact .mk rfl) (by first | assumption | omega | rfl) (by omega)
      · obtain ⟨rfl, f0_24, -⟩ := p_24
        show J X 12 0 0 27 [(0, .ref q0), (1, .int p0), (2, .int p1), (3, .int p2)] [.int (nI 0)] [(q0, .inr (9, [.int (nI ro), .int (nI co), .int sl, .ref q3, .ref q4, .int sn, .ref q6, .ref q7, .ref q8, .ref q9, .int ts, .int ra, .int rr, .int rw, .ref q14, .ref q15, .int rn, .ref q17, .ref q18, .ref q19, .int um, .int bs, .int bh, .ref q23, .ref q24, .ref q25, .int km])), (q3, .inl (cI, 48, .inl th)), (q4, .inl (cI, 48, .inl mo)), (q17, .inl (cI, 8, .inl ce)), (q18, .inl (cI, 8, .inl se)), (q24, .inl (cI, 97, .inl as))]
        refine J_if_ne h 32 dX9_winter_27 (by decide) (fun z => absurd z (by decide)) (fun _ => ?_)
        refine J_iconst h (v := (-1)) dX9_winter_30 (by decide) ?_
        exact hR ((-1)) (ce, se, as) (⟨(by (try dsimp only); unfold fWinter; rw [if_neg (by omega)]), trivial⟩) 31 _ dX9_winter_31
    · obtain ⟨rfl, f0_15, -⟩ := p_15
      show J X 12 0 0 18 [(0, .ref q0), (1, .int p0), (2, .int p1), (3, .int p2)] [.int (nI 0)] [(q0, .inr (9, [.int (nI ro), .int (nI co), .int sl, .ref q3, .ref q4, .int sn, .ref q6, .ref q7, .ref q8, .ref q9, .int ts, .int ra, .int rr, .int rw, .ref q14, .ref q15, .int rn, .ref q17, .ref q18, .ref q19, .int um, .int bs, .int bh, .ref q23, .ref q24, .ref q25, .int km])), (q3, .inl (cI, 48, .inl th)), (q4, .inl (cI, 48, .inl mo)), (q17, .inl (cI, 8, .inl ce)), (q18, .inl (cI, 8, .inl se)), (q24, .inl (cI, 97, .inl as))]
      refine J_if_eq h 30 dX9_winter_18 (by decide) (fun _ => ?_) (fun z => absurd z (by decide))
      refine J_iconst h (v := (-1)) dX9_winter_30 (by decide) ?_
      exact hR ((-1)) (ce, se, as) (⟨(by (try dsimp only); unfold fWinter; rw [if_neg (by omega)]), trivial⟩) 31 _ dX9_winter_31
  · obtain ⟨rfl, f0_5, -⟩ := p_5
    show J X 12 0 0 8 [(0, .ref q0), (1, .int p0), (2, .int p1), (3, .int p2)] [.int (nI 0)] [(q0, .inr (9, [.int (nI ro), .int (nI co), .int sl, .ref q3, .ref q4, .int sn, .ref q6, .ref q7, .ref q8, .ref q9, .int ts, .int ra, .int rr, .int rw, .ref q14, .ref q15, .int rn, .ref q17, .ref q18, .ref q19, .int um, .int bs, .int bh, .ref q23, .ref q24, .ref q25, .int km])), (q3, .inl (cI, 48, .inl th)), (q4, .inl (cI, 48, .inl mo)), (q17, .inl (cI, 8, .inl ce)), (q18, .inl (cI, 8, .inl se)), (q24, .inl (cI, 97, .inl as))]
    refine J_if_eq h 30 dX9_winter_8 (by decide) (fun _ => ?_) (fun z => absurd z (by decide))
    refine J_iconst h (v := (-1)) dX9_winter_30 (by decide) ?_
    exact hR ((-1)) (ce, se, as) (⟨(by (try dsimp only); unfold fWinter; rw [if_neg (by omega)]), trivial⟩) 31 _ dX9_winter_31
theorem c_X9_winter (l : Launch) (D : va_G) (cI cE : ClassId) (q0 : Nat) (q3 : Nat) (q4 : Nat) (q6 : Nat) (q7 : Nat) (q8 : Nat) (q9 : Nat) (q14 : Nat) (q15 : Nat) (q17 : Nat) (q18 : Nat) (q19 : Nat) (q23 : Nat) (q24 : Nat) (q25 : Nat) (ro : Nat) (co : Nat) (sl : Int32) (sn : Int32) (ts : Int32) (ra : Int32) (rr : Int32) (rw : Int32) (rn : Int32) (um : Int32) (bs : Int32) (bh : Int32) (km : Int32) (th : Nat → Int32) (mo : Nat → Int32) (ce : Nat → Int32) (se : Nat → Int32) (as : Nat → Int32) (cth : Nat → Int32) (cow : Nat → Int32) (p0 : Int32) (p1 : Int32) (p2 : Int32) (hrc : ro * co ≤ 48) (hco : co ≤ 6) (hro : ro ≤ 8) (hrel : rel (ro * co) th mo cth cow) (hc0 : 0 < co) (hr0 : 0 < ro * co) : Ci l D cI cE yX9_winter cX9_winter 12 (some .int) 3 0 0 [.ref q0, .int p0, .int p1, .int p2] [(q0, .inr (9, [.int (nI ro), .int (nI co), .int sl, .ref q3, .ref q4, .int sn, .ref q6, .ref q7, .ref q8, .ref q9, .int ts, .int ra, .int rr, .int rw, .ref q14, .ref q15, .int rn, .ref q17, .ref q18, .ref q19, .int um, .int bs, .int bh, .ref q23, .ref q24, .ref q25, .int km])), (q3, .inl (cI, 48, .inl th)), (q4, .inl (cI, 48, .inl mo)), (q17, .inl (cI, 8, .inl ce)), (q18, .inl (cI, 8, .inl se)), (q24, .inl (cI, 97, .inl as))] (fun (r : Int32) (u : (Nat → Int32) × (Nat → Int32) × (Nat → Int32)) => ((fWinter cth cow co ro p0 p1 p2 = r) ∧ (True))) (fun (u : (Nat → Int32) × (Nat → Int32) × (Nat → Int32)) => ([(q0, .inr (9, [.int (nI ro), .int (nI co), .int sl, .ref q3, .ref q4, .int sn, .ref q6, .ref q7, .ref q8, .ref q9, .int ts, .int ra, .int rr, .int rw, .ref q14, .ref q15, .int rn, .ref q17, .ref q18, .ref q19, .int um, .int bs, .int bh, .ref q23, .ref q24, .ref q25, .int km])), (q3, .inl (cI, 48, .inl th)), (q4, .inl (cI, 48, .inl mo)), (q17, .inl (cI, 8, .inl u.1)), (q18, .inl (cI, 8, .inl u.2.1)), (q24, .inl (cI, 97, .inl u.2.2))] : va_W)) :=
  Ci.of (by decide) (Nat.le_of_ble_eq_true rfl) (fun _ _ _ => rfl) (fun X h hR => w_X9_winter X h q0 q3 q4 q6 q7 q8 q9 q14 q15 q17 q18 q19 q23 q24 q25 ro co sl sn ts ra rr rw rn um bs bh km th mo ce se as cth cow p0 p1 p2 hrc hco hro hrel hc0 hr0 hR)
theorem yv_X9_winter : YV yX9_winter cX9_winter 12 (some .int) 3 := ⟨no_X9_winter, nv_X9_winter, ni_X9, nk_X9_winter, by decide +kernel⟩
