set_option maxRecDepth 100000 in
set_option maxHeartbeats 4000000 in
theorem w_X4_heelsAt (X : Cx) {cI cE : ClassId} (h : Ok X cX4_heelsAt RX4 2 cI cE 0 0 0) (p0 : Nat) (p1 : Nat) (h0 : p0 < 1000) (h1 : p1 < 1000) (hR : ∀ (r : Int32) (u : Unit), ((nI (hsA p0 p1) = r) ∧ (True)) → RetI X cX4_heelsAt 2 0 0 r []) : J X 2 0 0 0 [(0, .int (nI p0)), (1, .int (nI p1))] [] [] := by
  refine J_iload_n h (i := 0) dX4_heelsAt_0 rfl 0 rfl ?_
  refine J_iload_n h (i := 1) dX4_heelsAt_1 rfl 1 rfl ?_
  refine N_icmp_gt h 9 dX4_heelsAt_2 (by decide) (by omega) (by omega) (fun c_2 => ?_) (fun c_2 => ?_)
  · skip
    refine J_iload_n h (i := 0) dX4_heelsAt_9 rfl 0 rfl ?_
    refine J_iload_n h (i := 1) dX4_heelsAt_10 rfl 1 rfl ?_
    refine N_isub h (by omega) dX4_heelsAt_11 ?_
    refine J_bipush h (v := nI 10) dX4_heelsAt_12 (by decide) ?_
    refine N_iadd h dX4_heelsAt_14 ?_
    exact hR (nI ((p0 - p1) + 10)) () (⟨(by unfold hsA; first | (rw [if_pos (by omega)]; done) | (rw [if_neg (by omega)]; done)), trivial⟩) 15 _ dX4_heelsAt_15
  · skip
    refine J_iload_n h (i := 0) dX4_heelsAt_5 rfl 0 rfl ?_
    refine J_goto h 15 dX4_heelsAt_6 (by decide) ?_
    exact hR (nI p0) () (⟨(by unfold hsA; first | (rw [if_pos (by omega)]; done) | (rw [if_neg (by omega)]; done)), trivial⟩) 15 _ dX4_heelsAt_15
theorem c_X4_heelsAt (l : Launch) (D : va_G) (cI cE : ClassId) (p0 : Nat) (p1 : Nat) (h0 : p0 < 1000) (h1 : p1 < 1000) : Ci l D cI cE yX4_heelsAt cX4_heelsAt 2 (some .int) 0 0 0 [.int (nI p0), .int (nI p1)] [] (fun (r : Int32) (u : Unit) => ((nI (hsA p0 p1) = r) ∧ (True))) (fun (u : Unit) => ([] : va_W)) :=
  Ci.of (by decide) (Nat.le_of_ble_eq_true rfl) (fun _ _ _ => rfl) (fun X h hR => w_X4_heelsAt X h p0 p1 h0 h1 hR)
theorem yv_X4_heelsAt : YS yX4_heelsAt cX4_heelsAt 2 (some .int) 2 := ⟨ns_X4_heelsAt, ni_X4, nk_X4_heelsAt, by decide +kernel⟩
set_option maxRecDepth 100000 in
set_option maxHeartbeats 4000000 in
theorem w_X4_codeOf (X : Cx) {cI cE : ClassId} (h : Ok X cX4_codeOf RX4 3 cI cE 0 0 0) (p0 : Nat) (p1 : Nat) (p2 : Nat)  (hR : ∀ (r : Int32) (u : Unit), ((nI (10000 * p0 + 100 * p1 + p2) = r) ∧ (True)) → RetI X cX4_codeOf 3 0 0 r []) : J X 3 0 0 0 [(0, .int (nI p0)), (1, .int (nI p1)), (2, .int (nI p2))] [] [] := by
  refine J_sipush h (v := nI 10000) dX4_codeOf_0 (by decide) ?_
  refine J_iload_n h (i := 0) dX4_codeOf_3 rfl 0 rfl ?_
  refine N_imul h dX4_codeOf_4 ?_
  refine J_bipush h (v := nI 100) dX4_codeOf_5 (by decide) ?_
  refine J_iload_n h (i := 1) dX4_codeOf_7 rfl 1 rfl ?_
  refine N_imul h dX4_codeOf_8 ?_
  refine N_iadd h dX4_codeOf_9 ?_
  refine J_iload_n h (i := 2) dX4_codeOf_10 rfl 2 rfl ?_
  refine N_iadd h dX4_codeOf_11 ?_
  exact hR (nI (((10000 * p0) + (100 * p1)) + p2)) () (⟨(by first | assumption | omega | rfl), trivial⟩) 12 _ dX4_codeOf_12
theorem c_X4_codeOf (l : Launch) (D : va_G) (cI cE : ClassId) (p0 : Nat) (p1 : Nat) (p2 : Nat)  : Ci l D cI cE yX4_codeOf cX4_codeOf 3 (some .int) 0 0 0 [.int (nI p0), .int (nI p1), .int (nI p2)] [] (fun (r : Int32) (u : Unit) => ((nI (10000 * p0 + 100 * p1 + p2) = r) ∧ (True))) (fun (u : Unit) => ([] : va_W)) :=
  Ci.of (by decide) (Nat.le_of_ble_eq_true rfl) (fun _ _ _ => rfl) (fun X h hR => w_X4_codeOf X h p0 p1 p2 hR)
theorem yv_X4_codeOf : YS yX4_codeOf cX4_codeOf 3 (some .int) 3 := ⟨ns_X4_codeOf, ni_X4, nk_X4_codeOf, by decide +kernel⟩
set_option maxRecDepth 100000 in
set_option maxHeartbeats 4000000 in
theorem w_X4_firstThatStops_41 (X : Cx) {cI cE : ClassId} (h : Ok X cX4_firstThatStops RX4 9 cI cE 3 0 0) (y0 : Nat) (cd : Int32) (tk : Int32) (a0 : Nat) (a1 : Nat) (a2 : Nat) (th : Nat → Int32) (ow : Nat → Int32) (co : Nat) (ro : Nat) (sl : Int32) (d0 : Nat) (d1 : Nat) (d2 : Nat) (ce : Nat → Int32) (se : Nat → Int32) (len : Int32) (en : Int32) (p0 : Nat) (hrc : ro * co ≤ 48) (hco : co ≤ 6) (hro : ro ≤ 8) (hp0 : p0 < 48) (hR : ∀ (r : Int32) (u : (Nat → Int32) × (Nat → Int32) × (Int32) × (Int32)), ((True)) → RetI X cX4_firstThatStops 9 0 0 r [(y0, .inr (4, [.int cd, .int tk])), (a0, .inr (0, [.ref a1, .ref a2, .int (nI co), .int (nI ro), .int sl])), (a1, .inl (cI, 48, .inl th)), (a2, .inl (cI, 48, .inl ow)), (d0, .inr (3, [.ref d1, .ref d2, .int u.2.2.1, .int u.2.2.2])), (d1, .inl (cI, 8, .inl u.1)), (d2, .inl (cI, 8, .inl u.2.1))]) (n_3 : Nat) (ih_3 : ∀ (x : Nat) (ce1 : Nat → Int32) (se1 : Nat → Int32) (ln1 : Int32) (en1 : Int32), (x ≤ co) → co - x < n_3 → J X 9 0 0 3 [(0, .ref y0), (1, .ref a0), (2, .ref d0), (3, .int (nI p0)), (4, .int (nI x))] [] [(y0, .inr (4, [.int cd, .int tk])), (a0, .inr (0, [.ref a1, .ref a2, .int (nI co), .int (nI ro), .int sl])), (a1, .inl (cI, 48, .inl th)), (a2, .inl (cI, 48, .inl ow)), (d0, .inr (3, [.ref d1, .ref d2, .int ln1, .int en1])), (d1, .inl (cI, 8, .inl ce1)), (d2, .inl (cI, 8, .inl se1))]) (n_15 : Nat) (ih_15 : ∀ (x : Nat) (w : Nat) (ce1 : Nat → Int32) (se1 : Nat → Int32) (ln1 : Int32) (en1 : Int32), (x < co) → (1 ≤ w ∧ w ≤ 21) → (co - x < n_3 + 1) → 21 - w < n_15 → J X 9 0 0 15 [(0, .ref y0), (1, .ref a0), (2, .ref d0), (3, .int (nI p0)), (4, .int (nI x)), (5, .int (nI w))] [] [(y0, .inr (4, [.int cd, .int tk])), (a0, .inr (0, [.ref a1, .ref a2, .int (nI co), .int (nI ro), .int sl])), (a1, .inl (cI, 48, .inl th)), (a2, .inl (cI, 48, .inl ow)), (d0, .inr (3, [.ref d1, .ref d2, .int ln1, .int en1])), (d1, .inl (cI, 8, .inl ce1)), (d2, .inl (cI, 8, .inl se1))]) : ∀ (n_41 : Nat) (x : Nat) (w : Nat) (rl : Nat) (i : Nat) (ce1 : Nat → Int32) (se1 : Nat → Int32) (ln1 : Int32) (en1 : Int32), (x < co) → (1 ≤ w ∧ w ≤ 20) → (rl ≤ ro) → (i ≤ 2 * rl + 1) → (co - x < n_3 + 1) → (21 - w < n_15 + 1) → 2 * rl + 1 - i < n_41 → J X 9 0 0 41 [(0, .ref y0), (1, .ref a0), (2, .ref d0), (3, .int (nI p0)), (4, .int (nI x)), (5, .int (nI w)), (6, .int (nI rl)), (7, .int (nI i))] [] [(y0, .inr (4, [.int cd, .int tk])), (a0, .inr (0, [.ref a1, .ref a2, .int (nI co), .int (nI ro), .int sl])), (a1, .inl (cI, 48, .inl th)), (a2, .inl (cI, 48, .inl ow)), (d0, .inr (3, [.ref d1, .ref d2, .int ln1, .int en1])), (d1, .inl (cI, 8, .inl ce1)), (d2, .inl (cI, 8, .inl se1))] := by
  intro n_41
  induction n_41 with
  | zero => intro x w rl i ce1 se1 ln1 en1 hx hw hrl hi hm hm2 hn_; exact absurd hn_ (Nat.not_lt_zero _)
  | succ n_41 ih_41 =>
    intro x w rl i ce1 se1 ln1 en1 hx hw hrl hi hm hm2 hn_41
    refine J_iload h dX4_firstThatStops_41 7 rfl ?_
    refine J_iconst h (v := nI 2) dX4_firstThatStops_43 (by decide) ?_
    refine J_iload h dX4_firstThatStops_44 6 rfl ?_
    refine N_imul h dX4_firstThatStops_46 ?_
    refine N_icmp_gt h 94 dX4_firstThatStops_47 (by decide) (by omega) (by omega) (fun c_47 => ?_) (fun c_47 => ?_)
    · skip
      refine J_iinc h (v := nI (w + 1)) (lv' := [(5, .int (nI (w + 1))), (0, .ref y0), (1, .ref a0), (2, .ref d0), (3, .int (nI p0)), (4, .int (nI x)), (6, .int (nI rl)), (7, .int (nI i))]) dX4_firstThatStops_94 5 rfl (inc_ok _ 1) (by decide) rfl ?_
      refine J_goto h 15 dX4_firstThatStops_97 (by decide) ?_
      refine J.loc [1, 2, 3, 4, 5, 0] (lv' := [(0, .ref y0), (1, .ref a0), (2, .ref d0), (3, .int (nI p0)), (4, .int (nI x)), (5, .int (nI (w + 1)))]) rfl ?_
      exact ih_15 x (w + 1) ce1 se1 ln1 en1 (by first | exact hx |  assumption | omega | rfl) (by first | exact hw |  assumption | omega | rfl) (by first | exact hm |  assumption | omega | rfl) (by omega)
    · skip
      refine J_iload h dX4_firstThatStops_50 7 rfl ?_
      refine J_iload h dX4_firstThatStops_52 6 rfl ?_
      have hhs := hsA_le (i := i) (rl := rl) (by omega)
      refine K_si h (wr := [(y0, .inr (4, [.int cd, .int tk])), (a0, .inr (0, [.ref a1, .ref a2, .int (nI co), .int (nI ro), .int sl])), (a1, .inl (cI, 48, .inl th)), (a2, .inl (cI, 48, .inl ow)), (d0, .inr (3, [.ref d1, .ref d2, .int ln1, .int en1])), (d1, .inl (cI, 8, .inl ce1)), (d2, .inl (cI, 8, .inl se1))]) (c_X4_heelsAt (xl X) (xD X) cI cE i rl (by first | assumption | omega | rfl) (by first | assumption | omega | rfl)) yv_X4_heelsAt nm_X4_32 (by decide) (by decide) rfl rfl rfl (Nat.le_of_ble_eq_true rfl) (Nat.le_refl _) (Nat.le_refl _) dX4_firstThatStops_54 (fun r_54 u_54 p_54 => ?_)
      obtain ⟨rfl, -⟩ := p_54
      show J X 9 0 0 57 [(0, .ref y0), (1, .ref a0), (2, .ref d0), (3, .int (nI p0)), (4, .int (nI x)), (5, .int (nI w)), (6, .int (nI rl)), (7, .int (nI i))] [.int (nI (hsA i rl))] [(y0, .inr (4, [.int cd, .int tk])), (a0, .inr (0, [.ref a1, .ref a2, .int (nI co), .int (nI ro), .int sl])), (a1, .inl (cI, 48, .inl th)), (a2, .inl (cI, 48, .inl ow)), (d0, .inr (3, [.ref d1, .ref d2, .int ln1, .int en1])), (d1, .inl (cI, 8, .inl ce1)), (d2, .inl (cI, 8, .inl se1))]
      refine J_istore h (lv' := [(8, .int (nI (hsA i rl))), (0, .ref y0), (1, .ref a0), (2, .ref d0), (3, .int (nI p0)), (4, .int (nI x)), (5, .int (nI w)), (6, .int (nI rl)), (7, .int (nI i))]) dX4_firstThatStops_57 (by decide) rfl ?_
      refine J_aload_n h (i := 2) dX4_firstThatStops_59 rfl 3 rfl ?_
      refine J_aload_n h (i := 1) dX4_firstThatStops_60 rfl 2 rfl ?_
      refine J_iload h dX4_firstThatStops_61 5 rfl ?_
      refine J_iload h dX4_firstThatStops_63 6 rfl ?_
      refine J_iload h dX4_firstThatStops_65 0 rfl ?_
      refine J.wld [4, 5, 6, 1, 2, 3, 0] (ws' := [(d0, .inr (3, [.ref d1, .ref d2, .int ln1, .int en1])), (d1, .inl (cI, 8, .inl ce1)), (d2, .inl (cI, 8, .inl se1)), (a0, .inr (0, [.ref a1, .ref a2, .int (nI co), .int (nI ro), .int sl])), (a1, .inl (cI, 48, .inl th)), (a2, .inl (cI, 48, .inl ow)), (y0, .inr (4, [.int cd, .int tk]))]) rfl rfl ?_
      refine K_vv h (wr := [(y0, .inr (4, [.int cd, .int tk]))]) (c_X3_run (xl X) (xD X) cI cE d0 d1 d2 ce1 se1 ln1 en1 a0 a1 a2 th ow co ro sl x w (hsA i rl) (by first | exact hrc |  assumption | omega | rfl) (by first | exact hco |  assumption | omega | rfl) (by first | exact hro |  assumption | omega | rfl) (by first | exact hx |  assumption | omega | rfl) (by first | exact hw |  assumption | omega | rfl) (by first | assumption | omega | rfl)) yv_X3_run nm_X4_23 (by decide) (by decide) rfl rfl 0 rfl rfl rfl rfl (Nat.le_of_ble_eq_true rfl) (Nat.le_refl _) (Nat.le_refl _) dX4_firstThatStops_67 (fun u_67 p_67 => ?_)
      obtain ⟨ce2_67, se2_67⟩ := u_67
      try dsimp only at p_67
      obtain ⟨f0_67, f1_67, -⟩ := p_67
      show J X 9 0 0 70 [(8, .int (nI (hsA i rl))), (0, .ref y0), (1, .ref a0), (2, .ref d0), (3, .int (nI p0)), (4, .int (nI x)), (5, .int (nI w)), (6, .int (nI rl)), (7, .int (nI i))] [] [(d0, .inr (3, [.ref d1, .ref d2, .int (nI (rln th co ro (hsA i rl) x w)), .int (nI (ren th co ro (hsA i rl) x w))])), (d1, .inl (cI, 8, .inl ce2_67)), (d2, .inl (cI, 8, .inl se2_67)), (a0, .inr (0, [.ref a1, .ref a2, .int (nI co), .int (nI ro), .int sl])), (a1, .inl (cI, 48, .inl th)), (a2, .inl (cI, 48, .inl ow)), (y0, .inr (4, [.int cd, .int tk]))]
      have hren := ren_lt th (ro := ro) (hh := hsA i rl) hrc (show x < co by omega) (show w ≤ 20 by omega)
      refine J_aload_n h (i := 2) dX4_firstThatStops_70 rfl 3 rfl ?_
      refine J_get h inX3 rfl 0 3 (by decide) rfl rfl nf_X4_36 dX4_firstThatStops_71 ?_
      refine J_iload_n h (i := 3) dX4_firstThatStops_74 rfl 4 rfl ?_
      refine N_icmp_ne h 88 dX4_firstThatStops_75 (by decide) (by omega) (by omega) (fun c_75 => ?_) (fun c_75 => ?_)
      · skip
        refine J_iinc h (v := nI (i + 1)) (lv' := [(7, .int (nI (i + 1))), (8, .int (nI (hsA i rl))), (0, .ref y0), (1, .ref a0), (2, .ref d0), (3, .int (nI p0)), (4, .int (nI x)), (5, .int (nI w)), (6, .int (nI rl))]) dX4_firstThatStops_88 8 rfl (inc_ok _ 1) (by decide) rfl ?_
        refine J_goto h 41 dX4_firstThatStops_91 (by decide) ?_
        refine J.wld [6, 3, 4, 5, 0, 1, 2] (ws' := [(y0, .inr (4, [.int cd, .int tk])), (a0, .inr (0, [.ref a1, .ref a2, .int (nI co), .int (nI ro), .int sl])), (a1, .inl (cI, 48, .inl th)), (a2, .inl (cI, 48, .inl ow)), (d0, .inr (3, [.ref d1, .ref d2, .int (nI (rln th co ro (hsA i rl) x w)), .int (nI (ren th co ro (hsA i rl) x w))])), (d1, .inl (cI, 8, .inl ce2_67)), (d2, .inl (cI, 8, .inl se2_67))]) rfl rfl ?_
        refine J.loc [2, 3, 4, 5, 6, 7, 8, 0] (lv' := [(0, .ref y0), (1, .ref a0), (2, .ref d0), (3, .int (nI p0)), (4, .int (nI x)), (5, .int (nI w)), (6, .int (nI rl)), (7, .int (nI (i + 1)))]) rfl ?_
        exact ih_41 x w rl (i + 1) ce2_67 se2_67 (nI (rln th co ro (hsA i rl) x w)) (nI (ren th co ro (hsA i rl) x w)) (by first | exact hx |  assumption | omega | rfl) (by first | exact hw |  assumption | omega | rfl) (by first | exact hrl |  assumption | omega | rfl) (by first | exact hi |  assumption | omega | rfl) (by first | exact hm |  assumption | omega | rfl) (by first | exact hm2 |  assumption | omega | rfl) (by omega)
      · skip
        refine J_iload h dX4_firstThatStops_78 5 rfl ?_
        refine J_iload h dX4_firstThatStops_80 6 rfl ?_
        refine J_iload h dX4_firstThatStops_82 0 rfl ?_
        refine K_si h (wr := [(d0, .inr (3, [.ref d1, .ref d2, .int (nI (rln th co ro (hsA i rl) x w)), .int (nI (ren th co ro (hsA i rl) x w))])), (d1, .inl (cI, 8, .inl ce2_67)), (d2, .inl (cI, 8, .inl se2_67)), (a0, .inr (0, [.ref a1, .ref a2, .int (nI co), .int (nI ro), .int sl])), (a1, .inl (cI, 48, .inl th)), (a2, .inl (cI, 48, .inl ow)), (y0, .inr (4, [.int cd, .int tk]))]) (c_X4_codeOf (xl X) (xD X) cI cE x w (hsA i rl) ) yv_X4_codeOf nm_X4_39 (by decide) (by decide) rfl rfl rfl (Nat.le_of_ble_eq_true rfl) (Nat.le_refl _) (Nat.le_refl _) dX4_firstThatStops_84 (fun r_84 u_84 p_84 => ?_)
        obtain ⟨rfl, -⟩ := p_84
        show J X 9 0 0 87 [(8, .int (nI (hsA i rl))), (0, .ref y0), (1, .ref a0), (2, .ref d0), (3, .int (nI p0)), (4, .int (nI x)), (5, .int (nI w)), (6, .int (nI rl)), (7, .int (nI i))] [.int (nI (10000 * x + 100 * w + (hsA i rl)))] [(d0, .inr (3, [.ref d1, .ref d2, .int (nI (rln th co ro (hsA i rl) x w)), .int (nI (ren th co ro (hsA i rl) x w))])), (d1, .inl (cI, 8, .inl ce2_67)), (d2, .inl (cI, 8, .inl se2_67)), (a0, .inr (0, [.ref a1, .ref a2, .int (nI co), .int (nI ro), .int sl])), (a1, .inl (cI, 48, .inl th)), (a2, .inl (cI, 48, .inl ow)), (y0, .inr (4, [.int cd, .int tk]))]
        refine J.wld [6, 3, 4, 5, 0, 1, 2] (ws' := [(y0, .inr (4, [.int cd, .int tk])), (a0, .inr (0, [.ref a1, .ref a2, .int (nI co), .int (nI ro), .int sl])), (a1, .inl (cI, 48, .inl th)), (a2, .inl (cI, 48, .inl ow)), (d0, .inr (3, [.ref d1, .ref d2, .int (nI (rln th co ro (hsA i rl) x w)), .int (nI (ren th co ro (hsA i rl) x w))])), (d1, .inl (cI, 8, .inl ce2_67)), (d2, .inl (cI, 8, .inl se2_67))]) rfl rfl ?_
        exact hR (nI (10000 * x + 100 * w + (hsA i rl))) (ce2_67, se2_67, nI (rln th co ro (hsA i rl) x w), nI (ren th co ro (hsA i rl) x w)) (by trivial) 87 _ dX4_firstThatStops_87
set_option maxRecDepth 100000 in
set_option maxHeartbeats 4000000 in
theorem w_X4_firstThatStops_15 (X : Cx) {cI cE : ClassId} (h : Ok X cX4_firstThatStops RX4 9 cI cE 3 0 0) (y0 : Nat) (cd : Int32) (tk : Int32) (a0 : Nat) (a1 : Nat) (a2 : Nat) (th : Nat → Int32) (ow : Nat → Int32) (co : Nat) (ro : Nat) (sl : Int32) (d0 : Nat) (d1 : Nat) (d2 : Nat) (ce : Nat → Int32) (se : Nat → Int32) (len : Int32) (en : Int32) (p0 : Nat) (hrc : ro * co ≤ 48) (hco : co ≤ 6) (hro : ro ≤ 8) (hp0 : p0 < 48) (hR : ∀ (r : Int32) (u : (Nat → Int32) × (Nat → Int32) × (Int32) × (Int32)), ((True)) → RetI X cX4_firstThatStops 9 0 0 r [(y0, .inr (4, [.int cd, .int tk])), (a0, .inr (0, [.ref a1, .ref a2, .int (nI co), .int (nI ro), .int sl])), (a1, .inl (cI, 48, .inl th)), (a2, .inl (cI, 48, .inl ow)), (d0, .inr (3, [.ref d1, .ref d2, .int u.2.2.1, .int u.2.2.2])), (d1, .inl (cI, 8, .inl u.1)), (d2, .inl (cI, 8, .inl u.2.1))]) (n_3 : Nat) (ih_3 : ∀ (x : Nat) (ce1 : Nat → Int32) (se1 : Nat → Int32) (ln1 : Int32) (en1 : Int32), (x ≤ co) → co - x < n_3 → J X 9 0 0 3 [(0, .ref y0), (1, .ref a0), (2, .ref d0), (3, .int (nI p0)), (4, .int (nI x))] [] [(y0, .inr (4, [.int cd, .int tk])), (a0, .inr (0, [.ref a1, .ref a2, .int (nI co), .int (nI ro), .int sl])), (a1, .inl (cI, 48, .inl th)), (a2, .inl (cI, 48, .inl ow)), (d0, .inr (3, [.ref d1, .ref d2, .int ln1, .int en1])), (d1, .inl (cI, 8, .inl ce1)), (d2, .inl (cI, 8, .inl se1))]) : ∀ (n_15 : Nat) (x : Nat) (w : Nat) (ce1 : Nat → Int32) (se1 : Nat → Int32) (ln1 : Int32) (en1 : Int32), (x < co) → (1 ≤ w ∧ w ≤ 21) → (co - x < n_3 + 1) → 21 - w < n_15 → J X 9 0 0 15 [(0, .ref y0), (1, .ref a0), (2, .ref d0), (3, .int (nI p0)), (4, .int (nI x)), (5, .int (nI w))] [] [(y0, .inr (4, [.int cd, .int tk])), (a0, .inr (0, [.ref a1, .ref a2, .int (nI co), .int (nI ro), .int sl])), (a1, .inl (cI, 48, .inl th)), (a2, .inl (cI, 48, .inl ow)), (d0, .inr (3, [.ref d1, .ref d2, .int ln1, .int en1])), (d1, .inl (cI, 8, .inl ce1)), (d2, .inl (cI, 8, .inl se1))] := by
  intro n_15
  induction n_15 with
  | zero => intro x w ce1 se1 ln1 en1 hx hw hm hn_; exact absurd hn_ (Nat.not_lt_zero _)
  | succ n_15 ih_15 =>
    intro x w ce1 se1 ln1 en1 hx hw hm hn_15
    refine J_iload h dX4_firstThatStops_15 5 rfl ?_
    refine J_bipush h (v := nI 20) dX4_firstThatStops_17 (by decide) ?_
    refine N_icmp_gt h 100 dX4_firstThatStops_19 (by decide) (by omega) (by omega) (fun c_19 => ?_) (fun c_19 => ?_)
    · skip
      refine J_iinc h (v := nI (x + 1)) (lv' := [(4, .int (nI (x + 1))), (0, .ref y0), (1, .ref a0), (2, .ref d0), (3, .int (nI p0)), (5, .int (nI w))]) dX4_firstThatStops_100 4 rfl (inc_ok _ 1) (by decide) rfl ?_
      refine J_goto h 3 dX4_firstThatStops_103 (by decide) ?_
      refine J.loc [1, 2, 3, 4, 0] (lv' := [(0, .ref y0), (1, .ref a0), (2, .ref d0), (3, .int (nI p0)), (4, .int (nI (x + 1)))]) rfl ?_
      exact ih_3 (x + 1) ce1 se1 ln1 en1 (by first | exact hx |  assumption | omega | rfl) (by omega)
    · skip
      refine J_aload_n h (i := 2) dX4_firstThatStops_22 rfl 2 rfl ?_
      refine J_aload_n h (i := 1) dX4_firstThatStops_23 rfl 1 rfl ?_
      refine J_iload h dX4_firstThatStops_24 4 rfl ?_
      refine J_iload h dX4_firstThatStops_26 5 rfl ?_
      refine J_iconst h (v := nI 0) dX4_firstThatStops_28 (by decide) ?_
      refine J.wld [4, 5, 6, 1, 2, 3, 0] (ws' := [(d0, .inr (3, [.ref d1, .ref d2, .int ln1, .int en1])), (d1, .inl (cI, 8, .inl ce1)), (d2, .inl (cI, 8, .inl se1)), (a0, .inr (0, [.ref a1, .ref a2, .int (nI co), .int (nI ro), .int sl])), (a1, .inl (cI, 48, .inl th)), (a2, .inl (cI, 48, .inl ow)), (y0, .inr (4, [.int cd, .int tk]))]) rfl rfl ?_
      refine K_vv h (wr := [(y0, .inr (4, [.int cd, .int tk]))]) (c_X3_run (xl X) (xD X) cI cE d0 d1 d2 ce1 se1 ln1 en1 a0 a1 a2 th ow co ro sl x w 0 (by first | exact hrc |  assumption | omega | rfl) (by first | exact hco |  assumption | omega | rfl) (by first | exact hro |  assumption | omega | rfl) (by first | exact hx |  assumption | omega | rfl) (by first | exact hw |  assumption | omega | rfl) (by first | assumption | omega | rfl)) yv_X3_run nm_X4_23 (by decide) (by decide) rfl rfl 0 rfl rfl rfl rfl (Nat.le_of_ble_eq_true rfl) (Nat.le_refl _) (Nat.le_refl _) dX4_firstThatStops_29 (fun u_29 p_29 => ?_)
      obtain ⟨ce2_29, se2_29⟩ := u_29
      try dsimp only at p_29
      obtain ⟨f0_29, f1_29, -⟩ := p_29
      show J X 9 0 0 32 [(0, .ref y0), (1, .ref a0), (2, .ref d0), (3, .int (nI p0)), (4, .int (nI x)), (5, .int (nI w))] [] [(d0, .inr (3, [.ref d1, .ref d2, .int (nI (rln th co ro 0 x w)), .int (nI (ren th co ro 0 x w))])), (d1, .inl (cI, 8, .inl ce2_29)), (d2, .inl (cI, 8, .inl se2_29)), (a0, .inr (0, [.ref a1, .ref a2, .int (nI co), .int (nI ro), .int sl])), (a1, .inl (cI, 48, .inl th)), (a2, .inl (cI, 48, .inl ow)), (y0, .inr (4, [.int cd, .int tk]))]
      refine J_aload_n h (i := 2) dX4_firstThatStops_32 rfl 2 rfl ?_
      refine J_get h inX3 rfl 0 2 (by decide) rfl rfl nf_X4_29 dX4_firstThatStops_33 ?_
      have hrle := rln_le th co ro 0 x w
      refine J_istore h (lv' := [(6, .int (nI (rln th co ro 0 x w))), (0, .ref y0), (1, .ref a0), (2, .ref d0), (3, .int (nI p0)), (4, .int (nI x)), (5, .int (nI w))]) dX4_firstThatStops_36 (by decide) rfl ?_
      refine J_iconst h (v := nI 0) dX4_firstThatStops_38 (by decide) ?_
      refine J_istore h (lv' := [(7, .int (nI 0)), (6, .int (nI (rln th co ro 0 x w))), (0, .ref y0), (1, .ref a0), (2, .ref d0), (3, .int (nI p0)), (4, .int (nI x)), (5, .int (nI w))]) dX4_firstThatStops_39 (by decide) rfl ?_
      refine J.wld [6, 3, 4, 5, 0, 1, 2] (ws' := [(y0, .inr (4, [.int cd, .int tk])), (a0, .inr (0, [.ref a1, .ref a2, .int (nI co), .int (nI ro), .int sl])), (a1, .inl (cI, 48, .inl th)), (a2, .inl (cI, 48, .inl ow)), (d0, .inr (3, [.ref d1, .ref d2, .int (nI (rln th co ro 0 x w)), .int (nI (ren th co ro 0 x w))])), (d1, .inl (cI, 8, .inl ce2_29)), (d2, .inl (cI, 8, .inl se2_29))]) rfl rfl ?_
      refine J.loc [2, 3, 4, 5, 6, 7, 1, 0] (lv' := [(0, .ref y0), (1, .ref a0), (2, .ref d0), (3, .int (nI p0)), (4, .int (nI x)), (5, .int (nI w)), (6, .int (nI (rln th co ro 0 x w))), (7, .int (nI 0))]) rfl ?_
      exact w_X4_firstThatStops_41 X h y0 cd tk a0 a1 a2 th ow co ro sl d0 d1 d2 ce se len en p0 hrc hco hro hp0 hR n_3 ih_3 n_15 ih_15 (2 * (rln th co ro 0 x w) + 1 - 0 + 1) x w (rln th co ro 0 x w) 0 ce2_29 se2_29 (nI (rln th co ro 0 x w)) (nI (ren th co ro 0 x w)) (by first | exact hx |  assumption | omega | rfl) (by first | exact hw |  assumption | omega | rfl) (by exact rln_le _ _ _ _ _ _) (by first | assumption | omega | rfl) (by first | exact hm |  assumption | omega | rfl) (by first | assumption | omega | rfl) (by omega)
set_option maxRecDepth 100000 in
set_option maxHeartbeats 4000000 in
theorem w_X4_firstThatStops_3 (X : Cx) {cI cE : ClassId} (h : Ok X cX4_firstThatStops RX4 9 cI cE 3 0 0) (y0 : Nat) (cd : Int32) (tk : Int32) (a0 : Nat) (a1 : Nat) (a2 : Nat) (th : Nat → Int32) (ow : Nat → Int32) (co : Nat) (ro : Nat) (sl : Int32) (d0 : Nat) (d1 : Nat) (d2 : Nat) (ce : Nat → Int32) (se : Nat → Int32) (len : Int32) (en : Int32) (p0 : Nat) (hrc : ro * co ≤ 48) (hco : co ≤ 6) (hro : ro ≤ 8) (hp0 : p0 < 48) (hR : ∀ (r : Int32) (u : (Nat → Int32) × (Nat → Int32) × (Int32) × (Int32)), ((True)) → RetI X cX4_firstThatStops 9 0 0 r [(y0, .inr (4, [.int cd, .int tk])), (a0, .inr (0, [.ref a1, .ref a2, .int (nI co), .int (nI ro), .int sl])), (a1, .inl (cI, 48, .inl th)), (a2, .inl (cI, 48, .inl ow)), (d0, .inr (3, [.ref d1, .ref d2, .int u.2.2.1, .int u.2.2.2])), (d1, .inl (cI, 8, .inl u.1)), (d2, .inl (cI, 8, .inl u.2.1))]) : ∀ (n_3 : Nat) (x : Nat) (ce1 : Nat → Int32) (se1 : Nat → Int32) (ln1 : Int32) (en1 : Int32), (x ≤ co) → co - x < n_3 → J X 9 0 0 3 [(0, .ref y0), (1, .ref a0), (2, .ref d0), (3, .int (nI p0)), (4, .int (nI x))] [] [(y0, .inr (4, [.int cd, .int tk])), (a0, .inr (0, [.ref a1, .ref a2, .int (nI co), .int (nI ro), .int sl])), (a1, .inl (cI, 48, .inl th)), (a2, .inl (cI, 48, .inl ow)), (d0, .inr (3, [.ref d1, .ref d2, .int ln1, .int en1])), (d1, .inl (cI, 8, .inl ce1)), (d2, .inl (cI, 8, .inl se1))] := by
  intro n_3
  induction n_3 with
  | zero => intro x ce1 se1 ln1 en1 hx hn_; exact absurd hn_ (Nat.not_lt_zero _)
  | succ n_3 ih_3 =>
    intro x ce1 se1 ln1 en1 hx hn_3
    refine J_iload h dX4_firstThatStops_3 4 rfl ?_
    refine J_aload_n h (i := 1) dX4_firstThatStops_5 rfl 1 rfl ?_
    refine J_get h inX0 rfl 1 2 (by decide) rfl rfl nf_X4_18 dX4_firstThatStops_6 ?_
    refine N_icmp_ge h 106 dX4_firstThatStops_9 (by decide) (by omega) (by omega) (fun c_9 => ?_) (fun c_9 => ?_)
    · skip
      refine J_bipush h (v := (-4)) dX4_firstThatStops_106 (by decide) ?_
      exact hR ((-4)) (ce1, se1, ln1, en1) (by trivial) 108 _ dX4_firstThatStops_108
    · skip
      refine J_iconst h (v := nI 1) dX4_firstThatStops_12 (by decide) ?_
      refine J_istore h (lv' := [(5, .int (nI 1)), (0, .ref y0), (1, .ref a0), (2, .ref d0), (3, .int (nI p0)), (4, .int (nI x))]) dX4_firstThatStops_13 (by decide) rfl ?_
      refine J.loc [1, 2, 3, 4, 5, 0] (lv' := [(0, .ref y0), (1, .ref a0), (2, .ref d0), (3, .int (nI p0)), (4, .int (nI x)), (5, .int (nI 1))]) rfl ?_
      exact w_X4_firstThatStops_15 X h y0 cd tk a0 a1 a2 th ow co ro sl d0 d1 d2 ce se len en p0 hrc hco hro hp0 hR n_3 ih_3 (21 - 1 + 1) x 1 ce1 se1 ln1 en1 (by first | exact hx |  assumption | omega | rfl) (by first | assumption | omega | rfl) (by first | assumption | omega | rfl) (by omega)
set_option maxRecDepth 100000 in
set_option maxHeartbeats 4000000 in
theorem w_X4_firstThatStops (X : Cx) {cI cE : ClassId} (h : Ok X cX4_firstThatStops RX4 9 cI cE 3 0 0) (y0 : Nat) (cd : Int32) (tk : Int32) (a0 : Nat) (a1 : Nat) (a2 : Nat) (th : Nat → Int32) (ow : Nat → Int32) (co : Nat) (ro : Nat) (sl : Int32) (d0 : Nat) (d1 : Nat) (d2 : Nat) (ce : Nat → Int32) (se : Nat → Int32) (len : Int32) (en : Int32) (p0 : Nat) (hrc : ro * co ≤ 48) (hco : co ≤ 6) (hro : ro ≤ 8) (hp0 : p0 < 48) (hR : ∀ (r : Int32) (u : (Nat → Int32) × (Nat → Int32) × (Int32) × (Int32)), ((True)) → RetI X cX4_firstThatStops 9 0 0 r [(y0, .inr (4, [.int cd, .int tk])), (a0, .inr (0, [.ref a1, .ref a2, .int (nI co), .int (nI ro), .int sl])), (a1, .inl (cI, 48, .inl th)), (a2, .inl (cI, 48, .inl ow)), (d0, .inr (3, [.ref d1, .ref d2, .int u.2.2.1, .int u.2.2.2])), (d1, .inl (cI, 8, .inl u.1)), (d2, .inl (cI, 8, .inl u.2.1))]) : J X 9 0 0 0 [(0, .ref y0), (1, .ref a0), (2, .ref d0), (3, .int (nI p0))] [] [(y0, .inr (4, [.int cd, .int tk])), (a0, .inr (0, [.ref a1, .ref a2, .int (nI co), .int (nI ro), .int sl])), (a1, .inl (cI, 48, .inl th)), (a2, .inl (cI, 48, .inl ow)), (d0, .inr (3, [.ref d1, .ref d2, .int len, .int en])), (d1, .inl (cI, 8, .inl ce)), (d2, .inl (cI, 8, .inl se))] := by
  refine J_iconst h (v := nI 0) dX4_firstThatStops_0 (by decide) ?_
  refine J_istore h (lv' := [(4, .int (nI 0)), (0, .ref y0), (1, .ref a0), (2, .ref d0), (3, .int (nI p0))]) dX4_firstThatStops_1 (by decide) rfl ?_
  refine J.loc [1, 2, 3, 4, 0] (lv' := [(0, .ref y0), (1, .ref a0), (2, .ref d0), (3, .int (nI p0)), (4, .int (nI 0))]) rfl ?_
  exact w_X4_firstThatStops_3 X h y0 cd tk a0 a1 a2 th ow co ro sl d0 d1 d2 ce se len en p0 hrc hco hro hp0 hR  (co - 0 + 1) 0 ce se len en (by first | assumption | omega | rfl) (by omega)
theorem c_X4_firstThatStops (l : Launch) (D : va_G) (cI cE : ClassId) (y0 : Nat) (cd : Int32) (tk : Int32) (a0 : Nat) (a1 : Nat) (a2 : Nat) (th : Nat → Int32) (ow : Nat → Int32) (co : Nat) (ro : Nat) (sl : Int32) (d0 : Nat) (d1 : Nat) (d2 : Nat) (ce : Nat → Int32) (se : Nat → Int32) (len : Int32) (en : Int32) (p0 : Nat) (hrc : ro * co ≤ 48) (hco : co ≤ 6) (hro : ro ≤ 8) (hp0 : p0 < 48) : Ci l D cI cE yX4_firstThatStops cX4_firstThatStops 9 (some .int) 3 0 0 [.ref y0, .ref a0, .ref d0, .int (nI p0)] [(y0, .inr (4, [.int cd, .int tk])), (a0, .inr (0, [.ref a1, .ref a2, .int (nI co), .int (nI ro), .int sl])), (a1, .inl (cI, 48, .inl th)), (a2, .inl (cI, 48, .inl ow)), (d0, .inr (3, [.ref d1, .ref d2, .int len, .int en])), (d1, .inl (cI, 8, .inl ce)), (d2, .inl (cI, 8, .inl se))] (fun (r : Int32) (u : (Nat → Int32) × (Nat → Int32) × (Int32) × (Int32)) => ((True))) (fun (u : (Nat → Int32) × (Nat → Int32) × (Int32) × (Int32)) => ([(y0, .inr (4, [.int cd, .int tk])), (a0, .inr (0, [.ref a1, .ref a2, .int (nI co), .int (nI ro), .int sl])), (a1, .inl (cI, 48, .inl th)), (a2, .inl (cI, 48, .inl ow)), (d0, .inr (3, [.ref d1, .ref d2, .int u.2.2.1, .int u.2.2.2])), (d1, .inl (cI, 8, .inl u.1)), (d2, .inl (cI, 8, .inl u.2.1))] : va_W)) :=
  Ci.of (by decide) (Nat.le_of_ble_eq_true rfl) (fun _ _ _ => rfl) (fun X h hR => w_X4_firstThatStops X h y0 cd tk a0 a1 a2 th ow co ro sl d0 d1 d2 ce se len en p0 hrc hco hro hp0 hR)
theorem yv_X4_firstThatStops : YV yX4_firstThatStops cX4_firstThatStops 9 (some .int) 3 := ⟨no_X4_firstThatStops, nv_X4_firstThatStops, ni_X4, nk_X4_firstThatStops, by decide +kernel⟩
set_option maxRecDepth 100000 in
set_option maxHeartbeats 4000000 in
theorem w_X4_findMostTaken_53 (X : Cx) {cI cE : ClassId} (h : Ok X cX4_findMostTaken RX4 11 cI cE 3 0 0) (y0 : Nat) (cd : Int32) (tk : Int32) (a0 : Nat) (a1 : Nat) (a2 : Nat) (th : Nat → Int32) (ow : Nat → Int32) (co : Nat) (ro : Nat) (sl : Int32) (d0 : Nat) (d1 : Nat) (d2 : Nat) (ce : Nat → Int32) (se : Nat → Int32) (len : Int32) (en : Int32) (p0 : Int32) (its : Nat) (hrc : ro * co ≤ 48) (hco : co ≤ 6) (hro : ro ≤ 8) (hits : its < 2) (hR : ∀ (u : (Int32) × (Int32) × (Nat → Int32) × (Nat → Int32) × (Int32) × (Int32)), ((True)) → RetV X cX4_findMostTaken 11 0 0 [(y0, .inr (4, [.int u.1, .int u.2.1])), (a0, .inr (0, [.ref a1, .ref a2, .int (nI co), .int (nI ro), .int sl])), (a1, .inl (cI, 48, .inl th)), (a2, .inl (cI, 48, .inl ow)), (d0, .inr (3, [.ref d1, .ref d2, .int u.2.2.2.2.1, .int u.2.2.2.2.2])), (d1, .inl (cI, 8, .inl u.2.2.1)), (d2, .inl (cI, 8, .inl u.2.2.2.1))]) (n_15 : Nat) (ih_15 : ∀ (x : Nat) (cd1 : Int32) (tk1 : Int32) (ce1 : Nat → Int32) (se1 : Nat → Int32) (ln1 : Int32) (en1 : Int32), (x ≤ co) → co - x < n_15 → J X 11 0 0 15 [(0, .ref y0), (1, .ref a0), (2, .ref d0), (3, .int p0), (4, .int (nI its)), (5, .int (nI x))] [] [(y0, .inr (4, [.int cd1, .int tk1])), (a0, .inr (0, [.ref a1, .ref a2, .int (nI co), .int (nI ro), .int sl])), (a1, .inl (cI, 48, .inl th)), (a2, .inl (cI, 48, .inl ow)), (d0, .inr (3, [.ref d1, .ref d2, .int ln1, .int en1])), (d1, .inl (cI, 8, .inl ce1)), (d2, .inl (cI, 8, .inl se1))]) (n_27 : Nat) (ih_27 : ∀ (x : Nat) (w : Nat) (cd1 : Int32) (tk1 : Int32) (ce1 : Nat → Int32) (se1 : Nat → Int32) (ln1 : Int32) (en1 : Int32), (x < co) → (1 ≤ w ∧ w ≤ 21) → (co - x < n_15 + 1) → 21 - w < n_27 → J X 11 0 0 27 [(0, .ref y0), (1, .ref a0), (2, .ref d0), (3, .int p0), (4, .int (nI its)), (5, .int (nI x)), (6, .int (nI w))] [] [(y0, .inr (4, [.int cd1, .int tk1])), (a0, .inr (0, [.ref a1, .ref a2, .int (nI co), .int (nI ro), .int sl])), (a1, .inl (cI, 48, .inl th)), (a2, .inl (cI, 48, .inl ow)), (d0, .inr (3, [.ref d1, .ref d2, .int ln1, .int en1])), (d1, .inl (cI, 8, .inl ce1)), (d2, .inl (cI, 8, .inl se1))]) : ∀ (n_53 : Nat) (x : Nat) (w : Nat) (rl : Nat) (i : Nat) (cd1 : Int32) (tk1 : Int32) (ce1 : Nat → Int32) (se1 : Nat → Int32) (ln1 : Int32) (en1 : Int32), (x < co) → (1 ≤ w ∧ w ≤ 20) → (rl ≤ ro) → (i ≤ 2 * rl + 1) → (co - x < n_15 + 1) → (21 - w < n_27 + 1) → 2 * rl + 1 - i < n_53 → J X 11 0 0 53 [(0, .ref y0), (1, .ref a0), (2, .ref d0), (3, .int p0), (4, .int (nI its)), (5, .int (nI x)), (6, .int (nI w)), (7, .int (nI rl)), (8, .int (nI i))] [] [(y0, .inr (4, [.int cd1, .int tk1])), (a0, .inr (0, [.ref a1, .ref a2, .int (nI co), .int (nI ro), .int sl])), (a1, .inl (cI, 48, .inl th)), (a2, .inl (cI, 48, .inl ow)), (d0, .inr (3, [.ref d1, .ref d2, .int ln1, .int en1])), (d1, .inl (cI, 8, .inl ce1)), (d2, .inl (cI, 8, .inl se1))] := by
  intro n_53
  induction n_53 with
  | zero => intro x w rl i cd1 tk1 ce1 se1 ln1 en1 hx hw hrl hi hm hm2 hn_; exact absurd hn_ (Nat.not_lt_zero _)
  | succ n_53 ih_53 =>
    intro x w rl i cd1 tk1 ce1 se1 ln1 en1 hx hw hrl hi hm hm2 hn_53
    refine J_iload h dX4_findMostTaken_53 8 rfl ?_
    refine J_iconst h (v := nI 2) dX4_findMostTaken_55 (by decide) ?_
    refine J_iload h dX4_findMostTaken_56 7 rfl ?_
    refine N_imul h dX4_findMostTaken_58 ?_
    refine N_icmp_gt h 126 dX4_findMostTaken_59 (by decide) (by omega) (by omega) (fun c_59 => ?_) (fun c_59 => ?_)
    · skip
      refine J_iinc h (v := nI (w + 1)) (lv' := [(6, .int (nI (w + 1))), (0, .ref y0), (1, .ref a0), (2, .ref d0), (3, .int p0), (4, .int (nI its)), (5, .int (nI x)), (7, .int (nI rl)), (8, .int (nI i))]) dX4_findMostTaken_126 6 rfl (inc_ok _ 1) (by decide) rfl ?_
      refine J_goto h 27 dX4_findMostTaken_129 (by decide) ?_
      refine J.loc [1, 2, 3, 4, 5, 6, 0] (lv' := [(0, .ref y0), (1, .ref a0), (2, .ref d0), (3, .int p0), (4, .int (nI its)), (5, .int (nI x)), (6, .int (nI (w + 1)))]) rfl ?_
      exact ih_27 x (w + 1) cd1 tk1 ce1 se1 ln1 en1 (by first | exact hx |  assumption | omega | rfl) (by first | exact hw |  assumption | omega | rfl) (by first | exact hm |  assumption | omega | rfl) (by omega)
    · skip
      refine J_iload h dX4_findMostTaken_62 8 rfl ?_
      refine J_iload h dX4_findMostTaken_64 7 rfl ?_
      have hhs := hsA_le (i := i) (rl := rl) (by omega)
      refine K_si h (wr := [(y0, .inr (4, [.int cd1, .int tk1])), (a0, .inr (0, [.ref a1, .ref a2, .int (nI co), .int (nI ro), .int sl])), (a1, .inl (cI, 48, .inl th)), (a2, .inl (cI, 48, .inl ow)), (d0, .inr (3, [.ref d1, .ref d2, .int ln1, .int en1])), (d1, .inl (cI, 8, .inl ce1)), (d2, .inl (cI, 8, .inl se1))]) (c_X4_heelsAt (xl X) (xD X) cI cE i rl (by first | assumption | omega | rfl) (by first | assumption | omega | rfl)) yv_X4_heelsAt nm_X4_32 (by decide) (by decide) rfl rfl rfl (Nat.le_of_ble_eq_true rfl) (Nat.le_refl _) (Nat.le_refl _) dX4_findMostTaken_66 (fun r_66 u_66 p_66 => ?_)
      obtain ⟨rfl, -⟩ := p_66
      show J X 11 0 0 69 [(0, .ref y0), (1, .ref a0), (2, .ref d0), (3, .int p0), (4, .int (nI its)), (5, .int (nI x)), (6, .int (nI w)), (7, .int (nI rl)), (8, .int (nI i))] [.int (nI (hsA i rl))] [(y0, .inr (4, [.int cd1, .int tk1])), (a0, .inr (0, [.ref a1, .ref a2, .int (nI co), .int (nI ro), .int sl])), (a1, .inl (cI, 48, .inl th)), (a2, .inl (cI, 48, .inl ow)), (d0, .inr (3, [.ref d1, .ref d2, .int ln1, .int en1])), (d1, .inl (cI, 8, .inl ce1)), (d2, .inl (cI, 8, .inl se1))]
      refine J_istore h (lv' := [(9, .int (nI (hsA i rl))), (0, .ref y0), (1, .ref a0), (2, .ref d0), (3, .int p0), (4, .int (nI its)), (5, .int (nI x)), (6, .int (nI w)), (7, .int (nI rl)), (8, .int (nI i))]) dX4_findMostTaken_69 (by decide) rfl ?_
      refine J_aload_n h (i := 2) dX4_findMostTaken_71 rfl 3 rfl ?_
      refine J_aload_n h (i := 1) dX4_findMostTaken_72 rfl 2 rfl ?_
      refine J_iload h dX4_findMostTaken_73 6 rfl ?_
      refine J_iload h dX4_findMostTaken_75 7 rfl ?_
      refine J_iload h dX4_findMostTaken_77 0 rfl ?_
      have hrl2 := rln_le th co ro (hsA i rl) x w
      refine J.wld [4, 5, 6, 1, 2, 3, 0] (ws' := [(d0, .inr (3, [.ref d1, .ref d2, .int ln1, .int en1])), (d1, .inl (cI, 8, .inl ce1)), (d2, .inl (cI, 8, .inl se1)), (a0, .inr (0, [.ref a1, .ref a2, .int (nI co), .int (nI ro), .int sl])), (a1, .inl (cI, 48, .inl th)), (a2, .inl (cI, 48, .inl ow)), (y0, .inr (4, [.int cd1, .int tk1]))]) rfl rfl ?_
      refine K_vv h (wr := [(y0, .inr (4, [.int cd1, .int tk1]))]) (c_X3_run (xl X) (xD X) cI cE d0 d1 d2 ce1 se1 ln1 en1 a0 a1 a2 th ow co ro sl x w (hsA i rl) (by first | exact hrc |  assumption | omega | rfl) (by first | exact hco |  assumption | omega | rfl) (by first | exact hro |  assumption | omega | rfl) (by first | exact hx |  assumption | omega | rfl) (by first | exact hw |  assumption | omega | rfl) (by first | assumption | omega | rfl)) yv_X3_run nm_X4_23 (by decide) (by decide) rfl rfl 0 rfl rfl rfl rfl (Nat.le_of_ble_eq_true rfl) (Nat.le_refl _) (Nat.le_refl _) dX4_findMostTaken_79 (fun u_79 p_79 => ?_)
      obtain ⟨ce2_79, se2_79⟩ := u_79
      try dsimp only at p_79
      obtain ⟨f0_79, f1_79, -⟩ := p_79
      show J X 11 0 0 82 [(9, .int (nI (hsA i rl))), (0, .ref y0), (1, .ref a0), (2, .ref d0), (3, .int p0), (4, .int (nI its)), (5, .int (nI x)), (6, .int (nI w)), (7, .int (nI rl)), (8, .int (nI i))] [] [(d0, .inr (3, [.ref d1, .ref d2, .int (nI (rln th co ro (hsA i rl) x w)), .int (nI (ren th co ro (hsA i rl) x w))])), (d1, .inl (cI, 8, .inl ce2_79)), (d2, .inl (cI, 8, .inl se2_79)), (a0, .inr (0, [.ref a1, .ref a2, .int (nI co), .int (nI ro), .int sl])), (a1, .inl (cI, 48, .inl th)), (a2, .inl (cI, 48, .inl ow)), (y0, .inr (4, [.int cd1, .int tk1]))]
      refine J_aload_n h (i := 2) dX4_findMostTaken_82 rfl 3 rfl ?_
      refine J_aload_n h (i := 1) dX4_findMostTaken_83 rfl 2 rfl ?_
      refine J_iload_n h (i := 3) dX4_findMostTaken_84 rfl 4 rfl ?_
      refine J_iload h dX4_findMostTaken_85 5 rfl ?_
      refine K_vi h (wr := [(y0, .inr (4, [.int cd1, .int tk1]))]) (c_X3_cellsThatAre (xl X) (xD X) cI cE d0 d1 d2 ce2_79 se2_79 (rln th co ro (hsA i rl) x w) (nI (ren th co ro (hsA i rl) x w)) a0 a1 a2 th ow co ro sl p0 its (rcl th co (hsA i rl) x w) (by first | exact hrc |  assumption | omega | rfl) (by first | assumption | omega | rfl) (by intro k hk; exact ⟨f0_79 k hk, rcl_lt th (show x < co by omega) (show w ≤ 20 by omega) (by omega)⟩) (by first | exact hits |  assumption | omega | rfl)) yv_X3_cellsThatAre nm_X4_43 (by decide) (by decide) rfl rfl 0 rfl rfl rfl rfl (Nat.le_of_ble_eq_true rfl) (Nat.le_refl _) (Nat.le_refl _) dX4_findMostTaken_87 (fun r_87 u_87 p_87 => ?_)
      obtain ⟨rfl, -⟩ := p_87
      show J X 11 0 0 90 [(9, .int (nI (hsA i rl))), (0, .ref y0), (1, .ref a0), (2, .ref d0), (3, .int p0), (4, .int (nI its)), (5, .int (nI x)), (6, .int (nI w)), (7, .int (nI rl)), (8, .int (nI i))] [.int (nI (cntP (fun k => decide (ow ((rcl th co (hsA i rl) x w) k) = p0 ↔ its = 1)) (rln th co ro (hsA i rl) x w)))] [(d0, .inr (3, [.ref d1, .ref d2, .int (nI ((rln th co ro (hsA i rl) x w))), .int (nI (ren th co ro (hsA i rl) x w))])), (d1, .inl (cI, 8, .inl ce2_79)), (d2, .inl (cI, 8, .inl se2_79)), (a0, .inr (0, [.ref a1, .ref a2, .int (nI co), .int (nI ro), .int sl])), (a1, .inl (cI, 48, .inl th)), (a2, .inl (cI, 48, .inl ow)), (y0, .inr (4, [.int cd1, .int tk1]))]
      have hcl := cntP_le (fun k => decide (ow (rcl th co (hsA i rl) x w k) = p0 ↔ its = 1)) (rln th co ro (hsA i rl) x w)
      refine J_istore h (lv' := [(10, .int (nI (cntP (fun k => decide (ow ((rcl th co (hsA i rl) x w) k) = p0 ↔ its = 1)) (rln th co ro (hsA i rl) x w)))), (9, .int (nI (hsA i rl))), (0, .ref y0), (1, .ref a0), (2, .ref d0), (3, .int p0), (4, .int (nI its)), (5, .int (nI x)), (6, .int (nI w)), (7, .int (nI rl)), (8, .int (nI i))]) dX4_findMostTaken_90 (by decide) rfl ?_
      refine J_iload h dX4_findMostTaken_92 0 rfl ?_
      refine J_aload_n h (i := 0) dX4_findMostTaken_94 rfl 2 rfl ?_
      refine J_get h inX4 rfl 6 1 (by decide) rfl rfl nf_X4_15 dX4_findMostTaken_95 ?_
      refine T_icmp_le h (A := ((cntP (fun k => decide (ow ((rcl th co (hsA i rl) x w) k) = p0 ↔ its = 1)) (rln th co ro (hsA i rl) x w) : Nat) : Int)) (B := (tk1).toInt) 120 dX4_findMostTaken_98 (by decide) (nI_toInt (by omega)) (rfl) (fun c_98 => ?_) (fun c_98 => ?_)
      · skip
        refine J_iinc h (v := nI (i + 1)) (lv' := [(8, .int (nI (i + 1))), (10, .int (nI (cntP (fun k => decide (ow ((rcl th co (hsA i rl) x w) k) = p0 ↔ its = 1)) (rln th co ro (hsA i rl) x w)))), (9, .int (nI (hsA i rl))), (0, .ref y0), (1, .ref a0), (2, .ref d0), (3, .int p0), (4, .int (nI its)), (5, .int (nI x)), (6, .int (nI w)), (7, .int (nI rl))]) dX4_findMostTaken_120 10 rfl (inc_ok _ 1) (by decide) rfl ?_
        refine J_goto h 53 dX4_findMostTaken_123 (by decide) ?_
        refine J.wld [6, 3, 4, 5, 0, 1, 2] (ws' := [(y0, .inr (4, [.int cd1, .int tk1])), (a0, .inr (0, [.ref a1, .ref a2, .int (nI co), .int (nI ro), .int sl])), (a1, .inl (cI, 48, .inl th)), (a2, .inl (cI, 48, .inl ow)), (d0, .inr (3, [.ref d1, .ref d2, .int (nI ((rln th co ro (hsA i rl) x w))), .int (nI (ren th co ro (hsA i rl) x w))])), (d1, .inl (cI, 8, .inl ce2_79)), (d2, .inl (cI, 8, .inl se2_79))]) rfl rfl ?_
        refine J.loc [3, 4, 5, 6, 7, 8, 9, 10, 0] (lv' := [(0, .ref y0), (1, .ref a0), (2, .ref d0), (3, .int p0), (4, .int (nI its)), (5, .int (nI x)), (6, .int (nI w)), (7, .int (nI rl)), (8, .int (nI (i + 1)))]) rfl ?_
        exact ih_53 x w rl (i + 1) cd1 tk1 ce2_79 se2_79 (nI ((rln th co ro (hsA i rl) x w))) (nI (ren th co ro (hsA i rl) x w)) (by first | exact hx |  assumption | omega | rfl) (by first | exact hw |  assumption | omega | rfl) (by first | exact hrl |  assumption | omega | rfl) (by first | exact hi |  assumption | omega | rfl) (by first | exact hm |  assumption | omega | rfl) (by first | exact hm2 |  assumption | omega | rfl) (by omega)
      · skip
        refine J_aload_n h (i := 0) dX4_findMostTaken_101 rfl 2 rfl ?_
        refine J_iload h dX4_findMostTaken_102 0 rfl ?_
        refine J_put h (ws' := [(d0, .inr (3, [.ref d1, .ref d2, .int (nI ((rln th co ro (hsA i rl) x w))), .int (nI (ren th co ro (hsA i rl) x w))])), (d1, .inl (cI, 8, .inl ce2_79)), (d2, .inl (cI, 8, .inl se2_79)), (a0, .inr (0, [.ref a1, .ref a2, .int (nI co), .int (nI ro), .int sl])), (a1, .inl (cI, 48, .inl th)), (a2, .inl (cI, 48, .inl ow)), (y0, .inr (4, [.int cd1, .int (nI (cntP (fun k => decide (ow ((rcl th co (hsA i rl) x w) k) = p0 ↔ its = 1)) (rln th co ro (hsA i rl) x w)))]))]) inX4 tyX4 tyX4_ok nmX4 rfl 6 1 (by decide) rfl nf_X4_15 rfl rfl rfl rfl (Nat.le_of_ble_eq_true rfl) dX4_findMostTaken_104 rfl ?_
        refine J_aload_n h (i := 0) dX4_findMostTaken_107 rfl 2 rfl ?_
        refine J_iload h dX4_findMostTaken_108 7 rfl ?_
        refine J_iload h dX4_findMostTaken_110 8 rfl ?_
        refine J_iload h dX4_findMostTaken_112 1 rfl ?_
        refine K_si h (wr := [(d0, .inr (3, [.ref d1, .ref d2, .int (nI ((rln th co ro (hsA i rl) x w))), .int (nI (ren th co ro (hsA i rl) x w))])), (d1, .inl (cI, 8, .inl ce2_79)), (d2, .inl (cI, 8, .inl se2_79)), (a0, .inr (0, [.ref a1, .ref a2, .int (nI co), .int (nI ro), .int sl])), (a1, .inl (cI, 48, .inl th)), (a2, .inl (cI, 48, .inl ow)), (y0, .inr (4, [.int cd1, .int (nI (cntP (fun k => decide (ow ((rcl th co (hsA i rl) x w) k) = p0 ↔ its = 1)) (rln th co ro (hsA i rl) x w)))]))]) (c_X4_codeOf (xl X) (xD X) cI cE x w (hsA i rl) ) yv_X4_codeOf nm_X4_39 (by decide) (by decide) rfl rfl rfl (Nat.le_of_ble_eq_true rfl) (Nat.le_refl _) (Nat.le_refl _) dX4_findMostTaken_114 (fun r_114 u_114 p_114 => ?_)
        obtain ⟨rfl, -⟩ := p_114
        show J X 11 0 0 117 [(10, .int (nI (cntP (fun k => decide (ow ((rcl th co (hsA i rl) x w) k) = p0 ↔ its = 1)) (rln th co ro (hsA i rl) x w)))), (9, .int (nI (hsA i rl))), (0, .ref y0), (1, .ref a0), (2, .ref d0), (3, .int p0), (4, .int (nI its)), (5, .int (nI x)), (6, .int (nI w)), (7, .int (nI rl)), (8, .int (nI i))] [.int (nI (10000 * x + 100 * w + (hsA i rl))), .ref y0] [(d0, .inr (3, [.ref d1, .ref d2, .int (nI ((rln th co ro (hsA i rl) x w))), .int (nI (ren th co ro (hsA i rl) x w))])), (d1, .inl (cI, 8, .inl ce2_79)), (d2, .inl (cI, 8, .inl se2_79)), (a0, .inr (0, [.ref a1, .ref a2, .int (nI co), .int (nI ro), .int sl])), (a1, .inl (cI, 48, .inl th)), (a2, .inl (cI, 48, .inl ow)), (y0, .inr (4, [.int cd1, .int (nI (cntP (fun k => decide (ow ((rcl th co (hsA i rl) x w) k) = p0 ↔ its = 1)) (rln th co ro (hsA i rl) x w)))]))]
        refine J_put h (ws' := [(d0, .inr (3, [.ref d1, .ref d2, .int (nI ((rln th co ro (hsA i rl) x w))), .int (nI (ren th co ro (hsA i rl) x w))])), (d1, .inl (cI, 8, .inl ce2_79)), (d2, .inl (cI, 8, .inl se2_79)), (a0, .inr (0, [.ref a1, .ref a2, .int (nI co), .int (nI ro), .int sl])), (a1, .inl (cI, 48, .inl th)), (a2, .inl (cI, 48, .inl ow)), (y0, .inr (4, [.int (nI (10000 * x + 100 * w + (hsA i rl))), .int (nI (cntP (fun k => decide (ow ((rcl th co (hsA i rl) x w) k) = p0 ↔ its = 1)) (rln th co ro (hsA i rl) x w)))]))]) inX4 tyX4 tyX4_ok nmX4 rfl 6 0 (by decide) rfl nf_X4_9 rfl rfl rfl rfl (Nat.le_of_ble_eq_true rfl) dX4_findMostTaken_117 rfl ?_
        refine J_iinc h (v := nI (i + 1)) (lv' := [(8, .int (nI (i + 1))), (10, .int (nI (cntP (fun k => decide (ow ((rcl th co (hsA i rl) x w) k) = p0 ↔ its = 1)) (rln th co ro (hsA i rl) x w)))), (9, .int (nI (hsA i rl))), (0, .ref y0), (1, .ref a0), (2, .ref d0), (3, .int p0), (4, .int (nI its)), (5, .int (nI x)), (6, .int (nI w)), (7, .int (nI rl))]) dX4_findMostTaken_120 10 rfl (inc_ok _ 1) (by decide) rfl ?_
        refine J_goto h 53 dX4_findMostTaken_123 (by decide) ?_
        refine J.wld [6, 3, 4, 5, 0, 1, 2] (ws' := [(y0, .inr (4, [.int (nI (10000 * x + 100 * w + (hsA i rl))), .int (nI (cntP (fun k => decide (ow ((rcl th co (hsA i rl) x w) k) = p0 ↔ its = 1)) (rln th co ro (hsA i rl) x w)))])), (a0, .inr (0, [.ref a1, .ref a2, .int (nI co), .int (nI ro), .int sl])), (a1, .inl (cI, 48, .inl th)), (a2, .inl (cI, 48, .inl ow)), (d0, .inr (3, [.ref d1, .ref d2, .int (nI ((rln th co ro (hsA i rl) x w))), .int (nI (ren th co ro (hsA i rl) x w))])), (d1, .inl (cI, 8, .inl ce2_79)), (d2, .inl (cI, 8, .inl se2_79))]) rfl rfl ?_
        refine J.loc [3, 4, 5, 6, 7, 8, 9, 10, 0] (lv' := [(0, .ref y0), (1, .ref a0), (2, .ref d0), (3, .int p0), (4, .int (nI its)), (5, .int (nI x)), (6, .int (nI w)), (7, .int (nI rl)), (8, .int (nI (i + 1)))]) rfl ?_
        exact ih_53 x w rl (i + 1) (nI (10000 * x + 100 * w + (hsA i rl))) (nI (cntP (fun k => decide (ow ((rcl th co (hsA i rl) x w) k) = p0 ↔ its = 1)) (rln th co ro (hsA i rl) x w))) ce2_79 se2_79 (nI ((rln th co ro (hsA i rl) x w))) (nI (ren th co ro (hsA i rl) x w)) (by first | exact hx |  assumption | omega | rfl) (by first | exact hw |  assumption | omega | rfl) (by first | exact hrl |  assumption | omega | rfl) (by first | exact hi |  assumption | omega | rfl) (by first | exact hm |  assumption | omega | rfl) (by first | exact hm2 |  assumption | omega | rfl) (by omega)
set_option maxRecDepth 100000 in
set_option maxHeartbeats 4000000 in
theorem w_X4_findMostTaken_27 (X : Cx) {cI cE : ClassId} (h : Ok X cX4_findMostTaken RX4 11 cI cE 3 0 0) (y0 : Nat) (cd : Int32) (tk : Int32) (a0 : Nat) (a1 : Nat) (a2 : Nat) (th : Nat → Int32) (ow : Nat → Int32) (co : Nat) (ro : Nat) (sl : Int32) (d0 : Nat) (d1 : Nat) (d2 : Nat) (ce : Nat → Int32) (se : Nat → Int32) (len : Int32) (en : Int32) (p0 : Int32) (its : Nat) (hrc : ro * co ≤ 48) (hco : co ≤ 6) (hro : ro ≤ 8) (hits : its < 2) (hR : ∀ (u : (Int32) × (Int32) × (Nat → Int32) × (Nat → Int32) × (Int32) × (Int32)), ((True)) → RetV X cX4_findMostTaken 11 0 0 [(y0, .inr (4, [.int u.1, .int u.2.1])), (a0, .inr (0, [.ref a1, .ref a2, .int (nI co), .int (nI ro), .int sl])), (a1, .inl (cI, 48, .inl th)), (a2, .inl (cI, 48, .inl ow)), (d0, .inr (3, [.ref d1, .ref d2, .int u.2.2.2.2.1, .int u.2.2.2.2.2])), (d1, .inl (cI, 8, .inl u.2.2.1)), (d2, .inl (cI, 8, .inl u.2.2.2.1))]) (n_15 : Nat) (ih_15 : ∀ (x : Nat) (cd1 : Int32) (tk1 : Int32) (ce1 : Nat → Int32) (se1 : Nat → Int32) (ln1 : Int32) (en1 : Int32), (x ≤ co) → co - x < n_15 → J X 11 0 0 15 [(0, .ref y0), (1, .ref a0), (2, .ref d0), (3, .int p0), (4, .int (nI its)), (5, .int (nI x))] [] [(y0, .inr (4, [.int cd1, .int tk1])), (a0, .inr (0, [.ref a1, .ref a2, .int (nI co), .int (nI ro), .int sl])), (a1, .inl (cI, 48, .inl th)), (a2, .inl (cI, 48, .inl ow)), (d0, .inr (3, [.ref d1, .ref d2, .int ln1, .int en1])), (d1, .inl (cI, 8, .inl ce1)), (d2, .inl (cI, 8, .inl se1))]) : ∀ (n_27 : Nat) (x : Nat) (w : Nat) (cd1 : Int32) (tk1 : Int32) (ce1 : Nat → Int32) (se1 : Nat → Int32) (ln1 : Int32) (en1 : Int32), (x < co) → (1 ≤ w ∧ w ≤ 21) → (co - x < n_15 + 1) → 21 - w < n_27 → J X 11 0 0 27 [(0, .ref y0), (1, .ref a0), (2, .ref d0), (3, .int p0), (4, .int (nI its)), (5, .int (nI x)), (6, .int (nI w))] [] [(y0, .inr (4, [.int cd1, .int tk1])), (a0, .inr (0, [.ref a1, .ref a2, .int (nI co), .int (nI ro), .int sl])), (a1, .inl (cI, 48, .inl th)), (a2, .inl (cI, 48, .inl ow)), (d0, .inr (3, [.ref d1, .ref d2, .int ln1, .int en1])), (d1, .inl (cI, 8, .inl ce1)), (d2, .inl (cI, 8, .inl se1))] := by
  intro n_27
  induction n_27 with
  | zero => intro x w cd1 tk1 ce1 se1 ln1 en1 hx hw hm hn_; exact absurd hn_ (Nat.not_lt_zero _)
  | succ n_27 ih_27 =>
    intro x w cd1 tk1 ce1 se1 ln1 en1 hx hw hm hn_27
    refine J_iload h dX4_findMostTaken_27 6 rfl ?_
    refine J_bipush h (v := nI 20) dX4_findMostTaken_29 (by decide) ?_
    refine N_icmp_gt h 132 dX4_findMostTaken_31 (by decide) (by omega) (by omega) (fun c_31 => ?_) (fun c_31 => ?_)
    · skip
      refine J_iinc h (v := nI (x + 1)) (lv' := [(5, .int (nI (x + 1))), (0, .ref y0), (1, .ref a0), (2, .ref d0), (3, .int p0), (4, .int (nI its)), (6, .int (nI w))]) dX4_findMostTaken_132 5 rfl (inc_ok _ 1) (by decide) rfl ?_
      refine J_goto h 15 dX4_findMostTaken_135 (by decide) ?_
      refine J.loc [1, 2, 3, 4, 5, 0] (lv' := [(0, .ref y0), (1, .ref a0), (2, .ref d0), (3, .int p0), (4, .int (nI its)), (5, .int (nI (x + 1)))]) rfl ?_
      exact ih_15 (x + 1) cd1 tk1 ce1 se1 ln1 en1 (by first | exact hx |  assumption | omega | rfl) (by omega)
    · skip
      refine J_aload_n h (i := 2) dX4_findMostTaken_34 rfl 2 rfl ?_
      refine J_aload_n h (i := 1) dX4_findMostTaken_35 rfl 1 rfl ?_
      refine J_iload h dX4_findMostTaken_36 5 rfl ?_
      refine J_iload h dX4_findMostTaken_38 6 rfl ?_
      refine J_iconst h (v := nI 0) dX4_findMostTaken_40 (by decide) ?_
      refine J.wld [4, 5, 6, 1, 2, 3, 0] (ws' := [(d0, .inr (3, [.ref d1, .ref d2, .int ln1, .int en1])), (d1, .inl (cI, 8, .inl ce1)), (d2, .inl (cI, 8, .inl se1)), (a0, .inr (0, [.ref a1, .ref a2, .int (nI co), .int (nI ro), .int sl])), (a1, .inl (cI, 48, .inl th)), (a2, .inl (cI, 48, .inl ow)), (y0, .inr (4, [.int cd1, .int tk1]))]) rfl rfl ?_
      refine K_vv h (wr := [(y0, .inr (4, [.int cd1, .int tk1]))]) (c_X3_run (xl X) (xD X) cI cE d0 d1 d2 ce1 se1 ln1 en1 a0 a1 a2 th ow co ro sl x w 0 (by first | exact hrc |  assumption | omega | rfl) (by first | exact hco |  assumption | omega | rfl) (by first | exact hro |  assumption | omega | rfl) (by first | exact hx |  assumption | omega | rfl) (by first | exact hw |  assumption | omega | rfl) (by first | assumption | omega | rfl)) yv_X3_run nm_X4_23 (by decide) (by decide) rfl rfl 0 rfl rfl rfl rfl (Nat.le_of_ble_eq_true rfl) (Nat.le_refl _) (Nat.le_refl _) dX4_findMostTaken_41 (fun u_41 p_41 => ?_)
      obtain ⟨ce2_41, se2_41⟩ := u_41
      try dsimp only at p_41
      obtain ⟨f0_41, f1_41, -⟩ := p_41
      show J X 11 0 0 44 [(0, .ref y0), (1, .ref a0), (2, .ref d0), (3, .int p0), (4, .int (nI its)), (5, .int (nI x)), (6, .int (nI w))] [] [(d0, .inr (3, [.ref d1, .ref d2, .int (nI (rln th co ro 0 x w)), .int (nI (ren th co ro 0 x w))])), (d1, .inl (cI, 8, .inl ce2_41)), (d2, .inl (cI, 8, .inl se2_41)), (a0, .inr (0, [.ref a1, .ref a2, .int (nI co), .int (nI ro), .int sl])), (a1, .inl (cI, 48, .inl th)), (a2, .inl (cI, 48, .inl ow)), (y0, .inr (4, [.int cd1, .int tk1]))]
      refine J_aload_n h (i := 2) dX4_findMostTaken_44 rfl 2 rfl ?_
      refine J_get h inX3 rfl 0 2 (by decide) rfl rfl nf_X4_29 dX4_findMostTaken_45 ?_
      have hrle := rln_le th co ro 0 x w
      refine J_istore h (lv' := [(7, .int (nI (rln th co ro 0 x w))), (0, .ref y0), (1, .ref a0), (2, .ref d0), (3, .int p0), (4, .int (nI its)), (5, .int (nI x)), (6, .int (nI w))]) dX4_findMostTaken_48 (by decide) rfl ?_
      refine J_iconst h (v := nI 0) dX4_findMostTaken_50 (by decide) ?_
      refine J_istore h (lv' := [(8, .int (nI 0)), (7, .int (nI (rln th co ro 0 x w))), (0, .ref y0), (1, .ref a0), (2, .ref d0), (3, .int p0), (4, .int (nI its)), (5, .int (nI x)), (6, .int (nI w))]) dX4_findMostTaken_51 (by decide) rfl ?_
      refine J.wld [6, 3, 4, 5, 0, 1, 2] (ws' := [(y0, .inr (4, [.int cd1, .int tk1])), (a0, .inr (0, [.ref a1, .ref a2, .int (nI co), .int (nI ro), .int sl])), (a1, .inl (cI, 48, .inl th)), (a2, .inl (cI, 48, .inl ow)), (d0, .inr (3, [.ref d1, .ref d2, .int (nI (rln th co ro 0 x w)), .int (nI (ren th co ro 0 x w))])), (d1, .inl (cI, 8, .inl ce2_41)), (d2, .inl (cI, 8, .inl se2_41))]) rfl rfl ?_
      refine J.loc [2, 3, 4, 5, 6, 7, 8, 1, 0] (lv' := [(0, .ref y0), (1, .ref a0), (2, .ref d0), (3, .int p0), (4, .int (nI its)), (5, .int (nI x)), (6, .int (nI w)), (7, .int (nI (rln th co ro 0 x w))), (8, .int (nI 0))]) rfl ?_
      exact w_X4_findMostTaken_53 X h y0 cd tk a0 a1 a2 th ow co ro sl d0 d1 d2 ce se len en p0 its hrc hco hro hits hR n_15 ih_15 n_27 ih_27 (2 * (rln th co ro 0 x w) + 1 - 0 + 1) x w (rln th co ro 0 x w) 0 cd1 tk1 ce2_41 se2_41 (nI (rln th co ro 0 x w)) (nI (ren th co ro 0 x w)) (by first | exact hx |  assumption | omega | rfl) (by first | exact hw |  assumption | omega | rfl) (by exact rln_le _ _ _ _ _ _) (by first | assumption | omega | rfl) (by first | exact hm |  assumption | omega | rfl) (by first | assumption | omega | rfl) (by omega)
set_option maxRecDepth 100000 in
set_option maxHeartbeats 4000000 in
theorem w_X4_findMostTaken_15 (X : Cx) {cI cE : ClassId} (h : Ok X cX4_findMostTaken RX4 11 cI cE 3 0 0) (y0 : Nat) (cd : Int32) (tk : Int32) (a0 : Nat) (a1 : Nat) (a2 : Nat) (th : Nat → Int32) (ow : Nat → Int32) (co : Nat) (ro : Nat) (sl : Int32) (d0 : Nat) (d1 : Nat) (d2 : Nat) (ce : Nat → Int32) (se : Nat → Int32) (len : Int32) (en : Int32) (p0 : Int32) (its : Nat) (hrc : ro * co ≤ 48) (hco : co ≤ 6) (hro : ro ≤ 8) (hits : its < 2) (hR : ∀ (u : (Int32) × (Int32) × (Nat → Int32) × (Nat → Int32) × (Int32) × (Int32)), ((True)) → RetV X cX4_findMostTaken 11 0 0 [(y0, .inr (4, [.int u.1, .int u.2.1])), (a0, .inr (0, [.ref a1, .ref a2, .int (nI co), .int (nI ro), .int sl])), (a1, .inl (cI, 48, .inl th)), (a2, .inl (cI, 48, .inl ow)), (d0, .inr (3, [.ref d1, .ref d2, .int u.2.2.2.2.1, .int u.2.2.2.2.2])), (d1, .inl (cI, 8, .inl u.2.2.1)), (d2, .inl (cI, 8, .inl u.2.2.2.1))]) : ∀ (n_15 : Nat) (x : Nat) (cd1 : Int32) (tk1 : Int32) (ce1 : Nat → Int32) (se1 : Nat → Int32) (ln1 : Int32) (en1 : Int32), (x ≤ co) → co - x < n_15 → J X 11 0 0 15 [(0, .ref y0), (1, .ref a0), (2, .ref d0), (3, .int p0), (4, .int (nI its)), (5, .int (nI x))] [] [(y0, .inr (4, [.int cd1, .int tk1])), (a0, .inr (0, [.ref a1, .ref a2, .int (nI co), .int (nI ro), .int sl])), (a1, .inl (cI, 48, .inl th)), (a2, .inl (cI, 48, .inl ow)), (d0, .inr (3, [.ref d1, .ref d2, .int ln1, .int en1])), (d1, .inl (cI, 8, .inl ce1)), (d2, .inl (cI, 8, .inl se1))] := by
  intro n_15
  induction n_15 with
  | zero => intro x cd1 tk1 ce1 se1 ln1 en1 hx hn_; exact absurd hn_ (Nat.not_lt_zero _)
  | succ n_15 ih_15 =>
    intro x cd1 tk1 ce1 se1 ln1 en1 hx hn_15
    refine J_iload h dX4_findMostTaken_15 5 rfl ?_
    refine J_aload_n h (i := 1) dX4_findMostTaken_17 rfl 1 rfl ?_
    refine J_get h inX0 rfl 1 2 (by decide) rfl rfl nf_X4_18 dX4_findMostTaken_18 ?_
    refine N_icmp_ge h 138 dX4_findMostTaken_21 (by decide) (by omega) (by omega) (fun c_21 => ?_) (fun c_21 => ?_)
    · skip
      exact hR (cd1, tk1, ce1, se1, ln1, en1) (by trivial) 138 _ dX4_findMostTaken_138
    · skip
      refine J_iconst h (v := nI 1) dX4_findMostTaken_24 (by decide) ?_
      refine J_istore h (lv' := [(6, .int (nI 1)), (0, .ref y0), (1, .ref a0), (2, .ref d0), (3, .int p0), (4, .int (nI its)), (5, .int (nI x))]) dX4_findMostTaken_25 (by decide) rfl ?_
      refine J.loc [1, 2, 3, 4, 5, 6, 0] (lv' := [(0, .ref y0), (1, .ref a0), (2, .ref d0), (3, .int p0), (4, .int (nI its)), (5, .int (nI x)), (6, .int (nI 1))]) rfl ?_
      exact w_X4_findMostTaken_27 X h y0 cd tk a0 a1 a2 th ow co ro sl d0 d1 d2 ce se len en p0 its hrc hco hro hits hR n_15 ih_15 (21 - 1 + 1) x 1 cd1 tk1 ce1 se1 ln1 en1 (by first | exact hx |  assumption | omega | rfl) (by first | assumption | omega | rfl) (by first | assumption | omega | rfl) (by omega)
set_option maxRecDepth 100000 in
set_option maxHeartbeats 4000000 in
theorem w_X4_findMostTaken (X : Cx) {cI cE : ClassId} (h : Ok X cX4_findMostTaken RX4 11 cI cE 3 0 0) (y0 : Nat) (cd : Int32) (tk : Int32) (a0 : Nat) (a1 : Nat) (a2 : Nat) (th : Nat → Int32) (ow : Nat → Int32) (co : Nat) (ro : Nat) (sl : Int32) (d0 : Nat) (d1 : Nat) (d2 : Nat) (ce : Nat → Int32) (se : Nat → Int32) (len : Int32) (en : Int32) (p0 : Int32) (its : Nat) (hrc : ro * co ≤ 48) (hco : co ≤ 6) (hro : ro ≤ 8) (hits : its < 2) (hR : ∀ (u : (Int32) × (Int32) × (Nat → Int32) × (Nat → Int32) × (Int32) × (Int32)), ((True)) → RetV X cX4_findMostTaken 11 0 0 [(y0, .inr (4, [.int u.1, .int u.2.1])), (a0, .inr (0, [.ref a1, .ref a2, .int (nI co), .int (nI ro), .int sl])), (a1, .inl (cI, 48, .inl th)), (a2, .inl (cI, 48, .inl ow)), (d0, .inr (3, [.ref d1, .ref d2, .int u.2.2.2.2.1, .int u.2.2.2.2.2])), (d1, .inl (cI, 8, .inl u.2.2.1)), (d2, .inl (cI, 8, .inl u.2.2.2.1))]) : J X 11 0 0 0 [(0, .ref y0), (1, .ref a0), (2, .ref d0), (3, .int p0), (4, .int (nI its))] [] [(y0, .inr (4, [.int cd, .int tk])), (a0, .inr (0, [.ref a1, .ref a2, .int (nI co), .int (nI ro), .int sl])), (a1, .inl (cI, 48, .inl th)), (a2, .inl (cI, 48, .inl ow)), (d0, .inr (3, [.ref d1, .ref d2, .int len, .int en])), (d1, .inl (cI, 8, .inl ce)), (d2, .inl (cI, 8, .inl se))] := by
  refine J_aload_n h (i := 0) dX4_findMostTaken_0 rfl 0 rfl ?_
  refine J_bipush h (v := (-4)) dX4_findMostTaken_1 (by decide) ?_
  refine J_put h (ws' := [(y0, .inr (4, [.int ((-4)), .int tk])), (a0, .inr (0, [.ref a1, .ref a2, .int (nI co), .int (nI ro), .int sl])), (a1, .inl (cI, 48, .inl th)), (a2, .inl (cI, 48, .inl ow)), (d0, .inr (3, [.ref d1, .ref d2, .int len, .int en])), (d1, .inl (cI, 8, .inl ce)), (d2, .inl (cI, 8, .inl se))]) inX4 tyX4 tyX4_ok nmX4 rfl 0 0 (by decide) rfl nf_X4_9 rfl rfl rfl rfl (Nat.le_of_ble_eq_true rfl) dX4_findMostTaken_3 rfl ?_
  refine J_aload_n h (i := 0) dX4_findMostTaken_6 rfl 0 rfl ?_
  refine J_bipush h (v := (-4)) dX4_findMostTaken_7 (by decide) ?_
  refine J_put h (ws' := [(y0, .inr (4, [.int ((-4)), .int ((-4))])), (a0, .inr (0, [.ref a1, .ref a2, .int (nI co), .int (nI ro), .int sl])), (a1, .inl (cI, 48, .inl th)), (a2, .inl (cI, 48, .inl ow)), (d0, .inr (3, [.ref d1, .ref d2, .int len, .int en])), (d1, .inl (cI, 8, .inl ce)), (d2, .inl (cI, 8, .inl se))]) inX4 tyX4 tyX4_ok nmX4 rfl 0 1 (by decide) rfl nf_X4_15 rfl rfl rfl rfl (Nat.le_of_ble_eq_true rfl) dX4_findMostTaken_9 rfl ?_
  refine J_iconst h (v := nI 0) dX4_findMostTaken_12 (by decide) ?_
  refine J_istore h (lv' := [(5, .int (nI 0)), (0, .ref y0), (1, .ref a0), (2, .ref d0), (3, .int p0), (4, .int (nI its))]) dX4_findMostTaken_13 (by decide) rfl ?_
  refine J.loc [1, 2, 3, 4, 5, 0] (lv' := [(0, .ref y0), (1, .ref a0), (2, .ref d0), (3, .int p0), (4, .int (nI its)), (5, .int (nI 0))]) rfl ?_
  exact w_X4_findMostTaken_15 X h y0 cd tk a0 a1 a2 th ow co ro sl d0 d1 d2 ce se len en p0 its hrc hco hro hits hR  (co - 0 + 1) 0 (-4) (-4) ce se len en (by first | assumption | omega | rfl) (by omega)
theorem c_X4_findMostTaken (l : Launch) (D : va_G) (cI cE : ClassId) (y0 : Nat) (cd : Int32) (tk : Int32) (a0 : Nat) (a1 : Nat) (a2 : Nat) (th : Nat → Int32) (ow : Nat → Int32) (co : Nat) (ro : Nat) (sl : Int32) (d0 : Nat) (d1 : Nat) (d2 : Nat) (ce : Nat → Int32) (se : Nat → Int32) (len : Int32) (en : Int32) (p0 : Int32) (its : Nat) (hrc : ro * co ≤ 48) (hco : co ≤ 6) (hro : ro ≤ 8) (hits : its < 2) : Cv l D cI cE yX4_findMostTaken cX4_findMostTaken 11 none 3 0 0 [.ref y0, .ref a0, .ref d0, .int p0, .int (nI its)] [(y0, .inr (4, [.int cd, .int tk])), (a0, .inr (0, [.ref a1, .ref a2, .int (nI co), .int (nI ro), .int sl])), (a1, .inl (cI, 48, .inl th)), (a2, .inl (cI, 48, .inl ow)), (d0, .inr (3, [.ref d1, .ref d2, .int len, .int en])), (d1, .inl (cI, 8, .inl ce)), (d2, .inl (cI, 8, .inl se))] (fun (u : (Int32) × (Int32) × (Nat → Int32) × (Nat → Int32) × (Int32) × (Int32)) => ((True))) (fun (u : (Int32) × (Int32) × (Nat → Int32) × (Nat → Int32) × (Int32) × (Int32)) => ([(y0, .inr (4, [.int u.1, .int u.2.1])), (a0, .inr (0, [.ref a1, .ref a2, .int (nI co), .int (nI ro), .int sl])), (a1, .inl (cI, 48, .inl th)), (a2, .inl (cI, 48, .inl ow)), (d0, .inr (3, [.ref d1, .ref d2, .int u.2.2.2.2.1, .int u.2.2.2.2.2])), (d1, .inl (cI, 8, .inl u.2.2.1)), (d2, .inl (cI, 8, .inl u.2.2.2.1))] : va_W)) :=
  Cv.of (by decide) (Nat.le_of_ble_eq_true rfl) (fun X h hR _ => w_X4_findMostTaken X h y0 cd tk a0 a1 a2 th ow co ro sl d0 d1 d2 ce se len en p0 its hrc hco hro hits hR)
theorem yv_X4_findMostTaken : YV yX4_findMostTaken cX4_findMostTaken 11 none 4 := ⟨no_X4_findMostTaken, nv_X4_findMostTaken, ni_X4, nk_X4_findMostTaken, by decide +kernel⟩
set_option maxRecDepth 100000 in
set_option maxHeartbeats 4000000 in
theorem w_X1_fillMarks_2 (X : Cx) {cI cE : ClassId} (h : Ok X cX1_fillMarks RX1 3 cI cE 0 0 0) (m0 : Nat) (m1 : Nat) (m2 : Nat) (mk : Nat → Int32) (wg : Nat → Int32) (wn : Int32) (p0 : Int32)  (hR : ∀ (u : Unit), ((True)) → RetV X cX1_fillMarks 3 0 0 [(m0, .inr (1, [.ref m1, .ref m2, .int wn])), (m1, .inl (cI, 48, .inl (fun _ => p0))), (m2, .inl (cI, 48, .inl wg))]) : ∀ (n_2 : Nat) (i : Nat) (mk1 : Nat → Int32), (i ≤ 48) → (∀ j, j < i → mk1 j = p0) → 48 - i < n_2 → J X 3 0 0 2 [(0, .ref m0), (1, .int p0), (2, .int (nI i))] [] [(m0, .inr (1, [.ref m1, .ref m2, .int wn])), (m1, .inl (cI, 48, .inl mk1)), (m2, .inl (cI, 48, .inl wg))] := by
  intro n_2
  induction n_2 with
  | zero => intro i mk1 hi hm hn_; exact absurd hn_ (Nat.not_lt_zero _)
  | succ n_2 ih_2 =>
    intro i mk1 hi hm hn_2
    refine J_iload_n h (i := 2) dX1_fillMarks_2 rfl 2 rfl ?_
    refine J_bipush h (v := nI 48) dX1_fillMarks_3 (by decide) ?_
    refine N_icmp_ge h 21 dX1_fillMarks_5 (by decide) (by omega) (by omega) (fun c_5 => ?_) (fun c_5 => ?_)
    · skip
      refine J_arr (g := (fun _ => p0)) (ws' := [(m0, .inr (1, [.ref m1, .ref m2, .int wn])), (m1, .inl (cI, 48, .inl (fun _ => p0))), (m2, .inl (cI, 48, .inl wg))]) 1 rfl (by exact fun j hj => hm j (by omega)) rfl ?_
      exact hR () (trivial) 21 _ dX1_fillMarks_21
    · skip
      refine J_aload_n h (i := 0) dX1_fillMarks_8 rfl 0 rfl ?_
      refine J_get h inX1 rfl 0 0 (by decide) rfl rfl nf_X1_9 dX1_fillMarks_9 ?_
      refine J_iload_n h (i := 2) dX1_fillMarks_12 rfl 2 rfl ?_
      refine J_iload_n h (i := 1) dX1_fillMarks_13 rfl 1 rfl ?_
      refine N_iast h (ws' := [(m0, .inr (1, [.ref m1, .ref m2, .int wn])), (m1, .inl (cI, 48, .inl (upd mk1 i p0))), (m2, .inl (cI, 48, .inl wg))]) 1 rfl (by decide) (by omega) dX1_fillMarks_14 rfl ?_
      refine J_iinc h (v := nI (i + 1)) (lv' := [(2, .int (nI (i + 1))), (0, .ref m0), (1, .int p0)]) dX1_fillMarks_15 2 rfl (inc_ok _ 1) (by decide) rfl ?_
      refine J_goto h 2 dX1_fillMarks_18 (by decide) ?_
      refine J.loc [1, 2, 0] (lv' := [(0, .ref m0), (1, .int p0), (2, .int (nI (i + 1)))]) rfl ?_
      exact ih_2 (i + 1) (upd mk1 i p0) (by first | exact hi |  assumption | omega | rfl) (by exact upd_ext (g := fun _ => p0) hm) (by omega)
set_option maxRecDepth 100000 in
set_option maxHeartbeats 4000000 in
theorem w_X1_fillMarks (X : Cx) {cI cE : ClassId} (h : Ok X cX1_fillMarks RX1 3 cI cE 0 0 0) (m0 : Nat) (m1 : Nat) (m2 : Nat) (mk : Nat → Int32) (wg : Nat → Int32) (wn : Int32) (p0 : Int32)  (hR : ∀ (u : Unit), ((True)) → RetV X cX1_fillMarks 3 0 0 [(m0, .inr (1, [.ref m1, .ref m2, .int wn])), (m1, .inl (cI, 48, .inl (fun _ => p0))), (m2, .inl (cI, 48, .inl wg))]) : J X 3 0 0 0 [(0, .ref m0), (1, .int p0)] [] [(m0, .inr (1, [.ref m1, .ref m2, .int wn])), (m1, .inl (cI, 48, .inl mk)), (m2, .inl (cI, 48, .inl wg))] := by
  refine J_iconst h (v := nI 0) dX1_fillMarks_0 (by decide) ?_
  refine J_istore_n h (i := 2) (lv' := [(2, .int (nI 0)), (0, .ref m0), (1, .int p0)]) dX1_fillMarks_1 rfl (by decide) rfl ?_
  refine J.loc [1, 2, 0] (lv' := [(0, .ref m0), (1, .int p0), (2, .int (nI 0))]) rfl ?_
  exact w_X1_fillMarks_2 X h m0 m1 m2 mk wg wn p0 hR  (48 - 0 + 1) 0 mk (by first | assumption | omega | rfl) (by intro j hj; omega) (by omega)
theorem c_X1_fillMarks (l : Launch) (D : va_G) (cI cE : ClassId) (m0 : Nat) (m1 : Nat) (m2 : Nat) (mk : Nat → Int32) (wg : Nat → Int32) (wn : Int32) (p0 : Int32)  : Cv l D cI cE yX1_fillMarks cX1_fillMarks 3 none 0 0 0 [.ref m0, .int p0] [(m0, .inr (1, [.ref m1, .ref m2, .int wn])), (m1, .inl (cI, 48, .inl mk)), (m2, .inl (cI, 48, .inl wg))] (fun (u : Unit) => ((True))) (fun (u : Unit) => ([(m0, .inr (1, [.ref m1, .ref m2, .int wn])), (m1, .inl (cI, 48, .inl (fun _ => p0))), (m2, .inl (cI, 48, .inl wg))] : va_W)) :=
  Cv.of (by decide) (Nat.le_of_ble_eq_true rfl) (fun X h hR _ => w_X1_fillMarks X h m0 m1 m2 mk wg wn p0 hR)
theorem yv_X1_fillMarks : YV yX1_fillMarks cX1_fillMarks 3 none 1 := ⟨no_X1_fillMarks, nv_X1_fillMarks, ni_X1, nk_X1_fillMarks, by decide +kernel⟩
set_option maxRecDepth 100000 in
set_option maxHeartbeats 4000000 in
theorem w_X1_markOf (X : Cx) {cI cE : ClassId} (h : Ok X cX1_markOf RX1 2 cI cE 0 0 0) (m0 : Nat) (m1 : Nat) (m2 : Nat) (mk : Nat → Int32) (wg : Nat → Int32) (wn : Int32) (p0 : Nat) (hp0 : p0 < 48) (hR : ∀ (r : Int32) (u : Unit), ((mk p0 = r) ∧ (True)) → RetI X cX1_markOf 2 0 0 r [(m0, .inr (1, [.ref m1, .ref m2, .int wn])), (m1, .inl (cI, 48, .inl mk)), (m2, .inl (cI, 48, .inl wg))]) : J X 2 0 0 0 [(0, .ref m0), (1, .int (nI p0))] [] [(m0, .inr (1, [.ref m1, .ref m2, .int wn])), (m1, .inl (cI, 48, .inl mk)), (m2, .inl (cI, 48, .inl wg))] := by
  refine J_iload_n h (i := 1) dX1_markOf_0 rfl 1 rfl ?_
  refine N_if_lt h 19 dX1_markOf_1 (by decide) (by omega) ?_
  refine J_iload_n h (i := 1) dX1_markOf_4 rfl 1 rfl ?_
  refine J_bipush h (v := nI 48) dX1_markOf_5 (by decide) ?_
  refine N_icmp_ge h 19 dX1_markOf_7 (by decide) (by omega) (by omega) (fun c_7 => absurd c_7 (by omega)) (fun c_7 => ?_)
  refine J_aload_n h (i := 0) dX1_markOf_10 rfl 0 rfl ?_
  refine J_get h inX1 rfl 0 0 (by decide) rfl rfl nf_X1_9 dX1_markOf_11 ?_
  refine J_iload_n h (i := 1) dX1_markOf_14 rfl 1 rfl ?_
  refine N_iald h 1 rfl (by decide) (by omega) dX1_markOf_15 ?_
  refine J_goto h 21 dX1_markOf_16 (by decide) ?_
  exact hR (mk p0) () (⟨rfl, trivial⟩) 21 _ dX1_markOf_21
theorem c_X1_markOf (l : Launch) (D : va_G) (cI cE : ClassId) (m0 : Nat) (m1 : Nat) (m2 : Nat) (mk : Nat → Int32) (wg : Nat → Int32) (wn : Int32) (p0 : Nat) (hp0 : p0 < 48) : Ci l D cI cE yX1_markOf cX1_markOf 2 (some .int) 0 0 0 [.ref m0, .int (nI p0)] [(m0, .inr (1, [.ref m1, .ref m2, .int wn])), (m1, .inl (cI, 48, .inl mk)), (m2, .inl (cI, 48, .inl wg))] (fun (r : Int32) (u : Unit) => ((mk p0 = r) ∧ (True))) (fun (u : Unit) => ([(m0, .inr (1, [.ref m1, .ref m2, .int wn])), (m1, .inl (cI, 48, .inl mk)), (m2, .inl (cI, 48, .inl wg))] : va_W)) :=
  Ci.of (by decide) (Nat.le_of_ble_eq_true rfl) (fun _ _ _ => rfl) (fun X h hR => w_X1_markOf X h m0 m1 m2 mk wg wn p0 hp0 hR)
theorem yv_X1_markOf : YV yX1_markOf cX1_markOf 2 (some .int) 1 := ⟨no_X1_markOf, nv_X1_markOf, ni_X1, nk_X1_markOf, by decide +kernel⟩
set_option maxRecDepth 100000 in
set_option maxHeartbeats 4000000 in
theorem w_X1_putMark (X : Cx) {cI cE : ClassId} (h : Ok X cX1_putMark RX1 3 cI cE 0 0 0) (m0 : Nat) (m1 : Nat) (m2 : Nat) (mk : Nat → Int32) (wg : Nat → Int32) (wn : Int32) (p0 : Nat) (p1 : Int32) (hp0 : p0 < 48) (hR : ∀ (u : Unit), ((True)) → RetV X cX1_putMark 3 0 0 [(m0, .inr (1, [.ref m1, .ref m2, .int wn])), (m1, .inl (cI, 48, .inl (upd mk p0 p1))), (m2, .inl (cI, 48, .inl wg))]) : J X 3 0 0 0 [(0, .ref m0), (1, .int (nI p0)), (2, .int p1)] [] [(m0, .inr (1, [.ref m1, .ref m2, .int wn])), (m1, .inl (cI, 48, .inl mk)), (m2, .inl (cI, 48, .inl wg))] := by
  refine J_iload_n h (i := 1) dX1_putMark_0 rfl 1 rfl ?_
  refine N_if_lt h 17 dX1_putMark_1 (by decide) (by omega) ?_
  refine J_iload_n h (i := 1) dX1_putMark_4 rfl 1 rfl ?_
  refine J_bipush h (v := nI 48) dX1_putMark_5 (by decide) ?_
  refine N_icmp_ge h 17 dX1_putMark_7 (by decide) (by omega) (by omega) (fun c_7 => absurd c_7 (by omega)) (fun c_7 => ?_)
  refine J_aload_n h (i := 0) dX1_putMark_10 rfl 0 rfl ?_
  refine J_get h inX1 rfl 0 0 (by decide) rfl rfl nf_X1_9 dX1_putMark_11 ?_
  refine J_iload_n h (i := 1) dX1_putMark_14 rfl 1 rfl ?_
  refine J_iload_n h (i := 2) dX1_putMark_15 rfl 2 rfl ?_
  refine N_iast h (ws' := [(m0, .inr (1, [.ref m1, .ref m2, .int wn])), (m1, .inl (cI, 48, .inl (upd mk p0 p1))), (m2, .inl (cI, 48, .inl wg))]) 1 rfl (by decide) (by omega) dX1_putMark_16 rfl ?_
  exact hR () (trivial) 17 _ dX1_putMark_17
theorem c_X1_putMark (l : Launch) (D : va_G) (cI cE : ClassId) (m0 : Nat) (m1 : Nat) (m2 : Nat) (mk : Nat → Int32) (wg : Nat → Int32) (wn : Int32) (p0 : Nat) (p1 : Int32) (hp0 : p0 < 48) : Cv l D cI cE yX1_putMark cX1_putMark 3 none 0 0 0 [.ref m0, .int (nI p0), .int p1] [(m0, .inr (1, [.ref m1, .ref m2, .int wn])), (m1, .inl (cI, 48, .inl mk)), (m2, .inl (cI, 48, .inl wg))] (fun (u : Unit) => ((True))) (fun (u : Unit) => ([(m0, .inr (1, [.ref m1, .ref m2, .int wn])), (m1, .inl (cI, 48, .inl (upd mk p0 p1))), (m2, .inl (cI, 48, .inl wg))] : va_W)) :=
  Cv.of (by decide) (Nat.le_of_ble_eq_true rfl) (fun X h hR _ => w_X1_putMark X h m0 m1 m2 mk wg wn p0 p1 hp0 hR)
theorem yv_X1_putMark : YV yX1_putMark cX1_putMark 3 none 2 := ⟨no_X1_putMark, nv_X1_putMark, ni_X1, nk_X1_putMark, by decide +kernel⟩
set_option maxRecDepth 100000 in
set_option maxHeartbeats 4000000 in
theorem w_X1_await (X : Cx) {cI cE : ClassId} (h : Ok X cX1_await RX1 2 cI cE 1 0 0) (m0 : Nat) (m1 : Nat) (m2 : Nat) (mk : Nat → Int32) (wg : Nat → Int32) (wn : Nat) (p0 : Nat) (hp0 : p0 < 48) (hwn : wn ≤ 48) (hR : ∀ (u : (Nat → Int32) × (Nat → Int32) × (Nat)), ((wn < 48) ∧ ((upd mk p0 (nI 1)) = u.1) ∧ ((upd wg wn (nI p0)) = u.2.1) ∧ ((wn + 1) = u.2.2) ∧ (True)) ∨ ((wn = 48) ∧ ((mk) = u.1) ∧ ((wg) = u.2.1) ∧ ((wn) = u.2.2) ∧ (True)) → RetV X cX1_await 2 0 0 [(m0, .inr (1, [.ref m1, .ref m2, .int (nI u.2.2)])), (m1, .inl (cI, 48, .inl u.1)), (m2, .inl (cI, 48, .inl u.2.1))]) : J X 2 0 0 0 [(0, .ref m0), (1, .int (nI p0))] [] [(m0, .inr (1, [.ref m1, .ref m2, .int (nI wn)])), (m1, .inl (cI, 48, .inl mk)), (m2, .inl (cI, 48, .inl wg))] := by
  refine J_aload_n h (i := 0) dX1_await_0 rfl 0 rfl ?_
  refine J_get h inX1 rfl 0 2 (by decide) rfl rfl nf_X1_18 dX1_await_1 ?_
  refine N_if_lt h 16 dX1_await_4 (by decide) (by omega) ?_
  refine J_aload_n h (i := 0) dX1_await_7 rfl 0 rfl ?_
  refine J_get h inX1 rfl 0 2 (by decide) rfl rfl nf_X1_18 dX1_await_8 ?_
  refine J_bipush h (v := nI 48) dX1_await_11 (by decide) ?_
  refine N_icmp_lt h 17 dX1_await_13 (by decide) (by omega) (by omega) (fun c_13 => ?_) (fun c_13 => ?_)
  · skip
    refine J_aload_n h (i := 0) dX1_await_17 rfl 0 rfl ?_
    refine J_iload_n h (i := 1) dX1_await_18 rfl 1 rfl ?_
    refine J_iconst h (v := nI 1) dX1_await_19 (by decide) ?_
    refine K_vv h (wr := []) (c_X1_putMark (xl X) (xD X) cI cE m0 m1 m2 mk wg (nI wn) p0 (nI 1) (by first | exact hp0 |  assumption | omega | rfl)) yv_X1_putMark nm_X1_53 (by decide) (by decide) rfl rfl 0 rfl rfl rfl rfl (Nat.le_of_ble_eq_true rfl) (Nat.le_refl _) (Nat.le_refl _) dX1_await_20 (fun u_20 p_20 => ?_)
    show J X 2 0 0 23 [(0, .ref m0), (1, .int (nI p0))] [] [(m0, .inr (1, [.ref m1, .ref m2, .int (nI wn)])), (m1, .inl (cI, 48, .inl (upd mk p0 (nI 1)))), (m2, .inl (cI, 48, .inl wg))]
    refine J_aload_n h (i := 0) dX1_await_23 rfl 0 rfl ?_
    refine J_get h inX1 rfl 0 1 (by decide) rfl rfl nf_X1_15 dX1_await_24 ?_
    refine J_aload_n h (i := 0) dX1_await_27 rfl 0 rfl ?_
    refine J_get h inX1 rfl 0 2 (by decide) rfl rfl nf_X1_18 dX1_await_28 ?_
    refine J_iload_n h (i := 1) dX1_await_31 rfl 1 rfl ?_
    refine N_iast h (ws' := [(m0, .inr (1, [.ref m1, .ref m2, .int (nI wn)])), (m1, .inl (cI, 48, .inl (upd mk p0 (nI 1)))), (m2, .inl (cI, 48, .inl (upd wg wn (nI p0))))]) 2 rfl (by decide) (by omega) dX1_await_32 rfl ?_
    refine J_aload_n h (i := 0) dX1_await_33 rfl 0 rfl ?_
    refine J_dup h dX1_await_34 rfl ?_
    refine J_get h inX1 rfl 0 2 (by decide) rfl rfl nf_X1_18 dX1_await_35 ?_
    refine J_iconst h (v := nI 1) dX1_await_38 (by decide) ?_
    refine N_iadd h dX1_await_39 ?_
    refine J_put h (ws' := [(m0, .inr (1, [.ref m1, .ref m2, .int (nI (wn + 1))])), (m1, .inl (cI, 48, .inl (upd mk p0 (nI 1)))), (m2, .inl (cI, 48, .inl (upd wg wn (nI p0))))]) inX1 tyX1 tyX1_ok nmX1 rfl 0 2 (by decide) rfl nf_X1_18 rfl rfl rfl rfl (Nat.le_of_ble_eq_true rfl) dX1_await_40 rfl ?_
    exact hR (upd mk p0 (nI 1), upd wg wn (nI p0), wn + 1) (Or.inl ⟨(by (try dsimp only); first | assumption | omega | rfl), (by first | rfl | ((try dsimp only); first | assumption | omega | rfl)), (by first | rfl | ((try dsimp only); first | assumption | omega | rfl)), (by first | rfl | ((try dsimp only); first | assumption | omega | rfl)), trivial⟩) 43 _ dX1_await_43
  · skip
    exact hR (mk, wg, wn) (Or.inr (⟨(by (try dsimp only); first | assumption | omega | rfl), (by first | rfl | ((try dsimp only); first | assumption | omega | rfl)), (by first | rfl | ((try dsimp only); first | assumption | omega | rfl)), (by first | rfl | ((try dsimp only); first | assumption | omega | rfl)), trivial⟩)) 16 _ dX1_await_16
theorem c_X1_await (l : Launch) (D : va_G) (cI cE : ClassId) (m0 : Nat) (m1 : Nat) (m2 : Nat) (mk : Nat → Int32) (wg : Nat → Int32) (wn : Nat) (p0 : Nat) (hp0 : p0 < 48) (hwn : wn ≤ 48) : Cv l D cI cE yX1_await cX1_await 2 none 1 0 0 [.ref m0, .int (nI p0)] [(m0, .inr (1, [.ref m1, .ref m2, .int (nI wn)])), (m1, .inl (cI, 48, .inl mk)), (m2, .inl (cI, 48, .inl wg))] (fun (u : (Nat → Int32) × (Nat → Int32) × (Nat)) => ((wn < 48) ∧ ((upd mk p0 (nI 1)) = u.1) ∧ ((upd wg wn (nI p0)) = u.2.1) ∧ ((wn + 1) = u.2.2) ∧ (True)) ∨ ((wn = 48) ∧ ((mk) = u.1) ∧ ((wg) = u.2.1) ∧ ((wn) = u.2.2) ∧ (True))) (fun (u : (Nat → Int32) × (Nat → Int32) × (Nat)) => ([(m0, .inr (1, [.ref m1, .ref m2, .int (nI u.2.2)])), (m1, .inl (cI, 48, .inl u.1)), (m2, .inl (cI, 48, .inl u.2.1))] : va_W)) :=
  Cv.of (by decide) (Nat.le_of_ble_eq_true rfl) (fun X h hR _ => w_X1_await X h m0 m1 m2 mk wg wn p0 hp0 hwn hR)
theorem yv_X1_await : YV yX1_await cX1_await 2 none 1 := ⟨no_X1_await, nv_X1_await, ni_X1, nk_X1_await, by decide +kernel⟩
set_option maxRecDepth 100000 in
set_option maxHeartbeats 4000000 in
theorem w_X1_nextWaiting (X : Cx) {cI cE : ClassId} (h : Ok X cX1_nextWaiting RX1 1 cI cE 0 0 0) (m0 : Nat) (m1 : Nat) (m2 : Nat) (mk : Nat → Int32) (wg : Nat → Int32) (wn : Nat) (hw1 : 1 ≤ wn) (hwn : wn ≤ 48) (hR : ∀ (r : Int32) (u : Unit), ((wg (wn - 1) = r) ∧ (True)) → RetI X cX1_nextWaiting 1 0 0 r [(m0, .inr (1, [.ref m1, .ref m2, .int (nI (wn - 1))])), (m1, .inl (cI, 48, .inl mk)), (m2, .inl (cI, 48, .inl wg))]) : J X 1 0 0 0 [(0, .ref m0)] [] [(m0, .inr (1, [.ref m1, .ref m2, .int (nI wn)])), (m1, .inl (cI, 48, .inl mk)), (m2, .inl (cI, 48, .inl wg))] := by
  refine J_aload_n h (i := 0) dX1_nextWaiting_0 rfl 0 rfl ?_
  refine J_get h inX1 rfl 0 2 (by decide) rfl rfl nf_X1_18 dX1_nextWaiting_1 ?_
  refine J_iconst h (v := nI 1) dX1_nextWaiting_4 (by decide) ?_
  refine N_icmp_lt h 17 dX1_nextWaiting_5 (by decide) (by omega) (by omega) (fun c_5 => absurd c_5 (by omega)) (fun c_5 => ?_)
  refine J_aload_n h (i := 0) dX1_nextWaiting_8 rfl 0 rfl ?_
  refine J_get h inX1 rfl 0 2 (by decide) rfl rfl nf_X1_18 dX1_nextWaiting_9 ?_
  refine J_bipush h (v := nI 48) dX1_nextWaiting_12 (by decide) ?_
  refine N_icmp_le h 20 dX1_nextWaiting_14 (by decide) (by omega) (by omega) (fun c_14 => ?_) (fun c_14 => absurd c_14 (by omega))
  refine J_aload_n h (i := 0) dX1_nextWaiting_20 rfl 0 rfl ?_
  refine J_dup h dX1_nextWaiting_21 rfl ?_
  refine J_get h inX1 rfl 0 2 (by decide) rfl rfl nf_X1_18 dX1_nextWaiting_22 ?_
  refine J_iconst h (v := nI 1) dX1_nextWaiting_25 (by decide) ?_
  refine N_isub h (by omega) dX1_nextWaiting_26 ?_
  refine J_put h (ws' := [(m0, .inr (1, [.ref m1, .ref m2, .int (nI (wn - 1))])), (m1, .inl (cI, 48, .inl mk)), (m2, .inl (cI, 48, .inl wg))]) inX1 tyX1 tyX1_ok nmX1 rfl 0 2 (by decide) rfl nf_X1_18 rfl rfl rfl rfl (Nat.le_of_ble_eq_true rfl) dX1_nextWaiting_27 rfl ?_
  refine J_aload_n h (i := 0) dX1_nextWaiting_30 rfl 0 rfl ?_
  refine J_get h inX1 rfl 0 1 (by decide) rfl rfl nf_X1_15 dX1_nextWaiting_31 ?_
  refine J_aload_n h (i := 0) dX1_nextWaiting_34 rfl 0 rfl ?_
  refine J_get h inX1 rfl 0 2 (by decide) rfl rfl nf_X1_18 dX1_nextWaiting_35 ?_
  refine N_iald h 2 rfl (by decide) (by omega) dX1_nextWaiting_38 ?_
  exact hR (wg (wn - 1)) () (⟨rfl, trivial⟩) 39 _ dX1_nextWaiting_39
theorem c_X1_nextWaiting (l : Launch) (D : va_G) (cI cE : ClassId) (m0 : Nat) (m1 : Nat) (m2 : Nat) (mk : Nat → Int32) (wg : Nat → Int32) (wn : Nat) (hw1 : 1 ≤ wn) (hwn : wn ≤ 48) : Ci l D cI cE yX1_nextWaiting cX1_nextWaiting 1 (some .int) 0 0 0 [.ref m0] [(m0, .inr (1, [.ref m1, .ref m2, .int (nI wn)])), (m1, .inl (cI, 48, .inl mk)), (m2, .inl (cI, 48, .inl wg))] (fun (r : Int32) (u : Unit) => ((wg (wn - 1) = r) ∧ (True))) (fun (u : Unit) => ([(m0, .inr (1, [.ref m1, .ref m2, .int (nI (wn - 1))])), (m1, .inl (cI, 48, .inl mk)), (m2, .inl (cI, 48, .inl wg))] : va_W)) :=
  Ci.of (by decide) (Nat.le_of_ble_eq_true rfl) (fun _ _ _ => rfl) (fun X h hR => w_X1_nextWaiting X h m0 m1 m2 mk wg wn hw1 hwn hR)
theorem yv_X1_nextWaiting : YV yX1_nextWaiting cX1_nextWaiting 1 (some .int) 0 := ⟨no_X1_nextWaiting, nv_X1_nextWaiting, ni_X1, nk_X1_nextWaiting, by decide +kernel⟩
theorem vw_up {wg : Nat → Int32} {n x m : Nat} (h : ∀ k, k < n → ∃ j, wg k = nI j ∧ j < m) (hx : x < m) : ∀ k, k < n + 1 → ∃ j, upd wg n (nI x) k = nI j ∧ j < m := fun k hk => by
  by_cases e : k = n
  · rw [e]; exact ⟨x, upd_at _ _ _, hx⟩
  · rw [upd_ne _ _ e]; exact h k (by omega)
set_option maxRecDepth 100000 in
set_option maxHeartbeats 4000000 in
theorem w_X1_markPiece_36 (X : Cx) {cI cE : ClassId} (h : Ok X cX1_markPiece RX1 8 cI cE 2 0 0) (m0 : Nat) (m1 : Nat) (m2 : Nat) (mk : Nat → Int32) (wg : Nat → Int32) (wn : Int32) (a0 : Nat) (a1 : Nat) (a2 : Nat) (th : Nat → Int32) (ow : Nat → Int32) (co : Nat) (ro : Nat) (sl : Int32) (p0 : Int32) (p1 : Nat) (hrc : ro * co ≤ 48) (hp1 : p1 < ro * co) (hR : ∀ (u : (Nat → Int32) × (Nat → Int32) × (Nat)), ((True)) → RetV X cX1_markPiece 8 0 0 [(m0, .inr (1, [.ref m1, .ref m2, .int (nI u.2.2)])), (m1, .inl (cI, 48, .inl u.1)), (m2, .inl (cI, 48, .inl u.2.1)), (a0, .inr (0, [.ref a1, .ref a2, .int (nI co), .int (nI ro), .int sl])), (a1, .inl (cI, 48, .inl th)), (a2, .inl (cI, 48, .inl ow))]) (n_13 : Nat) (ih_13 : ∀ (t : Nat) (mk1 : Nat → Int32) (wg1 : Nat → Int32) (wn1 : Nat), (t ≤ 48) → (wn1 ≤ 48) → (∀ k, k < wn1 → ∃ j, wg1 k = nI j ∧ j < ro * co) → 48 - t < n_13 → J X 8 0 0 13 [(0, .ref m0), (1, .ref a0), (2, .int p0), (4, .int (nI t))] [] [(m0, .inr (1, [.ref m1, .ref m2, .int (nI wn1)])), (m1, .inl (cI, 48, .inl mk1)), (m2, .inl (cI, 48, .inl wg1)), (a0, .inr (0, [.ref a1, .ref a2, .int (nI co), .int (nI ro), .int sl])), (a1, .inl (cI, 48, .inl th)), (a2, .inl (cI, 48, .inl ow))]) : ∀ (n_36 : Nat) (t : Nat) (c : Nat) (dr : Nat) (mk1 : Nat → Int32) (wg1 : Nat → Int32) (wn1 : Nat), (t < 48) → (wn1 ≤ 48) → (∀ k, k < wn1 → ∃ j, wg1 k = nI j ∧ j < ro * co) → (c < ro * co) → (dr ≤ 4) → (48 - t < n_13 + 1) → 4 - dr < n_36 → J X 8 0 0 36 [(0, .ref m0), (1, .ref a0), (2, .int p0), (4, .int (nI t)), (5, .int (nI c)), (6, .int (nI dr))] [] [(m0, .inr (1, [.ref m1, .ref m2, .int (nI wn1)])), (m1, .inl (cI, 48, .inl mk1)), (m2, .inl (cI, 48, .inl wg1)), (a0, .inr (0, [.ref a1, .ref a2, .int (nI co), .int (nI ro), .int sl])), (a1, .inl (cI, 48, .inl th)), (a2, .inl (cI, 48, .inl ow))] := by
  intro n_36
  induction n_36 with
  | zero => intro t c dr mk1 wg1 wn1 ht hwn hv hc hd hm hn_; exact absurd hn_ (Nat.not_lt_zero _)
  | succ n_36 ih_36 =>
    intro t c dr mk1 wg1 wn1 ht hwn hv hc hd hm hn_36
    refine J_iload h dX1_markPiece_36 5 rfl ?_
    refine J_iconst h (v := nI 4) dX1_markPiece_38 (by decide) ?_
    refine N_icmp_ge h 90 dX1_markPiece_39 (by decide) (by omega) (by omega) (fun c_39 => ?_) (fun c_39 => ?_)
    · skip
      refine J_iinc h (v := nI (t + 1)) (lv' := [(4, .int (nI (t + 1))), (0, .ref m0), (1, .ref a0), (2, .int p0), (5, .int (nI c)), (6, .int (nI dr))]) dX1_markPiece_90 3 rfl (inc_ok _ 1) (by decide) rfl ?_
      refine J_goto h 13 dX1_markPiece_93 (by decide) ?_
      refine J.loc [1, 2, 3, 0] (lv' := [(0, .ref m0), (1, .ref a0), (2, .int p0), (4, .int (nI (t + 1)))]) rfl ?_
      exact ih_13 (t + 1) mk1 wg1 wn1 (by first | exact ht |  assumption | omega | rfl) (by first | exact hwn |  assumption | omega | rfl) (by first | exact hv |  assumption | omega | rfl) (by omega)
    · skip
      refine J_aload_n h (i := 1) dX1_markPiece_42 rfl 1 rfl ?_
      refine J_iload h dX1_markPiece_43 4 rfl ?_
      refine J_iload h dX1_markPiece_45 5 rfl ?_
      refine J.wld [3, 4, 5, 0, 1, 2] (ws' := [(a0, .inr (0, [.ref a1, .ref a2, .int (nI co), .int (nI ro), .int sl])), (a1, .inl (cI, 48, .inl th)), (a2, .inl (cI, 48, .inl ow)), (m0, .inr (1, [.ref m1, .ref m2, .int (nI wn1)])), (m1, .inl (cI, 48, .inl mk1)), (m2, .inl (cI, 48, .inl wg1))]) rfl rfl ?_
      refine K_vi h (wr := [(m0, .inr (1, [.ref m1, .ref m2, .int (nI wn1)])), (m1, .inl (cI, 48, .inl mk1)), (m2, .inl (cI, 48, .inl wg1))]) (c_X0_beside (xl X) (xD X) cI cE a0 a1 a2 th ow co ro sl c dr (by first | exact hrc |  assumption | omega | rfl) (by first | assumption | omega | rfl) (by first | exact hp1 |  assumption | omega | rfl)) yv_X0_beside nm_X1_49 (by decide) (by decide) rfl rfl 0 rfl rfl rfl rfl (Nat.le_of_ble_eq_true rfl) (Nat.le_refl _) (Nat.le_refl _) dX1_markPiece_47 (fun r_47 u_47 p_47 => ?_)
      rcases p_47 with p_47 | p_47
      · obtain ⟨k_47, rfl, f0_47, f1_47, -⟩ := p_47
        show J X 8 0 0 50 [(0, .ref m0), (1, .ref a0), (2, .int p0), (4, .int (nI t)), (5, .int (nI c)), (6, .int (nI dr))] [.int (nI k_47)] [(a0, .inr (0, [.ref a1, .ref a2, .int (nI co), .int (nI ro), .int sl])), (a1, .inl (cI, 48, .inl th)), (a2, .inl (cI, 48, .inl ow)), (m0, .inr (1, [.ref m1, .ref m2, .int (nI wn1)])), (m1, .inl (cI, 48, .inl mk1)), (m2, .inl (cI, 48, .inl wg1))]
        refine J_istore h (lv' := [(7, .int (nI k_47)), (0, .ref m0), (1, .ref a0), (2, .int p0), (4, .int (nI t)), (5, .int (nI c)), (6, .int (nI dr))]) dX1_markPiece_50 (by decide) rfl ?_
        refine J_iload h dX1_markPiece_52 0 rfl ?_
        refine J_bipush h (v := (-4)) dX1_markPiece_54 (by decide) ?_
        refine T_icmp_eq h (A := ((k_47 : Nat) : Int)) (B := (-4)) 84 dX1_markPiece_56 (by decide) (nI_toInt (by omega)) (by decide) (fun c_56 => absurd c_56 (by omega)) (fun c_56 => ?_)
        refine J_aload_n h (i := 1) dX1_markPiece_59 rfl 2 rfl ?_
        refine J_iload h dX1_markPiece_60 0 rfl ?_
        refine K_vi h (wr := [(m0, .inr (1, [.ref m1, .ref m2, .int (nI wn1)])), (m1, .inl (cI, 48, .inl mk1)), (m2, .inl (cI, 48, .inl wg1))]) (c_X0_ownerOf (xl X) (xD X) cI cE a0 a1 a2 th ow co ro sl k_47 (by first | exact hrc |  assumption | omega | rfl) (by first | assumption | omega | rfl)) yv_X0_ownerOf nm_X1_32 (by decide) (by decide) rfl rfl 0 rfl rfl rfl rfl (Nat.le_of_ble_eq_true rfl) (Nat.le_refl _) (Nat.le_refl _) dX1_markPiece_62 (fun r_62 u_62 p_62 => ?_)
        obtain ⟨rfl, -⟩ := p_62
        show J X 8 0 0 65 [(7, .int (nI k_47)), (0, .ref m0), (1, .ref a0), (2, .int p0), (4, .int (nI t)), (5, .int (nI c)), (6, .int (nI dr))] [.int (ow k_47)] [(a0, .inr (0, [.ref a1, .ref a2, .int (nI co), .int (nI ro), .int sl])), (a1, .inl (cI, 48, .inl th)), (a2, .inl (cI, 48, .inl ow)), (m0, .inr (1, [.ref m1, .ref m2, .int (nI wn1)])), (m1, .inl (cI, 48, .inl mk1)), (m2, .inl (cI, 48, .inl wg1))]
        refine J_iload_n h (i := 2) dX1_markPiece_65 rfl 3 rfl ?_
        refine J_icmp_ne h 84 dX1_markPiece_66 (by decide) (fun c_66 => ?_) (fun c_66 => ?_)
        · skip
          refine J_iinc h (v := nI (dr + 1)) (lv' := [(6, .int (nI (dr + 1))), (7, .int (nI k_47)), (0, .ref m0), (1, .ref a0), (2, .int p0), (4, .int (nI t)), (5, .int (nI c))]) dX1_markPiece_84 6 rfl (inc_ok _ 1) (by decide) rfl ?_
          refine J_goto h 36 dX1_markPiece_87 (by decide) ?_
          refine J.wld [3, 4, 5, 0, 1, 2] (ws' := [(m0, .inr (1, [.ref m1, .ref m2, .int (nI wn1)])), (m1, .inl (cI, 48, .inl mk1)), (m2, .inl (cI, 48, .inl wg1)), (a0, .inr (0, [.ref a1, .ref a2, .int (nI co), .int (nI ro), .int sl])), (a1, .inl (cI, 48, .inl th)), (a2, .inl (cI, 48, .inl ow))]) rfl rfl ?_
          refine J.loc [2, 3, 4, 5, 6, 0] (lv' := [(0, .ref m0), (1, .ref a0), (2, .int p0), (4, .int (nI t)), (5, .int (nI c)), (6, .int (nI (dr + 1)))]) rfl ?_
          exact ih_36 t c (dr + 1) mk1 wg1 wn1 (by first | exact ht |  assumption | omega | rfl) (by first | exact hwn |  assumption | omega | rfl) (by first | assumption | (exact vw_up hv (by omega))) (by first | exact hc |  assumption | omega | rfl) (by first | exact hd |  assumption | omega | rfl) (by first | exact hm |  assumption | omega | rfl) (by omega)
        · skip
          refine J_aload_n h (i := 0) dX1_markPiece_69 rfl 1 rfl ?_
          refine J_iload h dX1_markPiece_70 0 rfl ?_
          refine J.wld [3, 4, 5, 0, 1, 2] (ws' := [(m0, .inr (1, [.ref m1, .ref m2, .int (nI wn1)])), (m1, .inl (cI, 48, .inl mk1)), (m2, .inl (cI, 48, .inl wg1)), (a0, .inr (0, [.ref a1, .ref a2, .int (nI co), .int (nI ro), .int sl])), (a1, .inl (cI, 48, .inl th)), (a2, .inl (cI, 48, .inl ow))]) rfl rfl ?_
          refine K_vi h (wr := [(a0, .inr (0, [.ref a1, .ref a2, .int (nI co), .int (nI ro), .int sl])), (a1, .inl (cI, 48, .inl th)), (a2, .inl (cI, 48, .inl ow))]) (c_X1_markOf (xl X) (xD X) cI cE m0 m1 m2 mk1 wg1 (nI wn1) k_47 (by first | assumption | omega | rfl)) yv_X1_markOf nm_X1_36 (by decide) (by decide) rfl rfl 0 rfl rfl rfl rfl (Nat.le_of_ble_eq_true rfl) (Nat.le_refl _) (Nat.le_refl _) dX1_markPiece_72 (fun r_72 u_72 p_72 => ?_)
          obtain ⟨rfl, -⟩ := p_72
          show J X 8 0 0 75 [(7, .int (nI k_47)), (0, .ref m0), (1, .ref a0), (2, .int p0), (4, .int (nI t)), (5, .int (nI c)), (6, .int (nI dr))] [.int (mk1 k_47)] [(m0, .inr (1, [.ref m1, .ref m2, .int (nI wn1)])), (m1, .inl (cI, 48, .inl mk1)), (m2, .inl (cI, 48, .inl wg1)), (a0, .inr (0, [.ref a1, .ref a2, .int (nI co), .int (nI ro), .int sl])), (a1, .inl (cI, 48, .inl th)), (a2, .inl (cI, 48, .inl ow))]
          refine T_if_ne h (A := (mk1 k_47).toInt) 84 dX1_markPiece_75 (by decide) (rfl) (fun c_75 => ?_) (fun c_75 => ?_)
          · skip
            refine J_iinc h (v := nI (dr + 1)) (lv' := [(6, .int (nI (dr + 1))), (7, .int (nI k_47)), (0, .ref m0), (1, .ref a0), (2, .int p0), (4, .int (nI t)), (5, .int (nI c))]) dX1_markPiece_84 6 rfl (inc_ok _ 1) (by decide) rfl ?_
            refine J_goto h 36 dX1_markPiece_87 (by decide) ?_
            refine J.loc [2, 3, 4, 5, 6, 0] (lv' := [(0, .ref m0), (1, .ref a0), (2, .int p0), (4, .int (nI t)), (5, .int (nI c)), (6, .int (nI (dr + 1)))]) rfl ?_
            exact ih_36 t c (dr + 1) mk1 wg1 wn1 (by first | exact ht |  assumption | omega | rfl) (by first | exact hwn |  assumption | omega | rfl) (by first | assumption | (exact vw_up hv (by omega))) (by first | exact hc |  assumption | omega | rfl) (by first | exact hd |  assumption | omega | rfl) (by first | exact hm |  assumption | omega | rfl) (by omega)
          · skip
            refine J_aload_n h (i := 0) dX1_markPiece_78 rfl 1 rfl ?_
            refine J_iload h dX1_markPiece_79 0 rfl ?_
            refine K_vv h (wr := [(a0, .inr (0, [.ref a1, .ref a2, .int (nI co), .int (nI ro), .int sl])), (a1, .inl (cI, 48, .inl th)), (a2, .inl (cI, 48, .inl ow))]) (c_X1_await (xl X) (xD X) cI cE m0 m1 m2 mk1 wg1 wn1 k_47 (by first | assumption | omega | rfl) (by first | exact hwn |  assumption | omega | rfl)) yv_X1_await nm_X1_43 (by decide) (by decide) rfl rfl 0 rfl rfl rfl rfl (Nat.le_of_ble_eq_true rfl) (Nat.le_refl _) (Nat.le_refl _) dX1_markPiece_81 (fun u_81 p_81 => ?_)
            obtain ⟨mk2_81, wg2_81, wn2_81⟩ := u_81
            try dsimp only at p_81
            rcases p_81 with p_81 | p_81
            · obtain ⟨f0_81, rfl, rfl, rfl, -⟩ := p_81
              show J X 8 0 0 84 [(7, .int (nI k_47)), (0, .ref m0), (1, .ref a0), (2, .int p0), (4, .int (nI t)), (5, .int (nI c)), (6, .int (nI dr))] [] [(m0, .inr (1, [.ref m1, .ref m2, .int (nI (wn1 + 1))])), (m1, .inl (cI, 48, .inl ((upd mk1 k_47 (nI 1))))), (m2, .inl (cI, 48, .inl ((upd wg1 wn1 (nI k_47))))), (a0, .inr (0, [.ref a1, .ref a2, .int (nI co), .int (nI ro), .int sl])), (a1, .inl (cI, 48, .inl th)), (a2, .inl (cI, 48, .inl ow))]
              refine J_iinc h (v := nI (dr + 1)) (lv' := [(6, .int (nI (dr + 1))), (7, .int (nI k_47)), (0, .ref m0), (1, .ref a0), (2, .int p0), (4, .int (nI t)), (5, .int (nI c))]) dX1_markPiece_84 6 rfl (inc_ok _ 1) (by decide) rfl ?_
              refine J_goto h 36 dX1_markPiece_87 (by decide) ?_
              refine J.loc [2, 3, 4, 5, 6, 0] (lv' := [(0, .ref m0), (1, .ref a0), (2, .int p0), (4, .int (nI t)), (5, .int (nI c)), (6, .int (nI (dr + 1)))]) rfl ?_
              exact ih_36 t c (dr + 1) (upd mk1 k_47 (nI 1)) (upd wg1 wn1 (nI k_47)) (wn1 + 1) (by first | exact ht |  assumption | omega | rfl) (by first | exact hwn |  assumption | omega | rfl) (by first | assumption | (exact vw_up hv (by omega))) (by first | exact hc |  assumption | omega | rfl) (by first | exact hd |  assumption | omega | rfl) (by first | exact hm |  assumption | omega | rfl) (by omega)
            · obtain ⟨f0_81, rfl, rfl, rfl, -⟩ := p_81
              show J X 8 0 0 84 [(7, .int (nI k_47)), (0, .ref m0), (1, .ref a0), (2, .int p0), (4, .int (nI t)), (5, .int (nI c)), (6, .int (nI dr))] [] [(m0, .inr (1, [.ref m1, .ref m2, .int (nI wn1)])), (m1, .inl (cI, 48, .inl mk1)), (m2, .inl (cI, 48, .inl wg1)), (a0, .inr (0, [.ref a1, .ref a2, .int (nI co), .int (nI ro), .int sl])), (a1, .inl (cI, 48, .inl th)), (a2, .inl (cI, 48, .inl ow))]
              refine J_iinc h (v := nI (dr + 1)) (lv' := [(6, .int (nI (dr + 1))), (7, .int (nI k_47)), (0, .ref m0), (1, .ref a0), (2, .int p0), (4, .int (nI t)), (5, .int (nI c))]) dX1_markPiece_84 6 rfl (inc_ok _ 1) (by decide) rfl ?_
              refine J_goto h 36 dX1_markPiece_87 (by decide) ?_
              refine J.loc [2, 3, 4, 5, 6, 0] (lv' := [(0, .ref m0), (1, .ref a0), (2, .int p0), (4, .int (nI t)), (5, .int (nI c)), (6, .int (nI (dr + 1)))]) rfl ?_
              exact ih_36 t c (dr + 1) mk1 wg1 wn1 (by first | exact ht |  assumption | omega | rfl) (by first | exact hwn |  assumption | omega | rfl) (by first | assumption | (exact vw_up hv (by omega))) (by first | exact hc |  assumption | omega | rfl) (by first | exact hd |  assumption | omega | rfl) (by first | exact hm |  assumption | omega | rfl) (by omega)
      · obtain ⟨rfl, f0_47, -⟩ := p_47
        show J X 8 0 0 50 [(0, .ref m0), (1, .ref a0), (2, .int p0), (4, .int (nI t)), (5, .int (nI c)), (6, .int (nI dr))] [.int (-4)] [(a0, .inr (0, [.ref a1, .ref a2, .int (nI co), .int (nI ro), .int sl])), (a1, .inl (cI, 48, .inl th)), (a2, .inl (cI, 48, .inl ow)), (m0, .inr (1, [.ref m1, .ref m2, .int (nI wn1)])), (m1, .inl (cI, 48, .inl mk1)), (m2, .inl (cI, 48, .inl wg1))]
        refine J_istore h (lv' := [(7, .int (-4)), (0, .ref m0), (1, .ref a0), (2, .int p0), (4, .int (nI t)), (5, .int (nI c)), (6, .int (nI dr))]) dX1_markPiece_50 (by decide) rfl ?_
        refine J_iload h dX1_markPiece_52 0 rfl ?_
        refine J_bipush h (v := (-4)) dX1_markPiece_54 (by decide) ?_
        refine T_icmp_eq h (A := (-4)) (B := (-4)) 84 dX1_markPiece_56 (by decide) (by decide) (by decide) (fun c_56 => ?_) (fun c_56 => absurd c_56 (by omega))
        refine J_iinc h (v := nI (dr + 1)) (lv' := [(6, .int (nI (dr + 1))), (7, .int (-4)), (0, .ref m0), (1, .ref a0), (2, .int p0), (4, .int (nI t)), (5, .int (nI c))]) dX1_markPiece_84 6 rfl (inc_ok _ 1) (by decide) rfl ?_
        refine J_goto h 36 dX1_markPiece_87 (by decide) ?_
        refine J.wld [3, 4, 5, 0, 1, 2] (ws' := [(m0, .inr (1, [.ref m1, .ref m2, .int (nI wn1)])), (m1, .inl (cI, 48, .inl mk1)), (m2, .inl (cI, 48, .inl wg1)), (a0, .inr (0, [.ref a1, .ref a2, .int (nI co), .int (nI ro), .int sl])), (a1, .inl (cI, 48, .inl th)), (a2, .inl (cI, 48, .inl ow))]) rfl rfl ?_
        refine J.loc [2, 3, 4, 5, 6, 0] (lv' := [(0, .ref m0), (1, .ref a0), (2, .int p0), (4, .int (nI t)), (5, .int (nI c)), (6, .int (nI (dr + 1)))]) rfl ?_
        exact ih_36 t c (dr + 1) mk1 wg1 wn1 (by first | exact ht |  assumption | omega | rfl) (by first | exact hwn |  assumption | omega | rfl) (by first | assumption | (exact vw_up hv (by omega))) (by first | exact hc |  assumption | omega | rfl) (by first | exact hd |  assumption | omega | rfl) (by first | exact hm |  assumption | omega | rfl) (by omega)
set_option maxRecDepth 100000 in
set_option maxHeartbeats 4000000 in
theorem w_X1_markPiece_13 (X : Cx) {cI cE : ClassId} (h : Ok X cX1_markPiece RX1 8 cI cE 2 0 0) (m0 : Nat) (m1 : Nat) (m2 : Nat) (mk : Nat → Int32) (wg : Nat → Int32) (wn : Int32) (a0 : Nat) (a1 : Nat) (a2 : Nat) (th : Nat → Int32) (ow : Nat → Int32) (co : Nat) (ro : Nat) (sl : Int32) (p0 : Int32) (p1 : Nat) (hrc : ro * co ≤ 48) (hp1 : p1 < ro * co) (hR : ∀ (u : (Nat → Int32) × (Nat → Int32) × (Nat)), ((True)) → RetV X cX1_markPiece 8 0 0 [(m0, .inr (1, [.ref m1, .ref m2, .int (nI u.2.2)])), (m1, .inl (cI, 48, .inl u.1)), (m2, .inl (cI, 48, .inl u.2.1)), (a0, .inr (0, [.ref a1, .ref a2, .int (nI co), .int (nI ro), .int sl])), (a1, .inl (cI, 48, .inl th)), (a2, .inl (cI, 48, .inl ow))]) : ∀ (n_13 : Nat) (t : Nat) (mk1 : Nat → Int32) (wg1 : Nat → Int32) (wn1 : Nat), (t ≤ 48) → (wn1 ≤ 48) → (∀ k, k < wn1 → ∃ j, wg1 k = nI j ∧ j < ro * co) → 48 - t < n_13 → J X 8 0 0 13 [(0, .ref m0), (1, .ref a0), (2, .int p0), (4, .int (nI t))] [] [(m0, .inr (1, [.ref m1, .ref m2, .int (nI wn1)])), (m1, .inl (cI, 48, .inl mk1)), (m2, .inl (cI, 48, .inl wg1)), (a0, .inr (0, [.ref a1, .ref a2, .int (nI co), .int (nI ro), .int sl])), (a1, .inl (cI, 48, .inl th)), (a2, .inl (cI, 48, .inl ow))] := by
  intro n_13
  induction n_13 with
  | zero => intro t mk1 wg1 wn1 ht hwn hv hn_; exact absurd hn_ (Nat.not_lt_zero _)
  | succ n_13 ih_13 =>
    intro t mk1 wg1 wn1 ht hwn hv hn_13
    refine J_iload h dX1_markPiece_13 3 rfl ?_
    refine J_bipush h (v := nI 48) dX1_markPiece_15 (by decide) ?_
    refine N_icmp_ge h 96 dX1_markPiece_17 (by decide) (by omega) (by omega) (fun c_17 => ?_) (fun c_17 => ?_)
    · skip
      exact hR (mk1, wg1, wn1) (by trivial) 96 _ dX1_markPiece_96
    · skip
      refine J_aload_n h (i := 0) dX1_markPiece_20 rfl 0 rfl ?_
      refine J_get h inX1 rfl 0 2 (by decide) rfl rfl nf_X1_18 dX1_markPiece_21 ?_
      refine N_if_le h 96 dX1_markPiece_24 (by decide) (by omega) (fun c_24 => ?_) (fun c_24 => ?_)
      · skip
        exact hR (mk1, wg1, wn1) (by trivial) 96 _ dX1_markPiece_96
      · skip
        refine J_aload_n h (i := 0) dX1_markPiece_27 rfl 0 rfl ?_
        refine K_vi h (wr := [(a0, .inr (0, [.ref a1, .ref a2, .int (nI co), .int (nI ro), .int sl])), (a1, .inl (cI, 48, .inl th)), (a2, .inl (cI, 48, .inl ow))]) (c_X1_nextWaiting (xl X) (xD X) cI cE m0 m1 m2 mk1 wg1 wn1 (by first | assumption | omega | rfl) (by first | exact hwn |  assumption | omega | rfl)) yv_X1_nextWaiting nm_X1_46 (by decide) (by decide) rfl rfl 0 rfl rfl rfl rfl (Nat.le_of_ble_eq_true rfl) (Nat.le_refl _) (Nat.le_refl _) dX1_markPiece_28 (fun r_28 u_28 p_28 => ?_)
        obtain ⟨rfl, -⟩ := p_28
        show J X 8 0 0 31 [(0, .ref m0), (1, .ref a0), (2, .int p0), (4, .int (nI t))] [.int (wg1 (wn1 - 1))] [(m0, .inr (1, [.ref m1, .ref m2, .int (nI (wn1 - 1))])), (m1, .inl (cI, 48, .inl mk1)), (m2, .inl (cI, 48, .inl wg1)), (a0, .inr (0, [.ref a1, .ref a2, .int (nI co), .int (nI ro), .int sl])), (a1, .inl (cI, 48, .inl th)), (a2, .inl (cI, 48, .inl ow))]
        obtain ⟨cj, hcj, hcl⟩ := hv (wn1 - 1) (by omega)
        refine J_eqs (st' := [.int (nI cj)]) (by rw [hcj]) ?_
        refine J_istore h (lv' := [(5, .int (nI cj)), (0, .ref m0), (1, .ref a0), (2, .int p0), (4, .int (nI t))]) dX1_markPiece_31 (by decide) rfl ?_
        refine J_iconst h (v := nI 0) dX1_markPiece_33 (by decide) ?_
        refine J_istore h (lv' := [(6, .int (nI 0)), (5, .int (nI cj)), (0, .ref m0), (1, .ref a0), (2, .int p0), (4, .int (nI t))]) dX1_markPiece_34 (by decide) rfl ?_
        refine J.loc [2, 3, 4, 5, 1, 0] (lv' := [(0, .ref m0), (1, .ref a0), (2, .int p0), (4, .int (nI t)), (5, .int (nI cj)), (6, .int (nI 0))]) rfl ?_
        exact w_X1_markPiece_36 X h m0 m1 m2 mk wg wn a0 a1 a2 th ow co ro sl p0 p1 hrc hp1 hR n_13 ih_13 (4 - 0 + 1) t cj 0 mk1 wg1 (wn1 - 1) (by first | exact ht |  assumption | omega | rfl) (by first | exact hwn |  assumption | omega | rfl) (by exact fun k hk => hv k (by omega)) (by first | assumption | omega | rfl) (by first | assumption | omega | rfl) (by first | assumption | omega | rfl) (by omega)
set_option maxRecDepth 100000 in
set_option maxHeartbeats 4000000 in
theorem w_X1_markPiece (X : Cx) {cI cE : ClassId} (h : Ok X cX1_markPiece RX1 8 cI cE 2 0 0) (m0 : Nat) (m1 : Nat) (m2 : Nat) (mk : Nat → Int32) (wg : Nat → Int32) (wn : Int32) (a0 : Nat) (a1 : Nat) (a2 : Nat) (th : Nat → Int32) (ow : Nat → Int32) (co : Nat) (ro : Nat) (sl : Int32) (p0 : Int32) (p1 : Nat) (hrc : ro * co ≤ 48) (hp1 : p1 < ro * co) (hR : ∀ (u : (Nat → Int32) × (Nat → Int32) × (Nat)), ((True)) → RetV X cX1_markPiece 8 0 0 [(m0, .inr (1, [.ref m1, .ref m2, .int (nI u.2.2)])), (m1, .inl (cI, 48, .inl u.1)), (m2, .inl (cI, 48, .inl u.2.1)), (a0, .inr (0, [.ref a1, .ref a2, .int (nI co), .int (nI ro), .int sl])), (a1, .inl (cI, 48, .inl th)), (a2, .inl (cI, 48, .inl ow))]) : J X 8 0 0 0 [(0, .ref m0), (1, .ref a0), (2, .int p0), (3, .int (nI p1))] [] [(m0, .inr (1, [.ref m1, .ref m2, .int wn])), (m1, .inl (cI, 48, .inl mk)), (m2, .inl (cI, 48, .inl wg)), (a0, .inr (0, [.ref a1, .ref a2, .int (nI co), .int (nI ro), .int sl])), (a1, .inl (cI, 48, .inl th)), (a2, .inl (cI, 48, .inl ow))] := by
  refine J_aload_n h (i := 0) dX1_markPiece_0 rfl 0 rfl ?_
  refine J_iconst h (v := nI 0) dX1_markPiece_1 (by decide) ?_
  refine J_put h (ws' := [(m0, .inr (1, [.ref m1, .ref m2, .int (nI 0)])), (m1, .inl (cI, 48, .inl mk)), (m2, .inl (cI, 48, .inl wg)), (a0, .inr (0, [.ref a1, .ref a2, .int (nI co), .int (nI ro), .int sl])), (a1, .inl (cI, 48, .inl th)), (a2, .inl (cI, 48, .inl ow))]) inX1 tyX1 tyX1_ok nmX1 rfl 0 2 (by decide) rfl nf_X1_18 rfl rfl rfl rfl (Nat.le_of_ble_eq_true rfl) dX1_markPiece_2 rfl ?_
  refine J_aload_n h (i := 0) dX1_markPiece_5 rfl 0 rfl ?_
  refine J_iload_n h (i := 3) dX1_markPiece_6 rfl 3 rfl ?_
  refine K_vv h (wr := [(a0, .inr (0, [.ref a1, .ref a2, .int (nI co), .int (nI ro), .int sl])), (a1, .inl (cI, 48, .inl th)), (a2, .inl (cI, 48, .inl ow))]) (c_X1_await (xl X) (xD X) cI cE m0 m1 m2 mk wg 0 p1 (by first | assumption | omega | rfl) (by first | assumption | omega | rfl)) yv_X1_await nm_X1_43 (by decide) (by decide) rfl rfl 0 rfl rfl rfl rfl (Nat.le_of_ble_eq_true rfl) (Nat.le_refl _) (Nat.le_refl _) dX1_markPiece_7 (fun u_7 p_7 => ?_)
  obtain ⟨mk2_7, wg2_7, wn2_7⟩ := u_7
  try dsimp only at p_7
  rcases p_7 with p_7 | p_7
  · obtain ⟨f0_7, rfl, rfl, rfl, -⟩ := p_7
    show J X 8 0 0 10 [(0, .ref m0), (1, .ref a0), (2, .int p0), (3, .int (nI p1))] [] [(m0, .inr (1, [.ref m1, .ref m2, .int (nI (0 + 1))])), (m1, .inl (cI, 48, .inl ((upd mk p1 (nI 1))))), (m2, .inl (cI, 48, .inl ((upd wg 0 (nI p1))))), (a0, .inr (0, [.ref a1, .ref a2, .int (nI co), .int (nI ro), .int sl])), (a1, .inl (cI, 48, .inl th)), (a2, .inl (cI, 48, .inl ow))]
    refine J_iconst h (v := nI 0) dX1_markPiece_10 (by decide) ?_
    refine J_istore h (lv' := [(4, .int (nI 0)), (0, .ref m0), (1, .ref a0), (2, .int p0), (3, .int (nI p1))]) dX1_markPiece_11 (by decide) rfl ?_
    refine J.loc [1, 2, 3, 0] (lv' := [(0, .ref m0), (1, .ref a0), (2, .int p0), (4, .int (nI 0))]) rfl ?_
    exact w_X1_markPiece_13 X h m0 m1 m2 mk wg wn a0 a1 a2 th ow co ro sl p0 p1 hrc hp1 hR  (48 - 0 + 1) 0 (upd mk p1 (nI 1)) (upd wg 0 (nI p1)) (0 + 1) (by first | assumption | omega | rfl) (by first | assumption | omega | rfl) (by first | (intro k hk; exact ⟨p1, by rw [show k = 0 by omega]; exact upd_at _ _ _, hp1⟩) | (omega)) (by omega)
  · obtain ⟨f0_7, rfl, rfl, rfl, -⟩ := p_7
    show J X 8 0 0 10 [(0, .ref m0), (1, .ref a0), (2, .int p0), (3, .int (nI p1))] [] [(m0, .inr (1, [.ref m1, .ref m2, .int (nI 0)])), (m1, .inl (cI, 48, .inl mk)), (m2, .inl (cI, 48, .inl wg)), (a0, .inr (0, [.ref a1, .ref a2, .int (nI co), .int (nI ro), .int sl])), (a1, .inl (cI, 48, .inl th)), (a2, .inl (cI, 48, .inl ow))]
    refine J_iconst h (v := nI 0) dX1_markPiece_10 (by decide) ?_
    refine J_istore h (lv' := [(4, .int (nI 0)), (0, .ref m0), (1, .ref a0), (2, .int p0), (3, .int (nI p1))]) dX1_markPiece_11 (by decide) rfl ?_
    refine J.loc [1, 2, 3, 0] (lv' := [(0, .ref m0), (1, .ref a0), (2, .int p0), (4, .int (nI 0))]) rfl ?_
    exact w_X1_markPiece_13 X h m0 m1 m2 mk wg wn a0 a1 a2 th ow co ro sl p0 p1 hrc hp1 hR  (48 - 0 + 1) 0 mk wg 0 (by first | assumption | omega | rfl) (by first | assumption | omega | rfl) (by first | (intro k hk; exact ⟨p1, by rw [show k = 0 by omega]; exact upd_at _ _ _, hp1⟩) | (omega)) (by omega)
theorem c_X1_markPiece (l : Launch) (D : va_G) (cI cE : ClassId) (m0 : Nat) (m1 : Nat) (m2 : Nat) (mk : Nat → Int32) (wg : Nat → Int32) (wn : Int32) (a0 : Nat) (a1 : Nat) (a2 : Nat) (th : Nat → Int32) (ow : Nat → Int32) (co : Nat) (ro : Nat) (sl : Int32) (p0 : Int32) (p1 : Nat) (hrc : ro * co ≤ 48) (hp1 : p1 < ro * co) : Cv l D cI cE yX1_markPiece cX1_markPiece 8 none 2 0 0 [.ref m0, .ref a0, .int p0, .int (nI p1)] [(m0, .inr (1, [.ref m1, .ref m2, .int wn])), (m1, .inl (cI, 48, .inl mk)), (m2, .inl (cI, 48, .inl wg)), (a0, .inr (0, [.ref a1, .ref a2, .int (nI co), .int (nI ro), .int sl])), (a1, .inl (cI, 48, .inl th)), (a2, .inl (cI, 48, .inl ow))] (fun (u : (Nat → Int32) × (Nat → Int32) × (Nat)) => ((True))) (fun (u : (Nat → Int32) × (Nat → Int32) × (Nat)) => ([(m0, .inr (1, [.ref m1, .ref m2, .int (nI u.2.2)])), (m1, .inl (cI, 48, .inl u.1)), (m2, .inl (cI, 48, .inl u.2.1)), (a0, .inr (0, [.ref a1, .ref a2, .int (nI co), .int (nI ro), .int sl])), (a1, .inl (cI, 48, .inl th)), (a2, .inl (cI, 48, .inl ow))] : va_W)) :=
  Cv.of (by decide) (Nat.le_of_ble_eq_true rfl) (fun X h hR _ => w_X1_markPiece X h m0 m1 m2 mk wg wn a0 a1 a2 th ow co ro sl p0 p1 hrc hp1 hR)
theorem yv_X1_markPiece : YV yX1_markPiece cX1_markPiece 8 none 3 := ⟨no_X1_markPiece, nv_X1_markPiece, ni_X1, nk_X1_markPiece, by decide +kernel⟩
set_option maxRecDepth 100000 in
set_option maxHeartbeats 4000000 in
theorem w_X1_piecesOf_10 (X : Cx) {cI cE : ClassId} (h : Ok X cX1_piecesOf RX1 5 cI cE 3 0 0) (m0 : Nat) (m1 : Nat) (m2 : Nat) (mk : Nat → Int32) (wg : Nat → Int32) (wn : Int32) (a0 : Nat) (a1 : Nat) (a2 : Nat) (th : Nat → Int32) (ow : Nat → Int32) (co : Nat) (ro : Nat) (sl : Int32) (p0 : Int32) (hrc : ro * co ≤ 48) (hR : ∀ (r : Int32) (u : (Nat → Int32) × (Nat → Int32) × (Int32)), ((True)) → RetI X cX1_piecesOf 5 0 0 r [(m0, .inr (1, [.ref m1, .ref m2, .int u.2.2])), (m1, .inl (cI, 48, .inl u.1)), (m2, .inl (cI, 48, .inl u.2.1)), (a0, .inr (0, [.ref a1, .ref a2, .int (nI co), .int (nI ro), .int sl])), (a1, .inl (cI, 48, .inl th)), (a2, .inl (cI, 48, .inl ow))]) : ∀ (n_10 : Nat) (i : Nat) (n : Nat) (mk1 : Nat → Int32) (wg1 : Nat → Int32) (wn1 : Int32), (i ≤ ro * co) → (n ≤ i) → ro * co - i < n_10 → J X 5 0 0 10 [(0, .ref m0), (1, .ref a0), (2, .int p0), (3, .int (nI n)), (4, .int (nI i))] [] [(m0, .inr (1, [.ref m1, .ref m2, .int wn1])), (m1, .inl (cI, 48, .inl mk1)), (m2, .inl (cI, 48, .inl wg1)), (a0, .inr (0, [.ref a1, .ref a2, .int (nI co), .int (nI ro), .int sl])), (a1, .inl (cI, 48, .inl th)), (a2, .inl (cI, 48, .inl ow))] := by
  intro n_10
  induction n_10 with
  | zero => intro i n mk1 wg1 wn1 hi hn hn_; exact absurd hn_ (Nat.not_lt_zero _)
  | succ n_10 ih_10 =>
    intro i n mk1 wg1 wn1 hi hn hn_10
    refine J_iload h dX1_piecesOf_10 4 rfl ?_
    refine J_aload_n h (i := 1) dX1_piecesOf_12 rfl 1 rfl ?_
    refine J.wld [3, 4, 5, 0, 1, 2] (ws' := [(a0, .inr (0, [.ref a1, .ref a2, .int (nI co), .int (nI ro), .int sl])), (a1, .inl (cI, 48, .inl th)), (a2, .inl (cI, 48, .inl ow)), (m0, .inr (1, [.ref m1, .ref m2, .int wn1])), (m1, .inl (cI, 48, .inl mk1)), (m2, .inl (cI, 48, .inl wg1))]) rfl rfl ?_
    refine K_vi h (wr := [(m0, .inr (1, [.ref m1, .ref m2, .int wn1])), (m1, .inl (cI, 48, .inl mk1)), (m2, .inl (cI, 48, .inl wg1))]) (c_X0_cells (xl X) (xD X) cI cE a0 a1 a2 th ow co ro sl ) yv_X0_cells nm_X1_26 (by decide) (by decide) rfl rfl 0 rfl rfl rfl rfl (Nat.le_of_ble_eq_true rfl) (Nat.le_refl _) (Nat.le_refl _) dX1_piecesOf_13 (fun r_13 u_13 p_13 => ?_)
    obtain ⟨rfl, -⟩ := p_13
    show J X 5 0 0 16 [(0, .ref m0), (1, .ref a0), (2, .int p0), (3, .int (nI n)), (4, .int (nI i))] [.int (nI (ro * co)), .int (nI i)] [(a0, .inr (0, [.ref a1, .ref a2, .int (nI co), .int (nI ro), .int sl])), (a1, .inl (cI, 48, .inl th)), (a2, .inl (cI, 48, .inl ow)), (m0, .inr (1, [.ref m1, .ref m2, .int wn1])), (m1, .inl (cI, 48, .inl mk1)), (m2, .inl (cI, 48, .inl wg1))]
    refine N_icmp_ge h 55 dX1_piecesOf_16 (by decide) (by omega) (by omega) (fun c_16 => ?_) (fun c_16 => ?_)
    · skip
      refine J_iload_n h (i := 3) dX1_piecesOf_55 rfl 3 rfl ?_
      refine J.wld [3, 4, 5, 0, 1, 2] (ws' := [(m0, .inr (1, [.ref m1, .ref m2, .int wn1])), (m1, .inl (cI, 48, .inl mk1)), (m2, .inl (cI, 48, .inl wg1)), (a0, .inr (0, [.ref a1, .ref a2, .int (nI co), .int (nI ro), .int sl])), (a1, .inl (cI, 48, .inl th)), (a2, .inl (cI, 48, .inl ow))]) rfl rfl ?_
      exact hR (nI n) (mk1, wg1, wn1) (by trivial) 56 _ dX1_piecesOf_56
    · skip
      refine J_aload_n h (i := 1) dX1_piecesOf_19 rfl 1 rfl ?_
      refine J_iload h dX1_piecesOf_20 4 rfl ?_
      refine K_vi h (wr := [(m0, .inr (1, [.ref m1, .ref m2, .int wn1])), (m1, .inl (cI, 48, .inl mk1)), (m2, .inl (cI, 48, .inl wg1))]) (c_X0_ownerOf (xl X) (xD X) cI cE a0 a1 a2 th ow co ro sl i (by first | exact hrc |  assumption | omega | rfl) (by first | assumption | omega | rfl)) yv_X0_ownerOf nm_X1_32 (by decide) (by decide) rfl rfl 0 rfl rfl rfl rfl (Nat.le_of_ble_eq_true rfl) (Nat.le_refl _) (Nat.le_refl _) dX1_piecesOf_22 (fun r_22 u_22 p_22 => ?_)
      obtain ⟨rfl, -⟩ := p_22
      show J X 5 0 0 25 [(0, .ref m0), (1, .ref a0), (2, .int p0), (3, .int (nI n)), (4, .int (nI i))] [.int (ow i)] [(a0, .inr (0, [.ref a1, .ref a2, .int (nI co), .int (nI ro), .int sl])), (a1, .inl (cI, 48, .inl th)), (a2, .inl (cI, 48, .inl ow)), (m0, .inr (1, [.ref m1, .ref m2, .int wn1])), (m1, .inl (cI, 48, .inl mk1)), (m2, .inl (cI, 48, .inl wg1))]
      refine J_iload_n h (i := 2) dX1_piecesOf_25 rfl 2 rfl ?_
      refine J_icmp_ne h 49 dX1_piecesOf_26 (by decide) (fun c_26 => ?_) (fun c_26 => ?_)
      · skip
        refine J_iinc h (v := nI (i + 1)) (lv' := [(4, .int (nI (i + 1))), (0, .ref m0), (1, .ref a0), (2, .int p0), (3, .int (nI n))]) dX1_piecesOf_49 4 rfl (inc_ok _ 1) (by decide) rfl ?_
        refine J_goto h 10 dX1_piecesOf_52 (by decide) ?_
        refine J.wld [3, 4, 5, 0, 1, 2] (ws' := [(m0, .inr (1, [.ref m1, .ref m2, .int wn1])), (m1, .inl (cI, 48, .inl mk1)), (m2, .inl (cI, 48, .inl wg1)), (a0, .inr (0, [.ref a1, .ref a2, .int (nI co), .int (nI ro), .int sl])), (a1, .inl (cI, 48, .inl th)), (a2, .inl (cI, 48, .inl ow))]) rfl rfl ?_
        refine J.loc [1, 2, 3, 4, 0] (lv' := [(0, .ref m0), (1, .ref a0), (2, .int p0), (3, .int (nI n)), (4, .int (nI (i + 1)))]) rfl ?_
        exact ih_10 (i + 1) n mk1 wg1 wn1 (by first | exact hi |  assumption | omega | rfl) (by first | exact hn |  assumption | omega | rfl) (by omega)
      · skip
        refine J_aload_n h (i := 0) dX1_piecesOf_29 rfl 0 rfl ?_
        refine J_iload h dX1_piecesOf_30 4 rfl ?_
        refine J.wld [3, 4, 5, 0, 1, 2] (ws' := [(m0, .inr (1, [.ref m1, .ref m2, .int wn1])), (m1, .inl (cI, 48, .inl mk1)), (m2, .inl (cI, 48, .inl wg1)), (a0, .inr (0, [.ref a1, .ref a2, .int (nI co), .int (nI ro), .int sl])), (a1, .inl (cI, 48, .inl th)), (a2, .inl (cI, 48, .inl ow))]) rfl rfl ?_
        refine K_vi h (wr := [(a0, .inr (0, [.ref a1, .ref a2, .int (nI co), .int (nI ro), .int sl])), (a1, .inl (cI, 48, .inl th)), (a2, .inl (cI, 48, .inl ow))]) (c_X1_markOf (xl X) (xD X) cI cE m0 m1 m2 mk1 wg1 wn1 i (by first | assumption | omega | rfl)) yv_X1_markOf nm_X1_36 (by decide) (by decide) rfl rfl 0 rfl rfl rfl rfl (Nat.le_of_ble_eq_true rfl) (Nat.le_refl _) (Nat.le_refl _) dX1_piecesOf_32 (fun r_32 u_32 p_32 => ?_)
        obtain ⟨rfl, -⟩ := p_32
        show J X 5 0 0 35 [(0, .ref m0), (1, .ref a0), (2, .int p0), (3, .int (nI n)), (4, .int (nI i))] [.int (mk1 i)] [(m0, .inr (1, [.ref m1, .ref m2, .int wn1])), (m1, .inl (cI, 48, .inl mk1)), (m2, .inl (cI, 48, .inl wg1)), (a0, .inr (0, [.ref a1, .ref a2, .int (nI co), .int (nI ro), .int sl])), (a1, .inl (cI, 48, .inl th)), (a2, .inl (cI, 48, .inl ow))]
        refine T_if_ne h (A := (mk1 i).toInt) 49 dX1_piecesOf_35 (by decide) (rfl) (fun c_35 => ?_) (fun c_35 => ?_)
        · skip
          refine J_iinc h (v := nI (i + 1)) (lv' := [(4, .int (nI (i + 1))), (0, .ref m0), (1, .ref a0), (2, .int p0), (3, .int (nI n))]) dX1_piecesOf_49 4 rfl (inc_ok _ 1) (by decide) rfl ?_
          refine J_goto h 10 dX1_piecesOf_52 (by decide) ?_
          refine J.loc [1, 2, 3, 4, 0] (lv' := [(0, .ref m0), (1, .ref a0), (2, .int p0), (3, .int (nI n)), (4, .int (nI (i + 1)))]) rfl ?_
          exact ih_10 (i + 1) n mk1 wg1 wn1 (by first | exact hi |  assumption | omega | rfl) (by first | exact hn |  assumption | omega | rfl) (by omega)
        · skip
          refine J_iinc h (v := nI (n + 1)) (lv' := [(3, .int (nI (n + 1))), (0, .ref m0), (1, .ref a0), (2, .int p0), (4, .int (nI i))]) dX1_piecesOf_38 3 rfl (inc_ok _ 1) (by decide) rfl ?_
          refine J_aload_n h (i := 0) dX1_piecesOf_41 rfl 1 rfl ?_
          refine J_aload_n h (i := 1) dX1_piecesOf_42 rfl 2 rfl ?_
          refine J_iload_n h (i := 2) dX1_piecesOf_43 rfl 3 rfl ?_
          refine J_iload h dX1_piecesOf_44 4 rfl ?_
          refine K_vv h (wr := []) (c_X1_markPiece (xl X) (xD X) cI cE m0 m1 m2 mk1 wg1 wn1 a0 a1 a2 th ow co ro sl p0 i (by first | exact hrc |  assumption | omega | rfl) (by first | assumption | omega | rfl)) yv_X1_markPiece nm_X1_39 (by decide) (by decide) rfl rfl 0 rfl rfl rfl rfl (Nat.le_of_ble_eq_true rfl) (Nat.le_refl _) (Nat.le_refl _) dX1_piecesOf_46 (fun u_46 p_46 => ?_)
          obtain ⟨mk2_46, wg2_46, wn2_46⟩ := u_46
          try dsimp only at p_46
          show J X 5 0 0 49 [(3, .int (nI (n + 1))), (0, .ref m0), (1, .ref a0), (2, .int p0), (4, .int (nI i))] [] [(m0, .inr (1, [.ref m1, .ref m2, .int (nI wn2_46)])), (m1, .inl (cI, 48, .inl mk2_46)), (m2, .inl (cI, 48, .inl wg2_46)), (a0, .inr (0, [.ref a1, .ref a2, .int (nI co), .int (nI ro), .int sl])), (a1, .inl (cI, 48, .inl th)), (a2, .inl (cI, 48, .inl ow))]
          refine J_iinc h (v := nI (i + 1)) (lv' := [(4, .int (nI (i + 1))), (3, .int (nI (n + 1))), (0, .ref m0), (1, .ref a0), (2, .int p0)]) dX1_piecesOf_49 4 rfl (inc_ok _ 1) (by decide) rfl ?_
          refine J_goto h 10 dX1_piecesOf_52 (by decide) ?_
          refine J.loc [2, 3, 4, 1, 0] (lv' := [(0, .ref m0), (1, .ref a0), (2, .int p0), (3, .int (nI (n + 1))), (4, .int (nI (i + 1)))]) rfl ?_
          exact ih_10 (i + 1) (n + 1) mk2_46 wg2_46 (nI wn2_46) (by first | exact hi |  assumption | omega | rfl) (by first | exact hn |  assumption | omega | rfl) (by omega)
set_option maxRecDepth 100000 in
set_option maxHeartbeats 4000000 in
theorem w_X1_piecesOf (X : Cx) {cI cE : ClassId} (h : Ok X cX1_piecesOf RX1 5 cI cE 3 0 0) (m0 : Nat) (m1 : Nat) (m2 : Nat) (mk : Nat → Int32) (wg : Nat → Int32) (wn : Int32) (a0 : Nat) (a1 : Nat) (a2 : Nat) (th : Nat → Int32) (ow : Nat → Int32) (co : Nat) (ro : Nat) (sl : Int32) (p0 : Int32) (hrc : ro * co ≤ 48) (hR : ∀ (r : Int32) (u : (Nat → Int32) × (Nat → Int32) × (Int32)), ((True)) → RetI X cX1_piecesOf 5 0 0 r [(m0, .inr (1, [.ref m1, .ref m2, .int u.2.2])), (m1, .inl (cI, 48, .inl u.1)), (m2, .inl (cI, 48, .inl u.2.1)), (a0, .inr (0, [.ref a1, .ref a2, .int (nI co), .int (nI ro), .int sl])), (a1, .inl (cI, 48, .inl th)), (a2, .inl (cI, 48, .inl ow))]) : J X 5 0 0 0 [(0, .ref m0), (1, .ref a0), (2, .int p0)] [] [(m0, .inr (1, [.ref m1, .ref m2, .int wn])), (m1, .inl (cI, 48, .inl mk)), (m2, .inl (cI, 48, .inl wg)), (a0, .inr (0, [.ref a1, .ref a2, .int (nI co), .int (nI ro), .int sl])), (a1, .inl (cI, 48, .inl th)), (a2, .inl (cI, 48, .inl ow))] := by
  refine J_aload_n h (i := 0) dX1_piecesOf_0 rfl 0 rfl ?_
  refine J_iconst h (v := nI 0) dX1_piecesOf_1 (by decide) ?_
  refine K_vv h (wr := [(a0, .inr (0, [.ref a1, .ref a2, .int (nI co), .int (nI ro), .int sl])), (a1, .inl (cI, 48, .inl th)), (a2, .inl (cI, 48, .inl ow))]) (c_X1_fillMarks (xl X) (xD X) cI cE m0 m1 m2 mk wg wn (nI 0) ) yv_X1_fillMarks nm_X1_22 (by decide) (by decide) rfl rfl 0 rfl rfl rfl rfl (Nat.le_of_ble_eq_true rfl) (Nat.le_refl _) (Nat.le_refl _) dX1_piecesOf_2 (fun u_2 p_2 => ?_)
  show J X 5 0 0 5 [(0, .ref m0), (1, .ref a0), (2, .int p0)] [] [(m0, .inr (1, [.ref m1, .ref m2, .int wn])), (m1, .inl (cI, 48, .inl (fun _ => (nI 0)))), (m2, .inl (cI, 48, .inl wg)), (a0, .inr (0, [.ref a1, .ref a2, .int (nI co), .int (nI ro), .int sl])), (a1, .inl (cI, 48, .inl th)), (a2, .inl (cI, 48, .inl ow))]
  refine J_iconst h (v := nI 0) dX1_piecesOf_5 (by decide) ?_
  refine J_istore_n h (i := 3) (lv' := [(3, .int (nI 0)), (0, .ref m0), (1, .ref a0), (2, .int p0)]) dX1_piecesOf_6 rfl (by decide) rfl ?_
  refine J_iconst h (v := nI 0) dX1_piecesOf_7 (by decide) ?_
  refine J_istore h (lv' := [(4, .int (nI 0)), (3, .int (nI 0)), (0, .ref m0), (1, .ref a0), (2, .int p0)]) dX1_piecesOf_8 (by decide) rfl ?_
  refine J.loc [2, 3, 4, 1, 0] (lv' := [(0, .ref m0), (1, .ref a0), (2, .int p0), (3, .int (nI 0)), (4, .int (nI 0))]) rfl ?_
  exact w_X1_piecesOf_10 X h m0 m1 m2 mk wg wn a0 a1 a2 th ow co ro sl p0 hrc hR  (ro * co - 0 + 1) 0 0 (fun _ => (nI 0)) wg wn (by first | assumption | omega | rfl) (by first | assumption | omega | rfl) (by omega)
theorem c_X1_piecesOf (l : Launch) (D : va_G) (cI cE : ClassId) (m0 : Nat) (m1 : Nat) (m2 : Nat) (mk : Nat → Int32) (wg : Nat → Int32) (wn : Int32) (a0 : Nat) (a1 : Nat) (a2 : Nat) (th : Nat → Int32) (ow : Nat → Int32) (co : Nat) (ro : Nat) (sl : Int32) (p0 : Int32) (hrc : ro * co ≤ 48) : Ci l D cI cE yX1_piecesOf cX1_piecesOf 5 (some .int) 3 0 0 [.ref m0, .ref a0, .int p0] [(m0, .inr (1, [.ref m1, .ref m2, .int wn])), (m1, .inl (cI, 48, .inl mk)), (m2, .inl (cI, 48, .inl wg)), (a0, .inr (0, [.ref a1, .ref a2, .int (nI co), .int (nI ro), .int sl])), (a1, .inl (cI, 48, .inl th)), (a2, .inl (cI, 48, .inl ow))] (fun (r : Int32) (u : (Nat → Int32) × (Nat → Int32) × (Int32)) => ((True))) (fun (u : (Nat → Int32) × (Nat → Int32) × (Int32)) => ([(m0, .inr (1, [.ref m1, .ref m2, .int u.2.2])), (m1, .inl (cI, 48, .inl u.1)), (m2, .inl (cI, 48, .inl u.2.1)), (a0, .inr (0, [.ref a1, .ref a2, .int (nI co), .int (nI ro), .int sl])), (a1, .inl (cI, 48, .inl th)), (a2, .inl (cI, 48, .inl ow))] : va_W)) :=
  Ci.of (by decide) (Nat.le_of_ble_eq_true rfl) (fun _ _ _ => rfl) (fun X h hR => w_X1_piecesOf X h m0 m1 m2 mk wg wn a0 a1 a2 th ow co ro sl p0 hrc hR)
theorem yv_X1_piecesOf : YV yX1_piecesOf cX1_piecesOf 5 (some .int) 2 := ⟨no_X1_piecesOf, nv_X1_piecesOf, ni_X1, nk_X1_piecesOf, by decide +kernel⟩
set_option maxRecDepth 100000 in
set_option maxHeartbeats 4000000 in
theorem w_X1_lowerMark_22 (X : Cx) {cI cE : ClassId} (h : Ok X cX1_lowerMark RX1 8 cI cE 2 0 0) (m0 : Nat) (m1 : Nat) (m2 : Nat) (mk : Nat → Int32) (wg : Nat → Int32) (wn : Int32) (a0 : Nat) (a1 : Nat) (a2 : Nat) (th : Nat → Int32) (ow : Nat → Int32) (co : Nat) (ro : Nat) (sl : Int32) (p0 : Int32) (p1 : Nat) (hrc : ro * co ≤ 48) (hp1 : p1 < ro * co) (hR : ∀ (r : Int32) (u : (Nat → Int32)), ((nI 1 = r) ∧ (True)) ∨ ((nI 0 = r) ∧ (True)) → RetI X cX1_lowerMark 8 0 0 r [(m0, .inr (1, [.ref m1, .ref m2, .int wn])), (m1, .inl (cI, 48, .inl u)), (m2, .inl (cI, 48, .inl wg)), (a0, .inr (0, [.ref a1, .ref a2, .int (nI co), .int (nI ro), .int sl])), (a1, .inl (cI, 48, .inl th)), (a2, .inl (cI, 48, .inl ow))]) : ∀ (n_22 : Nat) (dr : Nat) (own : Nat) (lw : Nat) (mk1 : Nat → Int32), (dr ≤ 4) → (own ≤ 1) → (lw ≤ 1) → 4 - dr < n_22 → J X 8 0 0 22 [(0, .ref m0), (1, .ref a0), (2, .int p0), (3, .int (nI p1)), (4, .int (nI own)), (5, .int (nI lw)), (6, .int (nI dr))] [] [(m0, .inr (1, [.ref m1, .ref m2, .int wn])), (m1, .inl (cI, 48, .inl mk1)), (m2, .inl (cI, 48, .inl wg)), (a0, .inr (0, [.ref a1, .ref a2, .int (nI co), .int (nI ro), .int sl])), (a1, .inl (cI, 48, .inl th)), (a2, .inl (cI, 48, .inl ow))] := by
  intro n_22
  induction n_22 with
  | zero => intro dr own lw mk1 hd ho hl hn_; exact absurd hn_ (Nat.not_lt_zero _)
  | succ n_22 ih_22 =>
    intro dr own lw mk1 hd ho hl hn_22
    refine J_iload h dX1_lowerMark_22 6 rfl ?_
    refine J_iconst h (v := nI 4) dX1_lowerMark_24 (by decide) ?_
    refine N_icmp_ge h 84 dX1_lowerMark_25 (by decide) (by omega) (by omega) (fun c_25 => ?_) (fun c_25 => ?_)
    · skip
      refine J_iload h dX1_lowerMark_84 5 rfl ?_
      exact hR (nI lw) mk1 (by rcases (show lw = 1 ∨ lw = 0 by omega) with e | e; exact Or.inl ⟨by rw [e], trivial⟩; exact Or.inr ⟨by rw [e], trivial⟩) 86 _ dX1_lowerMark_86
    · skip
      refine J_aload_n h (i := 1) dX1_lowerMark_28 rfl 1 rfl ?_
      refine J_iload_n h (i := 3) dX1_lowerMark_29 rfl 3 rfl ?_
      refine J_iload h dX1_lowerMark_30 6 rfl ?_
      refine J.wld [3, 4, 5, 0, 1, 2] (ws' := [(a0, .inr (0, [.ref a1, .ref a2, .int (nI co), .int (nI ro), .int sl])), (a1, .inl (cI, 48, .inl th)), (a2, .inl (cI, 48, .inl ow)), (m0, .inr (1, [.ref m1, .ref m2, .int wn])), (m1, .inl (cI, 48, .inl mk1)), (m2, .inl (cI, 48, .inl wg))]) rfl rfl ?_
      refine K_vi h (wr := [(m0, .inr (1, [.ref m1, .ref m2, .int wn])), (m1, .inl (cI, 48, .inl mk1)), (m2, .inl (cI, 48, .inl wg))]) (c_X0_beside (xl X) (xD X) cI cE a0 a1 a2 th ow co ro sl p1 dr (by first | exact hrc |  assumption | omega | rfl) (by first | assumption | omega | rfl) (by first | exact hp1 |  assumption | omega | rfl)) yv_X0_beside nm_X1_49 (by decide) (by decide) rfl rfl 0 rfl rfl rfl rfl (Nat.le_of_ble_eq_true rfl) (Nat.le_refl _) (Nat.le_refl _) dX1_lowerMark_32 (fun r_32 u_32 p_32 => ?_)
      rcases p_32 with p_32 | p_32
      · obtain ⟨k_32, rfl, f0_32, f1_32, -⟩ := p_32
        show J X 8 0 0 35 [(0, .ref m0), (1, .ref a0), (2, .int p0), (3, .int (nI p1)), (4, .int (nI own)), (5, .int (nI lw)), (6, .int (nI dr))] [.int (nI k_32)] [(a0, .inr (0, [.ref a1, .ref a2, .int (nI co), .int (nI ro), .int sl])), (a1, .inl (cI, 48, .inl th)), (a2, .inl (cI, 48, .inl ow)), (m0, .inr (1, [.ref m1, .ref m2, .int wn])), (m1, .inl (cI, 48, .inl mk1)), (m2, .inl (cI, 48, .inl wg))]
        refine J_istore h (lv' := [(7, .int (nI k_32)), (0, .ref m0), (1, .ref a0), (2, .int p0), (3, .int (nI p1)), (4, .int (nI own)), (5, .int (nI lw)), (6, .int (nI dr))]) dX1_lowerMark_35 (by decide) rfl ?_
        refine J_iload h dX1_lowerMark_37 0 rfl ?_
        refine J_bipush h (v := (-4)) dX1_lowerMark_39 (by decide) ?_
        refine T_icmp_eq h (A := ((k_32 : Nat) : Int)) (B := (-4)) 78 dX1_lowerMark_41 (by decide) (nI_toInt (by omega)) (by decide) (fun c_41 => absurd c_41 (by omega)) (fun c_41 => ?_)
        refine J_aload_n h (i := 0) dX1_lowerMark_44 rfl 1 rfl ?_
        refine J_iload h dX1_lowerMark_45 0 rfl ?_
        refine J.wld [3, 4, 5, 0, 1, 2] (ws' := [(m0, .inr (1, [.ref m1, .ref m2, .int wn])), (m1, .inl (cI, 48, .inl mk1)), (m2, .inl (cI, 48, .inl wg)), (a0, .inr (0, [.ref a1, .ref a2, .int (nI co), .int (nI ro), .int sl])), (a1, .inl (cI, 48, .inl th)), (a2, .inl (cI, 48, .inl ow))]) rfl rfl ?_
        refine K_vi h (wr := [(a0, .inr (0, [.ref a1, .ref a2, .int (nI co), .int (nI ro), .int sl])), (a1, .inl (cI, 48, .inl th)), (a2, .inl (cI, 48, .inl ow))]) (c_X1_markOf (xl X) (xD X) cI cE m0 m1 m2 mk1 wg wn k_32 (by first | assumption | omega | rfl)) yv_X1_markOf nm_X1_36 (by decide) (by decide) rfl rfl 0 rfl rfl rfl rfl (Nat.le_of_ble_eq_true rfl) (Nat.le_refl _) (Nat.le_refl _) dX1_lowerMark_47 (fun r_47 u_47 p_47 => ?_)
        obtain ⟨rfl, -⟩ := p_47
        show J X 8 0 0 50 [(7, .int (nI k_32)), (0, .ref m0), (1, .ref a0), (2, .int p0), (3, .int (nI p1)), (4, .int (nI own)), (5, .int (nI lw)), (6, .int (nI dr))] [.int (mk1 k_32)] [(m0, .inr (1, [.ref m1, .ref m2, .int wn])), (m1, .inl (cI, 48, .inl mk1)), (m2, .inl (cI, 48, .inl wg)), (a0, .inr (0, [.ref a1, .ref a2, .int (nI co), .int (nI ro), .int sl])), (a1, .inl (cI, 48, .inl th)), (a2, .inl (cI, 48, .inl ow))]
        refine J_iload h dX1_lowerMark_50 5 rfl ?_
        refine J_iadd h dX1_lowerMark_52 ?_
        refine J_aload_n h (i := 0) dX1_lowerMark_53 rfl 1 rfl ?_
        refine J_iload_n h (i := 3) dX1_lowerMark_54 rfl 4 rfl ?_
        refine K_vi h (wr := [(a0, .inr (0, [.ref a1, .ref a2, .int (nI co), .int (nI ro), .int sl])), (a1, .inl (cI, 48, .inl th)), (a2, .inl (cI, 48, .inl ow))]) (c_X1_markOf (xl X) (xD X) cI cE m0 m1 m2 mk1 wg wn p1 (by first | assumption | omega | rfl)) yv_X1_markOf nm_X1_36 (by decide) (by decide) rfl rfl 0 rfl rfl rfl rfl (Nat.le_of_ble_eq_true rfl) (Nat.le_refl _) (Nat.le_refl _) dX1_lowerMark_55 (fun r_55 u_55 p_55 => ?_)
        obtain ⟨rfl, -⟩ := p_55
        show J X 8 0 0 58 [(7, .int (nI k_32)), (0, .ref m0), (1, .ref a0), (2, .int p0), (3, .int (nI p1)), (4, .int (nI own)), (5, .int (nI lw)), (6, .int (nI dr))] [.int (mk1 p1), .int ((mk1 k_32) + (nI own))] [(m0, .inr (1, [.ref m1, .ref m2, .int wn])), (m1, .inl (cI, 48, .inl mk1)), (m2, .inl (cI, 48, .inl wg)), (a0, .inr (0, [.ref a1, .ref a2, .int (nI co), .int (nI ro), .int sl])), (a1, .inl (cI, 48, .inl th)), (a2, .inl (cI, 48, .inl ow))]
        refine T_icmp_ge h (A := ((mk1 k_32) + (nI own)).toInt) (B := (mk1 p1).toInt) 78 dX1_lowerMark_58 (by decide) (rfl) (rfl) (fun c_58 => ?_) (fun c_58 => ?_)
        · skip
          refine J_iinc h (v := nI (dr + 1)) (lv' := [(6, .int (nI (dr + 1))), (7, .int (nI k_32)), (0, .ref m0), (1, .ref a0), (2, .int p0), (3, .int (nI p1)), (4, .int (nI own)), (5, .int (nI lw))]) dX1_lowerMark_78 7 rfl (inc_ok _ 1) (by decide) rfl ?_
          refine J_goto h 22 dX1_lowerMark_81 (by decide) ?_
          refine J.loc [2, 3, 4, 5, 6, 7, 0] (lv' := [(0, .ref m0), (1, .ref a0), (2, .int p0), (3, .int (nI p1)), (4, .int (nI own)), (5, .int (nI lw)), (6, .int (nI (dr + 1)))]) rfl ?_
          exact ih_22 (dr + 1) own lw mk1 (by first | exact hd |  assumption | omega | rfl) (by first | exact ho |  assumption | omega | rfl) (by first | exact hl |  assumption | omega | rfl) (by omega)
        · skip
          refine J_aload_n h (i := 0) dX1_lowerMark_61 rfl 1 rfl ?_
          refine J_iload_n h (i := 3) dX1_lowerMark_62 rfl 4 rfl ?_
          refine J_aload_n h (i := 0) dX1_lowerMark_63 rfl 1 rfl ?_
          refine J_iload h dX1_lowerMark_64 0 rfl ?_
          refine K_vi h (wr := [(a0, .inr (0, [.ref a1, .ref a2, .int (nI co), .int (nI ro), .int sl])), (a1, .inl (cI, 48, .inl th)), (a2, .inl (cI, 48, .inl ow))]) (c_X1_markOf (xl X) (xD X) cI cE m0 m1 m2 mk1 wg wn k_32 (by first | assumption | omega | rfl)) yv_X1_markOf nm_X1_36 (by decide) (by decide) rfl rfl 0 rfl rfl rfl rfl (Nat.le_of_ble_eq_true rfl) (Nat.le_refl _) (Nat.le_refl _) dX1_lowerMark_66 (fun r_66 u_66 p_66 => ?_)
          obtain ⟨rfl, -⟩ := p_66
          show J X 8 0 0 69 [(7, .int (nI k_32)), (0, .ref m0), (1, .ref a0), (2, .int p0), (3, .int (nI p1)), (4, .int (nI own)), (5, .int (nI lw)), (6, .int (nI dr))] [.int (mk1 k_32), .int (nI p1), .ref m0] [(m0, .inr (1, [.ref m1, .ref m2, .int wn])), (m1, .inl (cI, 48, .inl mk1)), (m2, .inl (cI, 48, .inl wg)), (a0, .inr (0, [.ref a1, .ref a2, .int (nI co), .int (nI ro), .int sl])), (a1, .inl (cI, 48, .inl th)), (a2, .inl (cI, 48, .inl ow))]
          refine J_iload h dX1_lowerMark_69 5 rfl ?_
          refine J_iadd h dX1_lowerMark_71 ?_
          refine K_vv h (wr := [(a0, .inr (0, [.ref a1, .ref a2, .int (nI co), .int (nI ro), .int sl])), (a1, .inl (cI, 48, .inl th)), (a2, .inl (cI, 48, .inl ow))]) (c_X1_putMark (xl X) (xD X) cI cE m0 m1 m2 mk1 wg wn p1 ((mk1 k_32) + (nI own)) (by first | assumption | omega | rfl)) yv_X1_putMark nm_X1_53 (by decide) (by decide) rfl rfl 0 rfl rfl rfl rfl (Nat.le_of_ble_eq_true rfl) (Nat.le_refl _) (Nat.le_refl _) dX1_lowerMark_72 (fun u_72 p_72 => ?_)
          show J X 8 0 0 75 [(7, .int (nI k_32)), (0, .ref m0), (1, .ref a0), (2, .int p0), (3, .int (nI p1)), (4, .int (nI own)), (5, .int (nI lw)), (6, .int (nI dr))] [] [(m0, .inr (1, [.ref m1, .ref m2, .int wn])), (m1, .inl (cI, 48, .inl (upd mk1 p1 ((mk1 k_32) + (nI own))))), (m2, .inl (cI, 48, .inl wg)), (a0, .inr (0, [.ref a1, .ref a2, .int (nI co), .int (nI ro), .int sl])), (a1, .inl (cI, 48, .inl th)), (a2, .inl (cI, 48, .inl ow))]
          refine J_iconst h (v := nI 1) dX1_lowerMark_75 (by decide) ?_
          refine J_istore h (lv' := [(5, .int (nI 1)), (7, .int (nI k_32)), (0, .ref m0), (1, .ref a0), (2, .int p0), (3, .int (nI p1)), (4, .int (nI own)), (6, .int (nI dr))]) dX1_lowerMark_76 (by decide) rfl ?_
          refine J_iinc h (v := nI (dr + 1)) (lv' := [(6, .int (nI (dr + 1))), (5, .int (nI 1)), (7, .int (nI k_32)), (0, .ref m0), (1, .ref a0), (2, .int p0), (3, .int (nI p1)), (4, .int (nI own))]) dX1_lowerMark_78 7 rfl (inc_ok _ 1) (by decide) rfl ?_
          refine J_goto h 22 dX1_lowerMark_81 (by decide) ?_
          refine J.loc [3, 4, 5, 6, 7, 1, 0] (lv' := [(0, .ref m0), (1, .ref a0), (2, .int p0), (3, .int (nI p1)), (4, .int (nI own)), (5, .int (nI 1)), (6, .int (nI (dr + 1)))]) rfl ?_
          exact ih_22 (dr + 1) own 1 (upd mk1 p1 ((mk1 k_32) + (nI own))) (by first | exact hd |  assumption | omega | rfl) (by first | exact ho |  assumption | omega | rfl) (by first | exact hl |  assumption | omega | rfl) (by omega)
      · obtain ⟨rfl, f0_32, -⟩ := p_32
        show J X 8 0 0 35 [(0, .ref m0), (1, .ref a0), (2, .int p0), (3, .int (nI p1)), (4, .int (nI own)), (5, .int (nI lw)), (6, .int (nI dr))] [.int (-4)] [(a0, .inr (0, [.ref a1, .ref a2, .int (nI co), .int (nI ro), .int sl])), (a1, .inl (cI, 48, .inl th)), (a2, .inl (cI, 48, .inl ow)), (m0, .inr (1, [.ref m1, .ref m2, .int wn])), (m1, .inl (cI, 48, .inl mk1)), (m2, .inl (cI, 48, .inl wg))]
        refine J_istore h (lv' := [(7, .int (-4)), (0, .ref m0), (1, .ref a0), (2, .int p0), (3, .int (nI p1)), (4, .int (nI own)), (5, .int (nI lw)), (6, .int (nI dr))]) dX1_lowerMark_35 (by decide) rfl ?_
        refine J_iload h dX1_lowerMark_37 0 rfl ?_
        refine J_bipush h (v := (-4)) dX1_lowerMark_39 (by decide) ?_
        refine T_icmp_eq h (A := (-4)) (B := (-4)) 78 dX1_lowerMark_41 (by decide) (by decide) (by decide) (fun c_41 => ?_) (fun c_41 => absurd c_41 (by omega))
        refine J_iinc h (v := nI (dr + 1)) (lv' := [(6, .int (nI (dr + 1))), (7, .int (-4)), (0, .ref m0), (1, .ref a0), (2, .int p0), (3, .int (nI p1)), (4, .int (nI own)), (5, .int (nI lw))]) dX1_lowerMark_78 7 rfl (inc_ok _ 1) (by decide) rfl ?_
        refine J_goto h 22 dX1_lowerMark_81 (by decide) ?_
        refine J.wld [3, 4, 5, 0, 1, 2] (ws' := [(m0, .inr (1, [.ref m1, .ref m2, .int wn])), (m1, .inl (cI, 48, .inl mk1)), (m2, .inl (cI, 48, .inl wg)), (a0, .inr (0, [.ref a1, .ref a2, .int (nI co), .int (nI ro), .int sl])), (a1, .inl (cI, 48, .inl th)), (a2, .inl (cI, 48, .inl ow))]) rfl rfl ?_
        refine J.loc [2, 3, 4, 5, 6, 7, 0] (lv' := [(0, .ref m0), (1, .ref a0), (2, .int p0), (3, .int (nI p1)), (4, .int (nI own)), (5, .int (nI lw)), (6, .int (nI (dr + 1)))]) rfl ?_
        exact ih_22 (dr + 1) own lw mk1 (by first | exact hd |  assumption | omega | rfl) (by first | exact ho |  assumption | omega | rfl) (by first | exact hl |  assumption | omega | rfl) (by omega)
set_option maxRecDepth 100000 in
set_option maxHeartbeats 4000000 in
theorem w_X1_lowerMark (X : Cx) {cI cE : ClassId} (h : Ok X cX1_lowerMark RX1 8 cI cE 2 0 0) (m0 : Nat) (m1 : Nat) (m2 : Nat) (mk : Nat → Int32) (wg : Nat → Int32) (wn : Int32) (a0 : Nat) (a1 : Nat) (a2 : Nat) (th : Nat → Int32) (ow : Nat → Int32) (co : Nat) (ro : Nat) (sl : Int32) (p0 : Int32) (p1 : Nat) (hrc : ro * co ≤ 48) (hp1 : p1 < ro * co) (hR : ∀ (r : Int32) (u : (Nat → Int32)), ((nI 1 = r) ∧ (True)) ∨ ((nI 0 = r) ∧ (True)) → RetI X cX1_lowerMark 8 0 0 r [(m0, .inr (1, [.ref m1, .ref m2, .int wn])), (m1, .inl (cI, 48, .inl u)), (m2, .inl (cI, 48, .inl wg)), (a0, .inr (0, [.ref a1, .ref a2, .int (nI co), .int (nI ro), .int sl])), (a1, .inl (cI, 48, .inl th)), (a2, .inl (cI, 48, .inl ow))]) : J X 8 0 0 0 [(0, .ref m0), (1, .ref a0), (2, .int p0), (3, .int (nI p1))] [] [(m0, .inr (1, [.ref m1, .ref m2, .int wn])), (m1, .inl (cI, 48, .inl mk)), (m2, .inl (cI, 48, .inl wg)), (a0, .inr (0, [.ref a1, .ref a2, .int (nI co), .int (nI ro), .int sl])), (a1, .inl (cI, 48, .inl th)), (a2, .inl (cI, 48, .inl ow))] := by
  refine J_aload_n h (i := 1) dX1_lowerMark_0 rfl 1 rfl ?_
  refine J_iload_n h (i := 3) dX1_lowerMark_1 rfl 3 rfl ?_
  refine J.wld [3, 4, 5, 0, 1, 2] (ws' := [(a0, .inr (0, [.ref a1, .ref a2, .int (nI co), .int (nI ro), .int sl])), (a1, .inl (cI, 48, .inl th)), (a2, .inl (cI, 48, .inl ow)), (m0, .inr (1, [.ref m1, .ref m2, .int wn])), (m1, .inl (cI, 48, .inl mk)), (m2, .inl (cI, 48, .inl wg))]) rfl rfl ?_
  refine K_vi h (wr := [(m0, .inr (1, [.ref m1, .ref m2, .int wn])), (m1, .inl (cI, 48, .inl mk)), (m2, .inl (cI, 48, .inl wg))]) (c_X0_ownerOf (xl X) (xD X) cI cE a0 a1 a2 th ow co ro sl p1 (by first | exact hrc |  assumption | omega | rfl) (by first | assumption | omega | rfl)) yv_X0_ownerOf nm_X1_32 (by decide) (by decide) rfl rfl 0 rfl rfl rfl rfl (Nat.le_of_ble_eq_true rfl) (Nat.le_refl _) (Nat.le_refl _) dX1_lowerMark_2 (fun r_2 u_2 p_2 => ?_)
  obtain ⟨rfl, -⟩ := p_2
  show J X 8 0 0 5 [(0, .ref m0), (1, .ref a0), (2, .int p0), (3, .int (nI p1))] [.int (ow p1)] [(a0, .inr (0, [.ref a1, .ref a2, .int (nI co), .int (nI ro), .int sl])), (a1, .inl (cI, 48, .inl th)), (a2, .inl (cI, 48, .inl ow)), (m0, .inr (1, [.ref m1, .ref m2, .int wn])), (m1, .inl (cI, 48, .inl mk)), (m2, .inl (cI, 48, .inl wg))]
  refine J_iload_n h (i := 2) dX1_lowerMark_5 rfl 2 rfl ?_
  refine J_icmp_ne h 13 dX1_lowerMark_6 (by decide) (fun c_6 => ?_) (fun c_6 => ?_)
  · skip
    refine J_iconst h (v := nI 1) dX1_lowerMark_13 (by decide) ?_
    refine J_istore h (lv' := [(4, .int (nI 1)), (0, .ref m0), (1, .ref a0), (2, .int p0), (3, .int (nI p1))]) dX1_lowerMark_14 (by decide) rfl ?_
    refine J_iconst h (v := nI 0) dX1_lowerMark_16 (by decide) ?_
    refine J_istore h (lv' := [(5, .int (nI 0)), (4, .int (nI 1)), (0, .ref m0), (1, .ref a0), (2, .int p0), (3, .int (nI p1))]) dX1_lowerMark_17 (by decide) rfl ?_
    refine J_iconst h (v := nI 0) dX1_lowerMark_19 (by decide) ?_
    refine J_istore h (lv' := [(6, .int (nI 0)), (5, .int (nI 0)), (4, .int (nI 1)), (0, .ref m0), (1, .ref a0), (2, .int p0), (3, .int (nI p1))]) dX1_lowerMark_20 (by decide) rfl ?_
    refine J.wld [3, 4, 5, 0, 1, 2] (ws' := [(m0, .inr (1, [.ref m1, .ref m2, .int wn])), (m1, .inl (cI, 48, .inl mk)), (m2, .inl (cI, 48, .inl wg)), (a0, .inr (0, [.ref a1, .ref a2, .int (nI co), .int (nI ro), .int sl])), (a1, .inl (cI, 48, .inl th)), (a2, .inl (cI, 48, .inl ow))]) rfl rfl ?_
    refine J.loc [3, 4, 5, 6, 2, 1, 0] (lv' := [(0, .ref m0), (1, .ref a0), (2, .int p0), (3, .int (nI p1)), (4, .int (nI 1)), (5, .int (nI 0)), (6, .int (nI 0))]) rfl ?_
    exact w_X1_lowerMark_22 X h m0 m1 m2 mk wg wn a0 a1 a2 th ow co ro sl p0 p1 hrc hp1 hR  (4 - 0 + 1) 0 1 0 mk (by first | assumption | omega | rfl) (by first | assumption | omega | rfl) (by first | assumption | omega | rfl) (by omega)
  · skip
    refine J_iconst h (v := nI 0) dX1_lowerMark_9 (by decide) ?_
    refine J_goto h 14 dX1_lowerMark_10 (by decide) ?_
    refine J_istore h (lv' := [(4, .int (nI 0)), (0, .ref m0), (1, .ref a0), (2, .int p0), (3, .int (nI p1))]) dX1_lowerMark_14 (by decide) rfl ?_
    refine J_iconst h (v := nI 0) dX1_lowerMark_16 (by decide) ?_
    refine J_istore h (lv' := [(5, .int (nI 0)), (4, .int (nI 0)), (0, .ref m0), (1, .ref a0), (2, .int p0), (3, .int (nI p1))]) dX1_lowerMark_17 (by decide) rfl ?_
    refine J_iconst h (v := nI 0) dX1_lowerMark_19 (by decide) ?_
    refine J_istore h (lv' := [(6, .int (nI 0)), (5, .int (nI 0)), (4, .int (nI 0)), (0, .ref m0), (1, .ref a0), (2, .int p0), (3, .int (nI p1))]) dX1_lowerMark_20 (by decide) rfl ?_
    refine J.wld [3, 4, 5, 0, 1, 2] (ws' := [(m0, .inr (1, [.ref m1, .ref m2, .int wn])), (m1, .inl (cI, 48, .inl mk)), (m2, .inl (cI, 48, .inl wg)), (a0, .inr (0, [.ref a1, .ref a2, .int (nI co), .int (nI ro), .int sl])), (a1, .inl (cI, 48, .inl th)), (a2, .inl (cI, 48, .inl ow))]) rfl rfl ?_
    refine J.loc [3, 4, 5, 6, 2, 1, 0] (lv' := [(0, .ref m0), (1, .ref a0), (2, .int p0), (3, .int (nI p1)), (4, .int (nI 0)), (5, .int (nI 0)), (6, .int (nI 0))]) rfl ?_
    exact w_X1_lowerMark_22 X h m0 m1 m2 mk wg wn a0 a1 a2 th ow co ro sl p0 p1 hrc hp1 hR  (4 - 0 + 1) 0 0 0 mk (by first | assumption | omega | rfl) (by first | assumption | omega | rfl) (by first | assumption | omega | rfl) (by omega)
theorem c_X1_lowerMark (l : Launch) (D : va_G) (cI cE : ClassId) (m0 : Nat) (m1 : Nat) (m2 : Nat) (mk : Nat → Int32) (wg : Nat → Int32) (wn : Int32) (a0 : Nat) (a1 : Nat) (a2 : Nat) (th : Nat → Int32) (ow : Nat → Int32) (co : Nat) (ro : Nat) (sl : Int32) (p0 : Int32) (p1 : Nat) (hrc : ro * co ≤ 48) (hp1 : p1 < ro * co) : Ci l D cI cE yX1_lowerMark cX1_lowerMark 8 (some .boolean) 2 0 0 [.ref m0, .ref a0, .int p0, .int (nI p1)] [(m0, .inr (1, [.ref m1, .ref m2, .int wn])), (m1, .inl (cI, 48, .inl mk)), (m2, .inl (cI, 48, .inl wg)), (a0, .inr (0, [.ref a1, .ref a2, .int (nI co), .int (nI ro), .int sl])), (a1, .inl (cI, 48, .inl th)), (a2, .inl (cI, 48, .inl ow))] (fun (r : Int32) (u : (Nat → Int32)) => ((nI 1 = r) ∧ (True)) ∨ ((nI 0 = r) ∧ (True))) (fun (u : (Nat → Int32)) => ([(m0, .inr (1, [.ref m1, .ref m2, .int wn])), (m1, .inl (cI, 48, .inl u)), (m2, .inl (cI, 48, .inl wg)), (a0, .inr (0, [.ref a1, .ref a2, .int (nI co), .int (nI ro), .int sl])), (a1, .inl (cI, 48, .inl th)), (a2, .inl (cI, 48, .inl ow))] : va_W)) :=
  Ci.of (by decide) (Nat.le_of_ble_eq_true rfl) (fun r u hp => by rcases hp with ⟨hp, _⟩ | ⟨hp, _⟩ <;> (rw [← hp]; rfl)) (fun X h hR => w_X1_lowerMark X h m0 m1 m2 mk wg wn a0 a1 a2 th ow co ro sl p0 p1 hrc hp1 hR)
theorem yv_X1_lowerMark : YV yX1_lowerMark cX1_lowerMark 8 (some .boolean) 3 := ⟨no_X1_lowerMark, nv_X1_lowerMark, ni_X1, nk_X1_lowerMark, by decide +kernel⟩
set_option maxRecDepth 100000 in
set_option maxHeartbeats 4000000 in
theorem w_X1_leastBetween_36 (X : Cx) {cI cE : ClassId} (h : Ok X cX1_leastBetween RX1 8 cI cE 3 0 0) (m0 : Nat) (m1 : Nat) (m2 : Nat) (mk : Nat → Int32) (wg : Nat → Int32) (wn : Int32) (a0 : Nat) (a1 : Nat) (a2 : Nat) (th : Nat → Int32) (ow : Nat → Int32) (co : Nat) (ro : Nat) (sl : Int32) (p0 : Int32) (p1 : Nat) (p2 : Nat) (hrc : ro * co ≤ 48) (hp1 : p1 < ro * co) (hp2 : p2 < ro * co) (hR : ∀ (r : Int32) (u : (Nat → Int32)), ((True)) → RetI X cX1_leastBetween 8 0 0 r [(m0, .inr (1, [.ref m1, .ref m2, .int wn])), (m1, .inl (cI, 48, .inl u)), (m2, .inl (cI, 48, .inl wg)), (a0, .inr (0, [.ref a1, .ref a2, .int (nI co), .int (nI ro), .int sl])), (a1, .inl (cI, 48, .inl th)), (a2, .inl (cI, 48, .inl ow))]) (n_18 : Nat) (ih_18 : ∀ (t : Nat) (ch : Nat) (mk1 : Nat → Int32), (t ≤ 48) → (ch ≤ 1) → 48 - t < n_18 → J X 8 0 0 18 [(0, .ref m0), (1, .ref a0), (2, .int p0), (4, .int (nI p2)), (5, .int (nI ch)), (6, .int (nI t))] [] [(m0, .inr (1, [.ref m1, .ref m2, .int wn])), (m1, .inl (cI, 48, .inl mk1)), (m2, .inl (cI, 48, .inl wg)), (a0, .inr (0, [.ref a1, .ref a2, .int (nI co), .int (nI ro), .int sl])), (a1, .inl (cI, 48, .inl th)), (a2, .inl (cI, 48, .inl ow))]) : ∀ (n_36 : Nat) (t : Nat) (ch : Nat) (i : Nat) (mk1 : Nat → Int32), (t < 48) → (ch ≤ 1) → (i ≤ ro * co) → (48 - t < n_18 + 1) → ro * co - i < n_36 → J X 8 0 0 36 [(0, .ref m0), (1, .ref a0), (2, .int p0), (4, .int (nI p2)), (5, .int (nI ch)), (6, .int (nI t)), (7, .int (nI i))] [] [(m0, .inr (1, [.ref m1, .ref m2, .int wn])), (m1, .inl (cI, 48, .inl mk1)), (m2, .inl (cI, 48, .inl wg)), (a0, .inr (0, [.ref a1, .ref a2, .int (nI co), .int (nI ro), .int sl])), (a1, .inl (cI, 48, .inl th)), (a2, .inl (cI, 48, .inl ow))] := by
  intro n_36
  induction n_36 with
  | zero => intro t ch i mk1 ht hch hi hm hn_; exact absurd hn_ (Nat.not_lt_zero _)
  | succ n_36 ih_36 =>
    intro t ch i mk1 ht hch hi hm hn_36
    refine J_iload h dX1_leastBetween_36 6 rfl ?_
    refine J_aload_n h (i := 1) dX1_leastBetween_38 rfl 1 rfl ?_
    refine J.wld [3, 4, 5, 0, 1, 2] (ws' := [(a0, .inr (0, [.ref a1, .ref a2, .int (nI co), .int (nI ro), .int sl])), (a1, .inl (cI, 48, .inl th)), (a2, .inl (cI, 48, .inl ow)), (m0, .inr (1, [.ref m1, .ref m2, .int wn])), (m1, .inl (cI, 48, .inl mk1)), (m2, .inl (cI, 48, .inl wg))]) rfl rfl ?_
    refine K_vi h (wr := [(m0, .inr (1, [.ref m1, .ref m2, .int wn])), (m1, .inl (cI, 48, .inl mk1)), (m2, .inl (cI, 48, .inl wg))]) (c_X0_cells (xl X) (xD X) cI cE a0 a1 a2 th ow co ro sl ) yv_X0_cells nm_X1_26 (by decide) (by decide) rfl rfl 0 rfl rfl rfl rfl (Nat.le_of_ble_eq_true rfl) (Nat.le_refl _) (Nat.le_refl _) dX1_leastBetween_39 (fun r_39 u_39 p_39 => ?_)
    obtain ⟨rfl, -⟩ := p_39
    show J X 8 0 0 42 [(0, .ref m0), (1, .ref a0), (2, .int p0), (4, .int (nI p2)), (5, .int (nI ch)), (6, .int (nI t)), (7, .int (nI i))] [.int (nI (ro * co)), .int (nI i)] [(a0, .inr (0, [.ref a1, .ref a2, .int (nI co), .int (nI ro), .int sl])), (a1, .inl (cI, 48, .inl th)), (a2, .inl (cI, 48, .inl ow)), (m0, .inr (1, [.ref m1, .ref m2, .int wn])), (m1, .inl (cI, 48, .inl mk1)), (m2, .inl (cI, 48, .inl wg))]
    refine N_icmp_ge h 65 dX1_leastBetween_42 (by decide) (by omega) (by omega) (fun c_42 => ?_) (fun c_42 => ?_)
    · skip
      refine J_iinc h (v := nI (t + 1)) (lv' := [(6, .int (nI (t + 1))), (0, .ref m0), (1, .ref a0), (2, .int p0), (4, .int (nI p2)), (5, .int (nI ch)), (7, .int (nI i))]) dX1_leastBetween_65 5 rfl (inc_ok _ 1) (by decide) rfl ?_
      refine J_goto h 18 dX1_leastBetween_68 (by decide) ?_
      refine J.wld [3, 4, 5, 0, 1, 2] (ws' := [(m0, .inr (1, [.ref m1, .ref m2, .int wn])), (m1, .inl (cI, 48, .inl mk1)), (m2, .inl (cI, 48, .inl wg)), (a0, .inr (0, [.ref a1, .ref a2, .int (nI co), .int (nI ro), .int sl])), (a1, .inl (cI, 48, .inl th)), (a2, .inl (cI, 48, .inl ow))]) rfl rfl ?_
      refine J.loc [1, 2, 3, 4, 5, 0] (lv' := [(0, .ref m0), (1, .ref a0), (2, .int p0), (4, .int (nI p2)), (5, .int (nI ch)), (6, .int (nI (t + 1)))]) rfl ?_
      exact ih_18 (t + 1) ch mk1 (by first | exact ht |  assumption | omega | rfl) (by first | exact hch |  assumption | omega | rfl) (by omega)
    · skip
      refine J_aload_n h (i := 0) dX1_leastBetween_45 rfl 0 rfl ?_
      refine J_aload_n h (i := 1) dX1_leastBetween_46 rfl 1 rfl ?_
      refine J_iload_n h (i := 2) dX1_leastBetween_47 rfl 2 rfl ?_
      refine J_iload h dX1_leastBetween_48 6 rfl ?_
      refine J.wld [3, 4, 5, 0, 1, 2] (ws' := [(m0, .inr (1, [.ref m1, .ref m2, .int wn])), (m1, .inl (cI, 48, .inl mk1)), (m2, .inl (cI, 48, .inl wg)), (a0, .inr (0, [.ref a1, .ref a2, .int (nI co), .int (nI ro), .int sl])), (a1, .inl (cI, 48, .inl th)), (a2, .inl (cI, 48, .inl ow))]) rfl rfl ?_
      refine K_vi h (wr := []) (c_X1_lowerMark (xl X) (xD X) cI cE m0 m1 m2 mk1 wg wn a0 a1 a2 th ow co ro sl p0 i (by first | exact hrc |  assumption | omega | rfl) (by first | exact hp1 |  assumption | omega | rfl)) yv_X1_lowerMark nm_X1_57 (by decide) (by decide) rfl rfl 0 rfl rfl rfl rfl (Nat.le_of_ble_eq_true rfl) (Nat.le_refl _) (Nat.le_refl _) dX1_leastBetween_50 (fun r_50 u_50 p_50 => ?_)
      obtain ⟨mk2_50, rfl⟩ : ∃ z, z = u_50 := ⟨_, rfl⟩
      rcases p_50 with p_50 | p_50
      · obtain ⟨rfl, -⟩ := p_50
        show J X 8 0 0 53 [(0, .ref m0), (1, .ref a0), (2, .int p0), (4, .int (nI p2)), (5, .int (nI ch)), (6, .int (nI t)), (7, .int (nI i))] [.int (nI 1)] [(m0, .inr (1, [.ref m1, .ref m2, .int wn])), (m1, .inl (cI, 48, .inl mk2_50)), (m2, .inl (cI, 48, .inl wg)), (a0, .inr (0, [.ref a1, .ref a2, .int (nI co), .int (nI ro), .int sl])), (a1, .inl (cI, 48, .inl th)), (a2, .inl (cI, 48, .inl ow))]
        refine J_if_eq h 59 dX1_leastBetween_53 (by decide) (fun z => absurd z (by decide)) (fun _ => ?_)
        refine J_iconst h (v := nI 1) dX1_leastBetween_56 (by decide) ?_
        refine J_istore h (lv' := [(5, .int (nI 1)), (0, .ref m0), (1, .ref a0), (2, .int p0), (4, .int (nI p2)), (6, .int (nI t)), (7, .int (nI i))]) dX1_leastBetween_57 (by decide) rfl ?_
        refine J_iinc h (v := nI (i + 1)) (lv' := [(7, .int (nI (i + 1))), (5, .int (nI 1)), (0, .ref m0), (1, .ref a0), (2, .int p0), (4, .int (nI p2)), (6, .int (nI t))]) dX1_leastBetween_59 6 rfl (inc_ok _ 1) (by decide) rfl ?_
        refine J_goto h 36 dX1_leastBetween_62 (by decide) ?_
        refine J.loc [2, 3, 4, 5, 1, 6, 0] (lv' := [(0, .ref m0), (1, .ref a0), (2, .int p0), (4, .int (nI p2)), (5, .int (nI 1)), (6, .int (nI t)), (7, .int (nI (i + 1)))]) rfl ?_
        exact ih_36 t 1 (i + 1) mk2_50 (by first | exact ht |  assumption | omega | rfl) (by first | exact hch |  assumption | omega | rfl) (by first | exact hi |  assumption | omega | rfl) (by first | exact hm |  assumption | omega | rfl) (by omega)
      · obtain ⟨rfl, -⟩ := p_50
        show J X 8 0 0 53 [(0, .ref m0), (1, .ref a0), (2, .int p0), (4, .int (nI p2)), (5, .int (nI ch)), (6, .int (nI t)), (7, .int (nI i))] [.int (nI 0)] [(m0, .inr (1, [.ref m1, .ref m2, .int wn])), (m1, .inl (cI, 48, .inl mk2_50)), (m2, .inl (cI, 48, .inl wg)), (a0, .inr (0, [.ref a1, .ref a2, .int (nI co), .int (nI ro), .int sl])), (a1, .inl (cI, 48, .inl th)), (a2, .inl (cI, 48, .inl ow))]
        refine J_if_eq h 59 dX1_leastBetween_53 (by decide) (fun _ => ?_) (fun z => absurd z (by decide))
        refine J_iinc h (v := nI (i + 1)) (lv' := [(7, .int (nI (i + 1))), (0, .ref m0), (1, .ref a0), (2, .int p0), (4, .int (nI p2)), (5, .int (nI ch)), (6, .int (nI t))]) dX1_leastBetween_59 6 rfl (inc_ok _ 1) (by decide) rfl ?_
        refine J_goto h 36 dX1_leastBetween_62 (by decide) ?_
        refine J.loc [1, 2, 3, 4, 5, 6, 0] (lv' := [(0, .ref m0), (1, .ref a0), (2, .int p0), (4, .int (nI p2)), (5, .int (nI ch)), (6, .int (nI t)), (7, .int (nI (i + 1)))]) rfl ?_
        exact ih_36 t ch (i + 1) mk2_50 (by first | exact ht |  assumption | omega | rfl) (by first | exact hch |  assumption | omega | rfl) (by first | exact hi |  assumption | omega | rfl) (by first | exact hm |  assumption | omega | rfl) (by omega)
set_option maxRecDepth 100000 in
set_option maxHeartbeats 4000000 in
theorem w_X1_leastBetween_18 (X : Cx) {cI cE : ClassId} (h : Ok X cX1_leastBetween RX1 8 cI cE 3 0 0) (m0 : Nat) (m1 : Nat) (m2 : Nat) (mk : Nat → Int32) (wg : Nat → Int32) (wn : Int32) (a0 : Nat) (a1 : Nat) (a2 : Nat) (th : Nat → Int32) (ow : Nat → Int32) (co : Nat) (ro : Nat) (sl : Int32) (p0 : Int32) (p1 : Nat) (p2 : Nat) (hrc : ro * co ≤ 48) (hp1 : p1 < ro * co) (hp2 : p2 < ro * co) (hR : ∀ (r : Int32) (u : (Nat → Int32)), ((True)) → RetI X cX1_leastBetween 8 0 0 r [(m0, .inr (1, [.ref m1, .ref m2, .int wn])), (m1, .inl (cI, 48, .inl u)), (m2, .inl (cI, 48, .inl wg)), (a0, .inr (0, [.ref a1, .ref a2, .int (nI co), .int (nI ro), .int sl])), (a1, .inl (cI, 48, .inl th)), (a2, .inl (cI, 48, .inl ow))]) : ∀ (n_18 : Nat) (t : Nat) (ch : Nat) (mk1 : Nat → Int32), (t ≤ 48) → (ch ≤ 1) → 48 - t < n_18 → J X 8 0 0 18 [(0, .ref m0), (1, .ref a0), (2, .int p0), (4, .int (nI p2)), (5, .int (nI ch)), (6, .int (nI t))] [] [(m0, .inr (1, [.ref m1, .ref m2, .int wn])), (m1, .inl (cI, 48, .inl mk1)), (m2, .inl (cI, 48, .inl wg)), (a0, .inr (0, [.ref a1, .ref a2, .int (nI co), .int (nI ro), .int sl])), (a1, .inl (cI, 48, .inl th)), (a2, .inl (cI, 48, .inl ow))] := by
  intro n_18
  induction n_18 with
  | zero => intro t ch mk1 ht hch hn_; exact absurd hn_ (Nat.not_lt_zero _)
  | succ n_18 ih_18 =>
    intro t ch mk1 ht hch hn_18
    refine J_iload h dX1_leastBetween_18 5 rfl ?_
    refine J_bipush h (v := nI 48) dX1_leastBetween_20 (by decide) ?_
    refine N_icmp_ge h 71 dX1_leastBetween_22 (by decide) (by omega) (by omega) (fun c_22 => ?_) (fun c_22 => ?_)
    · skip
      refine J_aload_n h (i := 0) dX1_leastBetween_71 rfl 0 rfl ?_
      refine J_iload h dX1_leastBetween_72 3 rfl ?_
      refine K_vi h (wr := [(a0, .inr (0, [.ref a1, .ref a2, .int (nI co), .int (nI ro), .int sl])), (a1, .inl (cI, 48, .inl th)), (a2, .inl (cI, 48, .inl ow))]) (c_X1_markOf (xl X) (xD X) cI cE m0 m1 m2 mk1 wg wn p2 (by first | assumption | omega | rfl)) yv_X1_markOf nm_X1_36 (by decide) (by decide) rfl rfl 0 rfl rfl rfl rfl (Nat.le_of_ble_eq_true rfl) (Nat.le_refl _) (Nat.le_refl _) dX1_leastBetween_74 (fun r_74 u_74 p_74 => ?_)
      obtain ⟨rfl, -⟩ := p_74
      show J X 8 0 0 77 [(0, .ref m0), (1, .ref a0), (2, .int p0), (4, .int (nI p2)), (5, .int (nI ch)), (6, .int (nI t))] [.int (mk1 p2)] [(m0, .inr (1, [.ref m1, .ref m2, .int wn])), (m1, .inl (cI, 48, .inl mk1)), (m2, .inl (cI, 48, .inl wg)), (a0, .inr (0, [.ref a1, .ref a2, .int (nI co), .int (nI ro), .int sl])), (a1, .inl (cI, 48, .inl th)), (a2, .inl (cI, 48, .inl ow))]
      exact hR (mk1 p2) mk1 (by trivial) 77 _ dX1_leastBetween_77
    · skip
      refine J_iload h dX1_leastBetween_25 4 rfl ?_
      refine N_if_eq h 71 dX1_leastBetween_27 (by decide) (by omega) (fun c_27 => ?_) (fun c_27 => ?_)
      · skip
        refine J_aload_n h (i := 0) dX1_leastBetween_71 rfl 0 rfl ?_
        refine J_iload h dX1_leastBetween_72 3 rfl ?_
        refine K_vi h (wr := [(a0, .inr (0, [.ref a1, .ref a2, .int (nI co), .int (nI ro), .int sl])), (a1, .inl (cI, 48, .inl th)), (a2, .inl (cI, 48, .inl ow))]) (c_X1_markOf (xl X) (xD X) cI cE m0 m1 m2 mk1 wg wn p2 (by first | assumption | omega | rfl)) yv_X1_markOf nm_X1_36 (by decide) (by decide) rfl rfl 0 rfl rfl rfl rfl (Nat.le_of_ble_eq_true rfl) (Nat.le_refl _) (Nat.le_refl _) dX1_leastBetween_74 (fun r_74 u_74 p_74 => ?_)
        obtain ⟨rfl, -⟩ := p_74
        show J X 8 0 0 77 [(0, .ref m0), (1, .ref a0), (2, .int p0), (4, .int (nI p2)), (5, .int (nI ch)), (6, .int (nI t))] [.int (mk1 p2)] [(m0, .inr (1, [.ref m1, .ref m2, .int wn])), (m1, .inl (cI, 48, .inl mk1)), (m2, .inl (cI, 48, .inl wg)), (a0, .inr (0, [.ref a1, .ref a2, .int (nI co), .int (nI ro), .int sl])), (a1, .inl (cI, 48, .inl th)), (a2, .inl (cI, 48, .inl ow))]
        exact hR (mk1 p2) mk1 (by trivial) 77 _ dX1_leastBetween_77
      · skip
        refine J_iconst h (v := nI 0) dX1_leastBetween_30 (by decide) ?_
        refine J_istore h (lv' := [(5, .int (nI 0)), (0, .ref m0), (1, .ref a0), (2, .int p0), (4, .int (nI p2)), (6, .int (nI t))]) dX1_leastBetween_31 (by decide) rfl ?_
        refine J_iconst h (v := nI 0) dX1_leastBetween_33 (by decide) ?_
        refine J_istore h (lv' := [(7, .int (nI 0)), (5, .int (nI 0)), (0, .ref m0), (1, .ref a0), (2, .int p0), (4, .int (nI p2)), (6, .int (nI t))]) dX1_leastBetween_34 (by decide) rfl ?_
        refine J.loc [2, 3, 4, 5, 1, 6, 0] (lv' := [(0, .ref m0), (1, .ref a0), (2, .int p0), (4, .int (nI p2)), (5, .int (nI 0)), (6, .int (nI t)), (7, .int (nI 0))]) rfl ?_
        exact w_X1_leastBetween_36 X h m0 m1 m2 mk wg wn a0 a1 a2 th ow co ro sl p0 p1 p2 hrc hp1 hp2 hR n_18 ih_18 (ro * co - 0 + 1) t 0 0 mk1 (by first | exact ht |  assumption | omega | rfl) (by first | exact hch |  assumption | omega | rfl) (by first | assumption | omega | rfl) (by first | assumption | omega | rfl) (by omega)
set_option maxRecDepth 100000 in
set_option maxHeartbeats 4000000 in
theorem w_X1_leastBetween (X : Cx) {cI cE : ClassId} (h : Ok X cX1_leastBetween RX1 8 cI cE 3 0 0) (m0 : Nat) (m1 : Nat) (m2 : Nat) (mk : Nat → Int32) (wg : Nat → Int32) (wn : Int32) (a0 : Nat) (a1 : Nat) (a2 : Nat) (th : Nat → Int32) (ow : Nat → Int32) (co : Nat) (ro : Nat) (sl : Int32) (p0 : Int32) (p1 : Nat) (p2 : Nat) (hrc : ro * co ≤ 48) (hp1 : p1 < ro * co) (hp2 : p2 < ro * co) (hR : ∀ (r : Int32) (u : (Nat → Int32)), ((True)) → RetI X cX1_leastBetween 8 0 0 r [(m0, .inr (1, [.ref m1, .ref m2, .int wn])), (m1, .inl (cI, 48, .inl u)), (m2, .inl (cI, 48, .inl wg)), (a0, .inr (0, [.ref a1, .ref a2, .int (nI co), .int (nI ro), .int sl])), (a1, .inl (cI, 48, .inl th)), (a2, .inl (cI, 48, .inl ow))]) : J X 8 0 0 0 [(0, .ref m0), (1, .ref a0), (2, .int p0), (3, .int (nI p1)), (4, .int (nI p2))] [] [(m0, .inr (1, [.ref m1, .ref m2, .int wn])), (m1, .inl (cI, 48, .inl mk)), (m2, .inl (cI, 48, .inl wg)), (a0, .inr (0, [.ref a1, .ref a2, .int (nI co), .int (nI ro), .int sl])), (a1, .inl (cI, 48, .inl th)), (a2, .inl (cI, 48, .inl ow))] := by
  refine J_aload_n h (i := 0) dX1_leastBetween_0 rfl 0 rfl ?_
  refine J_bipush h (v := nI 48) dX1_leastBetween_1 (by decide) ?_
  refine K_vv h (wr := [(a0, .inr (0, [.ref a1, .ref a2, .int (nI co), .int (nI ro), .int sl])), (a1, .inl (cI, 48, .inl th)), (a2, .inl (cI, 48, .inl ow))]) (c_X1_fillMarks (xl X) (xD X) cI cE m0 m1 m2 mk wg wn (nI 48) ) yv_X1_fillMarks nm_X1_22 (by decide) (by decide) rfl rfl 0 rfl rfl rfl rfl (Nat.le_of_ble_eq_true rfl) (Nat.le_refl _) (Nat.le_refl _) dX1_leastBetween_3 (fun u_3 p_3 => ?_)
  show J X 8 0 0 6 [(0, .ref m0), (1, .ref a0), (2, .int p0), (3, .int (nI p1)), (4, .int (nI p2))] [] [(m0, .inr (1, [.ref m1, .ref m2, .int wn])), (m1, .inl (cI, 48, .inl (fun _ => (nI 48)))), (m2, .inl (cI, 48, .inl wg)), (a0, .inr (0, [.ref a1, .ref a2, .int (nI co), .int (nI ro), .int sl])), (a1, .inl (cI, 48, .inl th)), (a2, .inl (cI, 48, .inl ow))]
  refine J_aload_n h (i := 0) dX1_leastBetween_6 rfl 0 rfl ?_
  refine J_iload_n h (i := 3) dX1_leastBetween_7 rfl 3 rfl ?_
  refine J_iconst h (v := nI 0) dX1_leastBetween_8 (by decide) ?_
  refine K_vv h (wr := [(a0, .inr (0, [.ref a1, .ref a2, .int (nI co), .int (nI ro), .int sl])), (a1, .inl (cI, 48, .inl th)), (a2, .inl (cI, 48, .inl ow))]) (c_X1_putMark (xl X) (xD X) cI cE m0 m1 m2 (fun _ => (nI 48)) wg wn p1 (nI 0) (by first | assumption | omega | rfl)) yv_X1_putMark nm_X1_53 (by decide) (by decide) rfl rfl 0 rfl rfl rfl rfl (Nat.le_of_ble_eq_true rfl) (Nat.le_refl _) (Nat.le_refl _) dX1_leastBetween_9 (fun u_9 p_9 => ?_)
  show J X 8 0 0 12 [(0, .ref m0), (1, .ref a0), (2, .int p0), (3, .int (nI p1)), (4, .int (nI p2))] [] [(m0, .inr (1, [.ref m1, .ref m2, .int wn])), (m1, .inl (cI, 48, .inl (upd (fun _ => (nI 48)) p1 (nI 0)))), (m2, .inl (cI, 48, .inl wg)), (a0, .inr (0, [.ref a1, .ref a2, .int (nI co), .int (nI ro), .int sl])), (a1, .inl (cI, 48, .inl th)), (a2, .inl (cI, 48, .inl ow))]
  refine J_iconst h (v := nI 1) dX1_leastBetween_12 (by decide) ?_
  refine J_istore h (lv' := [(5, .int (nI 1)), (0, .ref m0), (1, .ref a0), (2, .int p0), (3, .int (nI p1)), (4, .int (nI p2))]) dX1_leastBetween_13 (by decide) rfl ?_
  refine J_iconst h (v := nI 0) dX1_leastBetween_15 (by decide) ?_
  refine J_istore h (lv' := [(6, .int (nI 0)), (5, .int (nI 1)), (0, .ref m0), (1, .ref a0), (2, .int p0), (3, .int (nI p1)), (4, .int (nI p2))]) dX1_leastBetween_16 (by decide) rfl ?_
  refine J.loc [2, 3, 4, 6, 1, 0] (lv' := [(0, .ref m0), (1, .ref a0), (2, .int p0), (4, .int (nI p2)), (5, .int (nI 1)), (6, .int (nI 0))]) rfl ?_
  exact w_X1_leastBetween_18 X h m0 m1 m2 mk wg wn a0 a1 a2 th ow co ro sl p0 p1 p2 hrc hp1 hp2 hR  (48 - 0 + 1) 0 1 (upd (fun _ => (nI 48)) p1 (nI 0)) (by first | assumption | omega | rfl) (by first | assumption | omega | rfl) (by omega)
theorem c_X1_leastBetween (l : Launch) (D : va_G) (cI cE : ClassId) (m0 : Nat) (m1 : Nat) (m2 : Nat) (mk : Nat → Int32) (wg : Nat → Int32) (wn : Int32) (a0 : Nat) (a1 : Nat) (a2 : Nat) (th : Nat → Int32) (ow : Nat → Int32) (co : Nat) (ro : Nat) (sl : Int32) (p0 : Int32) (p1 : Nat) (p2 : Nat) (hrc : ro * co ≤ 48) (hp1 : p1 < ro * co) (hp2 : p2 < ro * co) : Ci l D cI cE yX1_leastBetween cX1_leastBetween 8 (some .int) 3 0 0 [.ref m0, .ref a0, .int p0, .int (nI p1), .int (nI p2)] [(m0, .inr (1, [.ref m1, .ref m2, .int wn])), (m1, .inl (cI, 48, .inl mk)), (m2, .inl (cI, 48, .inl wg)), (a0, .inr (0, [.ref a1, .ref a2, .int (nI co), .int (nI ro), .int sl])), (a1, .inl (cI, 48, .inl th)), (a2, .inl (cI, 48, .inl ow))] (fun (r : Int32) (u : (Nat → Int32)) => ((True))) (fun (u : (Nat → Int32)) => ([(m0, .inr (1, [.ref m1, .ref m2, .int wn])), (m1, .inl (cI, 48, .inl u)), (m2, .inl (cI, 48, .inl wg)), (a0, .inr (0, [.ref a1, .ref a2, .int (nI co), .int (nI ro), .int sl])), (a1, .inl (cI, 48, .inl th)), (a2, .inl (cI, 48, .inl ow))] : va_W)) :=
  Ci.of (by decide) (Nat.le_of_ble_eq_true rfl) (fun _ _ _ => rfl) (fun X h hR => w_X1_leastBetween X h m0 m1 m2 mk wg wn a0 a1 a2 th ow co ro sl p0 p1 p2 hrc hp1 hp2 hR)
theorem yv_X1_leastBetween : YV yX1_leastBetween cX1_leastBetween 8 (some .int) 4 := ⟨no_X1_leastBetween, nv_X1_leastBetween, ni_X1, nk_X1_leastBetween, by decide +kernel⟩
set_option maxRecDepth 100000 in
set_option maxHeartbeats 4000000 in
theorem w_X2_start_2 (X : Cx) {cI cE : ClassId} (h : Ok X cX2_start RX2 3 cI cE 0 0 0) (o0 : Nat) (o1 : Nat) (o2 : Nat) (wa : Nat → Int32) (nw : Nat → Int32) (ab : Int32) (be : Int32) (p0 : Nat) (hp0 : p0 ≤ 20) (hR : ∀ (u : (Nat → Int32)), ((True)) → RetV X cX2_start 3 0 0 [(o0, .inr (2, [.ref o1, .ref o2, .int ab, .int be])), (o1, .inl (cI, 21, .inl u)), (o2, .inl (cI, 21, .inl nw))]) : ∀ (n_2 : Nat) (i : Nat) (wa1 : Nat → Int32), (i ≤ 21) → 21 - i < n_2 → J X 3 0 0 2 [(0, .ref o0), (1, .int (nI p0)), (2, .int (nI i))] [] [(o0, .inr (2, [.ref o1, .ref o2, .int ab, .int be])), (o1, .inl (cI, 21, .inl wa1)), (o2, .inl (cI, 21, .inl nw))] := by
  intro n_2
  induction n_2 with
  | zero => intro i wa1 hi hn_; exact absurd hn_ (Nat.not_lt_zero _)
  | succ n_2 ih_2 =>
    intro i wa1 hi hn_2
    refine J_iload_n h (i := 2) dX2_start_2 rfl 2 rfl ?_
    refine J_bipush h (v := nI 20) dX2_start_3 (by decide) ?_
    refine N_icmp_gt h 30 dX2_start_5 (by decide) (by omega) (by omega) (fun c_5 => ?_) (fun c_5 => ?_)
    · skip
      exact hR wa1 (by trivial) 30 _ dX2_start_30
    · skip
      refine J_aload_n h (i := 0) dX2_start_8 rfl 0 rfl ?_
      refine J_get h inX2 rfl 0 0 (by decide) rfl rfl nf_X2_9 dX2_start_9 ?_
      refine J_iload_n h (i := 2) dX2_start_12 rfl 2 rfl ?_
      refine J_iload_n h (i := 2) dX2_start_13 rfl 2 rfl ?_
      refine J_iload_n h (i := 1) dX2_start_14 rfl 1 rfl ?_
      refine N_icmp_ne h 22 dX2_start_15 (by decide) (by omega) (by omega) (fun c_15 => ?_) (fun c_15 => ?_)
      · skip
        refine J_iconst h (v := nI 0) dX2_start_22 (by decide) ?_
        refine N_iast h (ws' := [(o0, .inr (2, [.ref o1, .ref o2, .int ab, .int be])), (o1, .inl (cI, 21, .inl (upd wa1 i (nI 0)))), (o2, .inl (cI, 21, .inl nw))]) 1 rfl (by decide) (by omega) dX2_start_23 rfl ?_
        refine J_iinc h (v := nI (i + 1)) (lv' := [(2, .int (nI (i + 1))), (0, .ref o0), (1, .int (nI p0))]) dX2_start_24 2 rfl (inc_ok _ 1) (by decide) rfl ?_
        refine J_goto h 2 dX2_start_27 (by decide) ?_
        refine J.loc [1, 2, 0] (lv' := [(0, .ref o0), (1, .int (nI p0)), (2, .int (nI (i + 1)))]) rfl ?_
        exact ih_2 (i + 1) (upd wa1 i (nI 0)) (by first | exact hi |  assumption | omega | rfl) (by omega)
      · skip
        refine J_iconst h (v := nI 1) dX2_start_18 (by decide) ?_
        refine J_goto h 23 dX2_start_19 (by decide) ?_
        refine N_iast h (ws' := [(o0, .inr (2, [.ref o1, .ref o2, .int ab, .int be])), (o1, .inl (cI, 21, .inl (upd wa1 i (nI 1)))), (o2, .inl (cI, 21, .inl nw))]) 1 rfl (by decide) (by omega) dX2_start_23 rfl ?_
        refine J_iinc h (v := nI (i + 1)) (lv' := [(2, .int (nI (i + 1))), (0, .ref o0), (1, .int (nI p0))]) dX2_start_24 2 rfl (inc_ok _ 1) (by decide) rfl ?_
        refine J_goto h 2 dX2_start_27 (by decide) ?_
        refine J.loc [1, 2, 0] (lv' := [(0, .ref o0), (1, .int (nI p0)), (2, .int (nI (i + 1)))]) rfl ?_
        exact ih_2 (i + 1) (upd wa1 i (nI 1)) (by first | exact hi |  assumption | omega | rfl) (by omega)
set_option maxRecDepth 100000 in
set_option maxHeartbeats 4000000 in
theorem w_X2_start (X : Cx) {cI cE : ClassId} (h : Ok X cX2_start RX2 3 cI cE 0 0 0) (o0 : Nat) (o1 : Nat) (o2 : Nat) (wa : Nat → Int32) (nw : Nat → Int32) (ab : Int32) (be : Int32) (p0 : Nat) (hp0 : p0 ≤ 20) (hR : ∀ (u : (Nat → Int32)), ((True)) → RetV X cX2_start 3 0 0 [(o0, .inr (2, [.ref o1, .ref o2, .int ab, .int be])), (o1, .inl (cI, 21, .inl u)), (o2, .inl (cI, 21, .inl nw))]) : J X 3 0 0 0 [(0, .ref o0), (1, .int (nI p0))] [] [(o0, .inr (2, [.ref o1, .ref o2, .int ab, .int be])), (o1, .inl (cI, 21, .inl wa)), (o2, .inl (cI, 21, .inl nw))] := by
  refine J_iconst h (v := nI 0) dX2_start_0 (by decide) ?_
  refine J_istore_n h (i := 2) (lv' := [(2, .int (nI 0)), (0, .ref o0), (1, .int (nI p0))]) dX2_start_1 rfl (by decide) rfl ?_
  refine J.loc [1, 2, 0] (lv' := [(0, .ref o0), (1, .int (nI p0)), (2, .int (nI 0))]) rfl ?_
  exact w_X2_start_2 X h o0 o1 o2 wa nw ab be p0 hp0 hR  (21 - 0 + 1) 0 wa (by first | assumption | omega | rfl) (by omega)
theorem c_X2_start (l : Launch) (D : va_G) (cI cE : ClassId) (o0 : Nat) (o1 : Nat) (o2 : Nat) (wa : Nat → Int32) (nw : Nat → Int32) (ab : Int32) (be : Int32) (p0 : Nat) (hp0 : p0 ≤ 20) : Cv l D cI cE yX2_start cX2_start 3 none 0 0 0 [.ref o0, .int (nI p0)] [(o0, .inr (2, [.ref o1, .ref o2, .int ab, .int be])), (o1, .inl (cI, 21, .inl wa)), (o2, .inl (cI, 21, .inl nw))] (fun (u : (Nat → Int32)) => ((True))) (fun (u : (Nat → Int32)) => ([(o0, .inr (2, [.ref o1, .ref o2, .int ab, .int be])), (o1, .inl (cI, 21, .inl u)), (o2, .inl (cI, 21, .inl nw))] : va_W)) :=
  Cv.of (by decide) (Nat.le_of_ble_eq_true rfl) (fun X h hR _ => w_X2_start X h o0 o1 o2 wa nw ab be p0 hp0 hR)
theorem yv_X2_start : YV yX2_start cX2_start 3 none 1 := ⟨no_X2_start, nv_X2_start, ni_X2, nk_X2_start, by decide +kernel⟩
set_option maxRecDepth 100000 in
set_option maxHeartbeats 4000000 in
theorem w_X2_addNext (X : Cx) {cI cE : ClassId} (h : Ok X cX2_addNext RX2 3 cI cE 0 0 0) (o0 : Nat) (o1 : Nat) (o2 : Nat) (wa : Nat → Int32) (nw : Nat → Int32) (ab : Int32) (be : Int32) (p0 : Nat) (p1 : Int32) (hp0 : p0 ≤ 20) (hR : ∀ (u : Unit), ((True)) → RetV X cX2_addNext 3 0 0 [(o0, .inr (2, [.ref o1, .ref o2, .int ab, .int be])), (o1, .inl (cI, 21, .inl wa)), (o2, .inl (cI, 21, .inl (upd nw p0 (nw p0 + p1))))]) : J X 3 0 0 0 [(0, .ref o0), (1, .int (nI p0)), (2, .int p1)] [] [(o0, .inr (2, [.ref o1, .ref o2, .int ab, .int be])), (o1, .inl (cI, 21, .inl wa)), (o2, .inl (cI, 21, .inl nw))] := by
  refine J_iload_n h (i := 1) dX2_addNext_0 rfl 1 rfl ?_
  refine N_if_lt h 20 dX2_addNext_1 (by decide) (by omega) ?_
  refine J_iload_n h (i := 1) dX2_addNext_4 rfl 1 rfl ?_
  refine J_bipush h (v := nI 20) dX2_addNext_5 (by decide) ?_
  refine N_icmp_gt h 20 dX2_addNext_7 (by decide) (by omega) (by omega) (fun c_7 => absurd c_7 (by omega)) (fun c_7 => ?_)
  refine J_aload_n h (i := 0) dX2_addNext_10 rfl 0 rfl ?_
  refine J_get h inX2 rfl 0 1 (by decide) rfl rfl nf_X2_15 dX2_addNext_11 ?_
  refine J_iload_n h (i := 1) dX2_addNext_14 rfl 1 rfl ?_
  refine J_dup2 h dX2_addNext_15 rfl rfl ?_
  refine N_iald h 2 rfl (by decide) (by omega) dX2_addNext_16 ?_
  refine J_iload_n h (i := 2) dX2_addNext_17 rfl 2 rfl ?_
  refine J_iadd h dX2_addNext_18 ?_
  refine N_iast h (ws' := [(o0, .inr (2, [.ref o1, .ref o2, .int ab, .int be])), (o1, .inl (cI, 21, .inl wa)), (o2, .inl (cI, 21, .inl (upd nw p0 ((nw p0) + p1))))]) 2 rfl (by decide) (by omega) dX2_addNext_19 rfl ?_
  exact hR () (trivial) 20 _ dX2_addNext_20
theorem c_X2_addNext (l : Launch) (D : va_G) (cI cE : ClassId) (o0 : Nat) (o1 : Nat) (o2 : Nat) (wa : Nat → Int32) (nw : Nat → Int32) (ab : Int32) (be : Int32) (p0 : Nat) (p1 : Int32) (hp0 : p0 ≤ 20) : Cv l D cI cE yX2_addNext cX2_addNext 3 none 0 0 0 [.ref o0, .int (nI p0), .int p1] [(o0, .inr (2, [.ref o1, .ref o2, .int ab, .int be])), (o1, .inl (cI, 21, .inl wa)), (o2, .inl (cI, 21, .inl nw))] (fun (u : Unit) => ((True))) (fun (u : Unit) => ([(o0, .inr (2, [.ref o1, .ref o2, .int ab, .int be])), (o1, .inl (cI, 21, .inl wa)), (o2, .inl (cI, 21, .inl (upd nw p0 (nw p0 + p1))))] : va_W)) :=
  Cv.of (by decide) (Nat.le_of_ble_eq_true rfl) (fun X h hR _ => w_X2_addNext X h o0 o1 o2 wa nw ab be p0 p1 hp0 hR)
theorem yv_X2_addNext : YV yX2_addNext cX2_addNext 3 none 2 := ⟨no_X2_addNext, nv_X2_addNext, ni_X2, nk_X2_addNext, by decide +kernel⟩
set_option maxRecDepth 100000 in
set_option maxHeartbeats 4000000 in
theorem w_X2_waysOf (X : Cx) {cI cE : ClassId} (h : Ok X cX2_waysOf RX2 2 cI cE 0 0 0) (o0 : Nat) (o1 : Nat) (o2 : Nat) (wa : Nat → Int32) (nw : Nat → Int32) (ab : Int32) (be : Int32) (p0 : Nat) (hp0 : p0 ≤ 20) (hR : ∀ (r : Int32) (u : Unit), ((wa p0 = r) ∧ (True)) → RetI X cX2_waysOf 2 0 0 r [(o0, .inr (2, [.ref o1, .ref o2, .int ab, .int be])), (o1, .inl (cI, 21, .inl wa)), (o2, .inl (cI, 21, .inl nw))]) : J X 2 0 0 0 [(0, .ref o0), (1, .int (nI p0))] [] [(o0, .inr (2, [.ref o1, .ref o2, .int ab, .int be])), (o1, .inl (cI, 21, .inl wa)), (o2, .inl (cI, 21, .inl nw))] := by
  refine J_iload_n h (i := 1) dX2_waysOf_0 rfl 1 rfl ?_
  refine N_if_lt h 19 dX2_waysOf_1 (by decide) (by omega) ?_
  refine J_iload_n h (i := 1) dX2_waysOf_4 rfl 1 rfl ?_
  refine J_bipush h (v := nI 20) dX2_waysOf_5 (by decide) ?_
  refine N_icmp_gt h 19 dX2_waysOf_7 (by decide) (by omega) (by omega) (fun c_7 => absurd c_7 (by omega)) (fun c_7 => ?_)
  refine J_aload_n h (i := 0) dX2_waysOf_10 rfl 0 rfl ?_
  refine J_get h inX2 rfl 0 0 (by decide) rfl rfl nf_X2_9 dX2_waysOf_11 ?_
  refine J_iload_n h (i := 1) dX2_waysOf_14 rfl 1 rfl ?_
  refine N_iald h 1 rfl (by decide) (by omega) dX2_waysOf_15 ?_
  refine J_goto h 20 dX2_waysOf_16 (by decide) ?_
  exact hR (wa p0) () (⟨rfl, trivial⟩) 20 _ dX2_waysOf_20
theorem c_X2_waysOf (l : Launch) (D : va_G) (cI cE : ClassId) (o0 : Nat) (o1 : Nat) (o2 : Nat) (wa : Nat → Int32) (nw : Nat → Int32) (ab : Int32) (be : Int32) (p0 : Nat) (hp0 : p0 ≤ 20) : Ci l D cI cE yX2_waysOf cX2_waysOf 2 (some .int) 0 0 0 [.ref o0, .int (nI p0)] [(o0, .inr (2, [.ref o1, .ref o2, .int ab, .int be])), (o1, .inl (cI, 21, .inl wa)), (o2, .inl (cI, 21, .inl nw))] (fun (r : Int32) (u : Unit) => ((wa p0 = r) ∧ (True))) (fun (u : Unit) => ([(o0, .inr (2, [.ref o1, .ref o2, .int ab, .int be])), (o1, .inl (cI, 21, .inl wa)), (o2, .inl (cI, 21, .inl nw))] : va_W)) :=
  Ci.of (by decide) (Nat.le_of_ble_eq_true rfl) (fun _ _ _ => rfl) (fun X h hR => w_X2_waysOf X h o0 o1 o2 wa nw ab be p0 hp0 hR)
theorem yv_X2_waysOf : YV yX2_waysOf cX2_waysOf 2 (some .int) 1 := ⟨no_X2_waysOf, nv_X2_waysOf, ni_X2, nk_X2_waysOf, by decide +kernel⟩
set_option maxRecDepth 100000 in
set_option maxHeartbeats 4000000 in
theorem w_X2_putWays (X : Cx) {cI cE : ClassId} (h : Ok X cX2_putWays RX2 3 cI cE 0 0 0) (o0 : Nat) (o1 : Nat) (o2 : Nat) (wa : Nat → Int32) (nw : Nat → Int32) (ab : Int32) (be : Int32) (p0 : Nat) (p1 : Int32) (hp0 : p0 ≤ 20) (hR : ∀ (u : Unit), ((True)) → RetV X cX2_putWays 3 0 0 [(o0, .inr (2, [.ref o1, .ref o2, .int ab, .int be])), (o1, .inl (cI, 21, .inl (upd wa p0 p1))), (o2, .inl (cI, 21, .inl nw))]) : J X 3 0 0 0 [(0, .ref o0), (1, .int (nI p0)), (2, .int p1)] [] [(o0, .inr (2, [.ref o1, .ref o2, .int ab, .int be])), (o1, .inl (cI, 21, .inl wa)), (o2, .inl (cI, 21, .inl nw))] := by
  refine J_iload_n h (i := 1) dX2_putWays_0 rfl 1 rfl ?_
  refine N_if_lt h 17 dX2_putWays_1 (by decide) (by omega) ?_
  refine J_iload_n h (i := 1) dX2_putWays_4 rfl 1 rfl ?_
  refine J_bipush h (v := nI 20) dX2_putWays_5 (by decide) ?_
  refine N_icmp_gt h 17 dX2_putWays_7 (by decide) (by omega) (by omega) (fun c_7 => absurd c_7 (by omega)) (fun c_7 => ?_)
  refine J_aload_n h (i := 0) dX2_putWays_10 rfl 0 rfl ?_
  refine J_get h inX2 rfl 0 0 (by decide) rfl rfl nf_X2_9 dX2_putWays_11 ?_
  refine J_iload_n h (i := 1) dX2_putWays_14 rfl 1 rfl ?_
  refine J_iload_n h (i := 2) dX2_putWays_15 rfl 2 rfl ?_
  refine N_iast h (ws' := [(o0, .inr (2, [.ref o1, .ref o2, .int ab, .int be])), (o1, .inl (cI, 21, .inl (upd wa p0 p1))), (o2, .inl (cI, 21, .inl nw))]) 1 rfl (by decide) (by omega) dX2_putWays_16 rfl ?_
  exact hR () (trivial) 17 _ dX2_putWays_17
theorem c_X2_putWays (l : Launch) (D : va_G) (cI cE : ClassId) (o0 : Nat) (o1 : Nat) (o2 : Nat) (wa : Nat → Int32) (nw : Nat → Int32) (ab : Int32) (be : Int32) (p0 : Nat) (p1 : Int32) (hp0 : p0 ≤ 20) : Cv l D cI cE yX2_putWays cX2_putWays 3 none 0 0 0 [.ref o0, .int (nI p0), .int p1] [(o0, .inr (2, [.ref o1, .ref o2, .int ab, .int be])), (o1, .inl (cI, 21, .inl wa)), (o2, .inl (cI, 21, .inl nw))] (fun (u : Unit) => ((True))) (fun (u : Unit) => ([(o0, .inr (2, [.ref o1, .ref o2, .int ab, .int be])), (o1, .inl (cI, 21, .inl (upd wa p0 p1))), (o2, .inl (cI, 21, .inl nw))] : va_W)) :=
  Cv.of (by decide) (Nat.le_of_ble_eq_true rfl) (fun X h hR _ => w_X2_putWays X h o0 o1 o2 wa nw ab be p0 p1 hp0 hR)
theorem yv_X2_putWays : YV yX2_putWays cX2_putWays 3 none 2 := ⟨no_X2_putWays, nv_X2_putWays, ni_X2, nk_X2_putWays, by decide +kernel⟩
set_option maxRecDepth 100000 in
set_option maxHeartbeats 4000000 in
theorem w_X2_allWays_4 (X : Cx) {cI cE : ClassId} (h : Ok X cX2_allWays RX2 3 cI cE 1 0 0) (o0 : Nat) (o1 : Nat) (o2 : Nat) (wa : Nat → Int32) (nw : Nat → Int32) (ab : Int32) (be : Int32)  (hR : ∀ (r : Int32) (u : Unit), ((True)) → RetI X cX2_allWays 3 0 0 r [(o0, .inr (2, [.ref o1, .ref o2, .int ab, .int be])), (o1, .inl (cI, 21, .inl wa)), (o2, .inl (cI, 21, .inl nw))]) : ∀ (n_4 : Nat) (i : Nat) (n : Int32), (i ≤ 21) → 21 - i < n_4 → J X 3 0 0 4 [(0, .ref o0), (1, .int n), (2, .int (nI i))] [] [(o0, .inr (2, [.ref o1, .ref o2, .int ab, .int be])), (o1, .inl (cI, 21, .inl wa)), (o2, .inl (cI, 21, .inl nw))] := by
  intro n_4
  induction n_4 with
  | zero => intro i n hi hn_; exact absurd hn_ (Nat.not_lt_zero _)
  | succ n_4 ih_4 =>
    intro i n hi hn_4
    refine J_iload_n h (i := 2) dX2_allWays_4 rfl 2 rfl ?_
    refine J_bipush h (v := nI 20) dX2_allWays_5 (by decide) ?_
    refine N_icmp_gt h 24 dX2_allWays_7 (by decide) (by omega) (by omega) (fun c_7 => ?_) (fun c_7 => ?_)
    · skip
      refine J_iload_n h (i := 1) dX2_allWays_24 rfl 1 rfl ?_
      exact hR n () (by trivial) 25 _ dX2_allWays_25
    · skip
      refine J_iload_n h (i := 1) dX2_allWays_10 rfl 1 rfl ?_
      refine J_aload_n h (i := 0) dX2_allWays_11 rfl 0 rfl ?_
      refine J_iload_n h (i := 2) dX2_allWays_12 rfl 2 rfl ?_
      refine K_vi h (wr := []) (c_X2_waysOf (xl X) (xD X) cI cE o0 o1 o2 wa nw ab be i (by first | assumption | omega | rfl)) yv_X2_waysOf nm_X2_45 (by decide) (by decide) rfl rfl 0 rfl rfl rfl rfl (Nat.le_of_ble_eq_true rfl) (Nat.le_refl _) (Nat.le_refl _) dX2_allWays_13 (fun r_13 u_13 p_13 => ?_)
      obtain ⟨rfl, -⟩ := p_13
      show J X 3 0 0 16 [(0, .ref o0), (1, .int n), (2, .int (nI i))] [.int (wa i), .int n] [(o0, .inr (2, [.ref o1, .ref o2, .int ab, .int be])), (o1, .inl (cI, 21, .inl wa)), (o2, .inl (cI, 21, .inl nw))]
      refine J_iadd h dX2_allWays_16 ?_
      refine J_istore_n h (i := 1) (lv' := [(1, .int (n + (wa i))), (0, .ref o0), (2, .int (nI i))]) dX2_allWays_17 rfl (by decide) rfl ?_
      refine J_iinc h (v := nI (i + 1)) (lv' := [(2, .int (nI (i + 1))), (1, .int (n + (wa i))), (0, .ref o0)]) dX2_allWays_18 2 rfl (inc_ok _ 1) (by decide) rfl ?_
      refine J_goto h 4 dX2_allWays_21 (by decide) ?_
      refine J.loc [2, 1, 0] (lv' := [(0, .ref o0), (1, .int (n + (wa i))), (2, .int (nI (i + 1)))]) rfl ?_
      exact ih_4 (i + 1) (n + (wa i)) (by first | exact hi |  assumption | omega | rfl) (by omega)
set_option maxRecDepth 100000 in
set_option maxHeartbeats 4000000 in
theorem w_X2_allWays (X : Cx) {cI cE : ClassId} (h : Ok X cX2_allWays RX2 3 cI cE 1 0 0) (o0 : Nat) (o1 : Nat) (o2 : Nat) (wa : Nat → Int32) (nw : Nat → Int32) (ab : Int32) (be : Int32)  (hR : ∀ (r : Int32) (u : Unit), ((True)) → RetI X cX2_allWays 3 0 0 r [(o0, .inr (2, [.ref o1, .ref o2, .int ab, .int be])), (o1, .inl (cI, 21, .inl wa)), (o2, .inl (cI, 21, .inl nw))]) : J X 3 0 0 0 [(0, .ref o0)] [] [(o0, .inr (2, [.ref o1, .ref o2, .int ab, .int be])), (o1, .inl (cI, 21, .inl wa)), (o2, .inl (cI, 21, .inl nw))] := by
  refine J_iconst h (v := nI 0) dX2_allWays_0 (by decide) ?_
  refine J_istore_n h (i := 1) (lv' := [(1, .int (nI 0)), (0, .ref o0)]) dX2_allWays_1 rfl (by decide) rfl ?_
  refine J_iconst h (v := nI 0) dX2_allWays_2 (by decide) ?_
  refine J_istore_n h (i := 2) (lv' := [(2, .int (nI 0)), (1, .int (nI 0)), (0, .ref o0)]) dX2_allWays_3 rfl (by decide) rfl ?_
  refine J.loc [2, 1, 0] (lv' := [(0, .ref o0), (1, .int (nI 0)), (2, .int (nI 0))]) rfl ?_
  exact w_X2_allWays_4 X h o0 o1 o2 wa nw ab be hR  (21 - 0 + 1) 0 (nI 0) (by first | assumption | omega | rfl) (by omega)
theorem c_X2_allWays (l : Launch) (D : va_G) (cI cE : ClassId) (o0 : Nat) (o1 : Nat) (o2 : Nat) (wa : Nat → Int32) (nw : Nat → Int32) (ab : Int32) (be : Int32)  : Ci l D cI cE yX2_allWays cX2_allWays 3 (some .int) 1 0 0 [.ref o0] [(o0, .inr (2, [.ref o1, .ref o2, .int ab, .int be])), (o1, .inl (cI, 21, .inl wa)), (o2, .inl (cI, 21, .inl nw))] (fun (r : Int32) (u : Unit) => ((True))) (fun (u : Unit) => ([(o0, .inr (2, [.ref o1, .ref o2, .int ab, .int be])), (o1, .inl (cI, 21, .inl wa)), (o2, .inl (cI, 21, .inl nw))] : va_W)) :=
  Ci.of (by decide) (Nat.le_of_ble_eq_true rfl) (fun _ _ _ => rfl) (fun X h hR => w_X2_allWays X h o0 o1 o2 wa nw ab be hR)
theorem yv_X2_allWays : YV yX2_allWays cX2_allWays 3 (some .int) 0 := ⟨no_X2_allWays, nv_X2_allWays, ni_X2, nk_X2_allWays, by decide +kernel⟩
set_option maxRecDepth 100000 in
set_option maxHeartbeats 4000000 in
theorem w_X2_passRow_74 (X : Cx) {cI cE : ClassId} (h : Ok X cX2_passRow RX2 4 cI cE 2 0 0) (o0 : Nat) (o1 : Nat) (o2 : Nat) (wa : Nat → Int32) (nw : Nat → Int32) (ab : Int32) (be : Int32) (p0 : Int32) (p1 : Nat) (hp1 : p1 ≤ 10) (hR : ∀ (u : (Nat → Int32) × (Nat → Int32)), ((True)) → RetV X cX2_passRow 4 0 0 [(o0, .inr (2, [.ref o1, .ref o2, .int ab, .int be])), (o1, .inl (cI, 21, .inl u.1)), (o2, .inl (cI, 21, .inl u.2))]) : ∀ (n_74 : Nat) (i : Nat) (wa1 : Nat → Int32) (nw1 : Nat → Int32), (i ≤ 21) → 21 - i < n_74 → J X 4 0 0 74 [(0, .ref o0), (3, .int (nI i))] [] [(o0, .inr (2, [.ref o1, .ref o2, .int ab, .int be])), (o1, .inl (cI, 21, .inl wa1)), (o2, .inl (cI, 21, .inl nw1))] := by
  intro n_74
  induction n_74 with
  | zero => intro i wa1 nw1 hi hn_; exact absurd hn_ (Nat.not_lt_zero _)
  | succ n_74 ih_74 =>
    intro i wa1 nw1 hi hn_74
    refine J_iload_n h (i := 3) dX2_passRow_74 rfl 1 rfl ?_
    refine J_bipush h (v := nI 20) dX2_passRow_75 (by decide) ?_
    refine N_icmp_gt h 98 dX2_passRow_77 (by decide) (by omega) (by omega) (fun c_77 => ?_) (fun c_77 => ?_)
    · skip
      exact hR (wa1, nw1) (by trivial) 98 _ dX2_passRow_98
    · skip
      refine J_aload_n h (i := 0) dX2_passRow_80 rfl 0 rfl ?_
      refine J_get h inX2 rfl 0 0 (by decide) rfl rfl nf_X2_9 dX2_passRow_81 ?_
      refine J_iload_n h (i := 3) dX2_passRow_84 rfl 1 rfl ?_
      refine J_aload_n h (i := 0) dX2_passRow_85 rfl 0 rfl ?_
      refine J_get h inX2 rfl 0 1 (by decide) rfl rfl nf_X2_15 dX2_passRow_86 ?_
      refine J_iload_n h (i := 3) dX2_passRow_89 rfl 1 rfl ?_
      refine N_iald h 2 rfl (by decide) (by omega) dX2_passRow_90 ?_
      refine N_iast h (ws' := [(o0, .inr (2, [.ref o1, .ref o2, .int ab, .int be])), (o1, .inl (cI, 21, .inl (upd wa1 i (nw1 i)))), (o2, .inl (cI, 21, .inl nw1))]) 1 rfl (by decide) (by omega) dX2_passRow_91 rfl ?_
      refine J_iinc h (v := nI (i + 1)) (lv' := [(3, .int (nI (i + 1))), (0, .ref o0)]) dX2_passRow_92 1 rfl (inc_ok _ 1) (by decide) rfl ?_
      refine J_goto h 74 dX2_passRow_95 (by decide) ?_
      refine J.loc [1, 0] (lv' := [(0, .ref o0), (3, .int (nI (i + 1)))]) rfl ?_
      exact ih_74 (i + 1) (upd wa1 i (nw1 i)) nw1 (by first | exact hi |  assumption | omega | rfl) (by omega)
set_option maxRecDepth 100000 in
set_option maxHeartbeats 4000000 in
theorem w_X2_passRow_23 (X : Cx) {cI cE : ClassId} (h : Ok X cX2_passRow RX2 4 cI cE 2 0 0) (o0 : Nat) (o1 : Nat) (o2 : Nat) (wa : Nat → Int32) (nw : Nat → Int32) (ab : Int32) (be : Int32) (p0 : Int32) (p1 : Nat) (hp1 : p1 ≤ 10) (hR : ∀ (u : (Nat → Int32) × (Nat → Int32)), ((True)) → RetV X cX2_passRow 4 0 0 [(o0, .inr (2, [.ref o1, .ref o2, .int ab, .int be])), (o1, .inl (cI, 21, .inl u.1)), (o2, .inl (cI, 21, .inl u.2))]) : ∀ (n_23 : Nat) (i : Nat) (wa1 : Nat → Int32) (nw1 : Nat → Int32), (i ≤ 21) → 21 - i < n_23 → J X 4 0 0 23 [(0, .ref o0), (1, .int p0), (2, .int (nI p1)), (3, .int (nI i))] [] [(o0, .inr (2, [.ref o1, .ref o2, .int ab, .int be])), (o1, .inl (cI, 21, .inl wa1)), (o2, .inl (cI, 21, .inl nw1))] := by
  intro n_23
  induction n_23 with
  | zero => intro i wa1 nw1 hi hn_; exact absurd hn_ (Nat.not_lt_zero _)
  | succ n_23 ih_23 =>
    intro i wa1 nw1 hi hn_23
    refine J_iload_n h (i := 3) dX2_passRow_23 rfl 3 rfl ?_
    refine J_bipush h (v := nI 20) dX2_passRow_24 (by decide) ?_
    refine N_icmp_gt h 72 dX2_passRow_26 (by decide) (by omega) (by omega) (fun c_26 => ?_) (fun c_26 => ?_)
    · skip
      refine J_iconst h (v := nI 0) dX2_passRow_72 (by decide) ?_
      refine J_istore_n h (i := 3) (lv' := [(3, .int (nI 0)), (0, .ref o0), (1, .int p0), (2, .int (nI p1))]) dX2_passRow_73 rfl (by decide) rfl ?_
      refine J.loc [1, 0] (lv' := [(0, .ref o0), (3, .int (nI 0))]) rfl ?_
      exact w_X2_passRow_74 X h o0 o1 o2 wa nw ab be p0 p1 hp1 hR  (21 - 0 + 1) 0 wa1 nw1 (by first | exact hi |  assumption | omega | rfl) (by omega)
    · skip
      have hs1 := spd_le (k := nI 1) (v := i) (by omega)
      have hs2 := spd_le (k := p0) (v := i) (by omega)
      refine J_aload_n h (i := 0) dX2_passRow_29 rfl 0 rfl ?_
      refine J_iconst h (v := nI 1) dX2_passRow_30 (by decide) ?_
      refine J_iload_n h (i := 3) dX2_passRow_31 rfl 3 rfl ?_
      refine K_si h (wr := [(o0, .inr (2, [.ref o1, .ref o2, .int ab, .int be])), (o1, .inl (cI, 21, .inl wa1)), (o2, .inl (cI, 21, .inl nw1))]) (c_X3_speedOver (xl X) (xD X) cI cE (nI 1) i (by first | exact hp1 |  assumption | omega | rfl)) yv_X3_speedOver nm_X2_58 (by decide) (by decide) rfl rfl rfl (Nat.le_of_ble_eq_true rfl) (Nat.le_refl _) (Nat.le_refl _) dX2_passRow_32 (fun r_32 u_32 p_32 => ?_)
      obtain ⟨rfl, -⟩ := p_32
      show J X 4 0 0 35 [(0, .ref o0), (1, .int p0), (2, .int (nI p1)), (3, .int (nI i))] [.int (nI (spd (nI 1) i)), .ref o0] [(o0, .inr (2, [.ref o1, .ref o2, .int ab, .int be])), (o1, .inl (cI, 21, .inl wa1)), (o2, .inl (cI, 21, .inl nw1))]
      refine J_iload_n h (i := 2) dX2_passRow_35 rfl 2 rfl ?_
      refine J_aload_n h (i := 0) dX2_passRow_36 rfl 0 rfl ?_
      refine J_get h inX2 rfl 0 0 (by decide) rfl rfl nf_X2_9 dX2_passRow_37 ?_
      refine J_iload_n h (i := 3) dX2_passRow_40 rfl 3 rfl ?_
      refine N_iald h 1 rfl (by decide) (by omega) dX2_passRow_41 ?_
      refine J_imul h dX2_passRow_42 ?_
      refine K_vv h (wr := []) (c_X2_addNext (xl X) (xD X) cI cE o0 o1 o2 wa1 nw1 ab be (spd (nI 1) i) ((nI p1) * (wa1 i)) (by first | assumption | omega | rfl)) yv_X2_addNext nm_X2_64 (by decide) (by decide) rfl rfl 0 rfl rfl rfl rfl (Nat.le_of_ble_eq_true rfl) (Nat.le_refl _) (Nat.le_refl _) dX2_passRow_43 (fun u_43 p_43 => ?_)
      show J X 4 0 0 46 [(0, .ref o0), (1, .int p0), (2, .int (nI p1)), (3, .int (nI i))] [] [(o0, .inr (2, [.ref o1, .ref o2, .int ab, .int be])), (o1, .inl (cI, 21, .inl wa1)), (o2, .inl (cI, 21, .inl (upd nw1 (spd (nI 1) i) (nw1 (spd (nI 1) i) + ((nI p1) * (wa1 i))))))]
      refine J_aload_n h (i := 0) dX2_passRow_46 rfl 0 rfl ?_
      refine J_iload_n h (i := 1) dX2_passRow_47 rfl 1 rfl ?_
      refine J_iload_n h (i := 3) dX2_passRow_48 rfl 3 rfl ?_
      refine K_si h (wr := [(o0, .inr (2, [.ref o1, .ref o2, .int ab, .int be])), (o1, .inl (cI, 21, .inl wa1)), (o2, .inl (cI, 21, .inl (upd nw1 (spd (nI 1) i) (nw1 (spd (nI 1) i) + ((nI p1) * (wa1 i))))))]) (c_X3_speedOver (xl X) (xD X) cI cE p0 i (by first | exact hp1 |  assumption | omega | rfl)) yv_X3_speedOver nm_X2_58 (by decide) (by decide) rfl rfl rfl (Nat.le_of_ble_eq_true rfl) (Nat.le_refl _) (Nat.le_refl _) dX2_passRow_49 (fun r_49 u_49 p_49 => ?_)
      obtain ⟨rfl, -⟩ := p_49
      show J X 4 0 0 52 [(0, .ref o0), (1, .int p0), (2, .int (nI p1)), (3, .int (nI i))] [.int (nI (spd p0 i)), .ref o0] [(o0, .inr (2, [.ref o1, .ref o2, .int ab, .int be])), (o1, .inl (cI, 21, .inl wa1)), (o2, .inl (cI, 21, .inl (upd nw1 (spd (nI 1) i) (nw1 (spd (nI 1) i) + ((nI p1) * (wa1 i))))))]
      refine J_bipush h (v := nI 10) dX2_passRow_52 (by decide) ?_
      refine J_iload_n h (i := 2) dX2_passRow_54 rfl 2 rfl ?_
      refine N_isub h (by omega) dX2_passRow_55 ?_
      refine J_aload_n h (i := 0) dX2_passRow_56 rfl 0 rfl ?_
      refine J_get h inX2 rfl 0 0 (by decide) rfl rfl nf_X2_9 dX2_passRow_57 ?_
      refine J_iload_n h (i := 3) dX2_passRow_60 rfl 3 rfl ?_
      refine N_iald h 1 rfl (by decide) (by omega) dX2_passRow_61 ?_
      refine J_imul h dX2_passRow_62 ?_
      refine K_vv h (wr := []) (c_X2_addNext (xl X) (xD X) cI cE o0 o1 o2 wa1 (upd nw1 (spd (nI 1) i) (nw1 (spd (nI 1) i) + ((nI p1) * (wa1 i)))) ab be (spd p0 i) ((nI (10 - p1)) * (wa1 i)) (by first | assumption | omega | rfl)) yv_X2_addNext nm_X2_64 (by decide) (by decide) rfl rfl 0 rfl rfl rfl rfl (Nat.le_of_ble_eq_true rfl) (Nat.le_refl _) (Nat.le_refl _) dX2_passRow_63 (fun u_63 p_63 => ?_)
      show J X 4 0 0 66 [(0, .ref o0), (1, .int p0), (2, .int (nI p1)), (3, .int (nI i))] [] [(o0, .inr (2, [.ref o1, .ref o2, .int ab, .int be])), (o1, .inl (cI, 21, .inl wa1)), (o2, .inl (cI, 21, .inl (upd (upd nw1 (spd (nI 1) i) (nw1 (spd (nI 1) i) + ((nI p1) * (wa1 i)))) (spd p0 i) ((upd nw1 (spd (nI 1) i) (nw1 (spd (nI 1) i) + ((nI p1) * (wa1 i)))) (spd p0 i) + ((nI (10 - p1)) * (wa1 i))))))]
      refine J_iinc h (v := nI (i + 1)) (lv' := [(3, .int (nI (i + 1))), (0, .ref o0), (1, .int p0), (2, .int (nI p1))]) dX2_passRow_66 3 rfl (inc_ok _ 1) (by decide) rfl ?_
      refine J_goto h 23 dX2_passRow_69 (by decide) ?_
      refine J.loc [1, 2, 3, 0] (lv' := [(0, .ref o0), (1, .int p0), (2, .int (nI p1)), (3, .int (nI (i + 1)))]) rfl ?_
      exact ih_23 (i + 1) wa1 (upd (upd nw1 (spd (nI 1) i) (nw1 (spd (nI 1) i) + ((nI p1) * (wa1 i)))) (spd p0 i) ((upd nw1 (spd (nI 1) i) (nw1 (spd (nI 1) i) + ((nI p1) * (wa1 i)))) (spd p0 i) + ((nI (10 - p1)) * (wa1 i)))) (by first | exact hi |  assumption | omega | rfl) (by omega)
set_option maxRecDepth 100000 in
set_option maxHeartbeats 4000000 in
theorem w_X2_passRow_2 (X : Cx) {cI cE : ClassId} (h : Ok X cX2_passRow RX2 4 cI cE 2 0 0) (o0 : Nat) (o1 : Nat) (o2 : Nat) (wa : Nat → Int32) (nw : Nat → Int32) (ab : Int32) (be : Int32) (p0 : Int32) (p1 : Nat) (hp1 : p1 ≤ 10) (hR : ∀ (u : (Nat → Int32) × (Nat → Int32)), ((True)) → RetV X cX2_passRow 4 0 0 [(o0, .inr (2, [.ref o1, .ref o2, .int ab, .int be])), (o1, .inl (cI, 21, .inl u.1)), (o2, .inl (cI, 21, .inl u.2))]) : ∀ (n_2 : Nat) (i : Nat) (wa1 : Nat → Int32) (nw1 : Nat → Int32), (i ≤ 21) → 21 - i < n_2 → J X 4 0 0 2 [(0, .ref o0), (1, .int p0), (2, .int (nI p1)), (3, .int (nI i))] [] [(o0, .inr (2, [.ref o1, .ref o2, .int ab, .int be])), (o1, .inl (cI, 21, .inl wa1)), (o2, .inl (cI, 21, .inl nw1))] := by
  intro n_2
  induction n_2 with
  | zero => intro i wa1 nw1 hi hn_; exact absurd hn_ (Nat.not_lt_zero _)
  | succ n_2 ih_2 =>
    intro i wa1 nw1 hi hn_2
    refine J_iload_n h (i := 3) dX2_passRow_2 rfl 3 rfl ?_
    refine J_bipush h (v := nI 20) dX2_passRow_3 (by decide) ?_
    refine N_icmp_gt h 21 dX2_passRow_5 (by decide) (by omega) (by omega) (fun c_5 => ?_) (fun c_5 => ?_)
    · skip
      refine J_iconst h (v := nI 1) dX2_passRow_21 (by decide) ?_
      refine J_istore_n h (i := 3) (lv' := [(3, .int (nI 1)), (0, .ref o0), (1, .int p0), (2, .int (nI p1))]) dX2_passRow_22 rfl (by decide) rfl ?_
      refine J.loc [1, 2, 3, 0] (lv' := [(0, .ref o0), (1, .int p0), (2, .int (nI p1)), (3, .int (nI 1))]) rfl ?_
      exact w_X2_passRow_23 X h o0 o1 o2 wa nw ab be p0 p1 hp1 hR  (21 - 1 + 1) 1 wa1 nw1 (by first | exact hi |  assumption | omega | rfl) (by omega)
    · skip
      refine J_aload_n h (i := 0) dX2_passRow_8 rfl 0 rfl ?_
      refine J_get h inX2 rfl 0 1 (by decide) rfl rfl nf_X2_15 dX2_passRow_9 ?_
      refine J_iload_n h (i := 3) dX2_passRow_12 rfl 3 rfl ?_
      refine J_iconst h (v := nI 0) dX2_passRow_13 (by decide) ?_
      refine N_iast h (ws' := [(o0, .inr (2, [.ref o1, .ref o2, .int ab, .int be])), (o1, .inl (cI, 21, .inl wa1)), (o2, .inl (cI, 21, .inl (upd nw1 i (nI 0))))]) 2 rfl (by decide) (by omega) dX2_passRow_14 rfl ?_
      refine J_iinc h (v := nI (i + 1)) (lv' := [(3, .int (nI (i + 1))), (0, .ref o0), (1, .int p0), (2, .int (nI p1))]) dX2_passRow_15 3 rfl (inc_ok _ 1) (by decide) rfl ?_
      refine J_goto h 2 dX2_passRow_18 (by decide) ?_
      refine J.loc [1, 2, 3, 0] (lv' := [(0, .ref o0), (1, .int p0), (2, .int (nI p1)), (3, .int (nI (i + 1)))]) rfl ?_
      exact ih_2 (i + 1) wa1 (upd nw1 i (nI 0)) (by first | exact hi |  assumption | omega | rfl) (by omega)
set_option maxRecDepth 100000 in
set_option maxHeartbeats 4000000 in
theorem w_X2_passRow (X : Cx) {cI cE : ClassId} (h : Ok X cX2_passRow RX2 4 cI cE 2 0 0) (o0 : Nat) (o1 : Nat) (o2 : Nat) (wa : Nat → Int32) (nw : Nat → Int32) (ab : Int32) (be : Int32) (p0 : Int32) (p1 : Nat) (hp1 : p1 ≤ 10) (hR : ∀ (u : (Nat → Int32) × (Nat → Int32)), ((True)) → RetV X cX2_passRow 4 0 0 [(o0, .inr (2, [.ref o1, .ref o2, .int ab, .int be])), (o1, .inl (cI, 21, .inl u.1)), (o2, .inl (cI, 21, .inl u.2))]) : J X 4 0 0 0 [(0, .ref o0), (1, .int p0), (2, .int (nI p1))] [] [(o0, .inr (2, [.ref o1, .ref o2, .int ab, .int be])), (o1, .inl (cI, 21, .inl wa)), (o2, .inl (cI, 21, .inl nw))] := by
  refine J_iconst h (v := nI 0) dX2_passRow_0 (by decide) ?_
  refine J_istore_n h (i := 3) (lv' := [(3, .int (nI 0)), (0, .ref o0), (1, .int p0), (2, .int (nI p1))]) dX2_passRow_1 rfl (by decide) rfl ?_
  refine J.loc [1, 2, 3, 0] (lv' := [(0, .ref o0), (1, .int p0), (2, .int (nI p1)), (3, .int (nI 0))]) rfl ?_
  exact w_X2_passRow_2 X h o0 o1 o2 wa nw ab be p0 p1 hp1 hR  (21 - 0 + 1) 0 wa nw (by first | assumption | omega | rfl) (by omega)
theorem c_X2_passRow (l : Launch) (D : va_G) (cI cE : ClassId) (o0 : Nat) (o1 : Nat) (o2 : Nat) (wa : Nat → Int32) (nw : Nat → Int32) (ab : Int32) (be : Int32) (p0 : Int32) (p1 : Nat) (hp1 : p1 ≤ 10) : Cv l D cI cE yX2_passRow cX2_passRow 4 none 2 0 0 [.ref o0, .int p0, .int (nI p1)] [(o0, .inr (2, [.ref o1, .ref o2, .int ab, .int be])), (o1, .inl (cI, 21, .inl wa)), (o2, .inl (cI, 21, .inl nw))] (fun (u : (Nat → Int32) × (Nat → Int32)) => ((True))) (fun (u : (Nat → Int32) × (Nat → Int32)) => ([(o0, .inr (2, [.ref o1, .ref o2, .int ab, .int be])), (o1, .inl (cI, 21, .inl u.1)), (o2, .inl (cI, 21, .inl u.2))] : va_W)) :=
  Cv.of (by decide) (Nat.le_of_ble_eq_true rfl) (fun X h hR _ => w_X2_passRow X h o0 o1 o2 wa nw ab be p0 p1 hp1 hR)
theorem yv_X2_passRow : YV yX2_passRow cX2_passRow 4 none 2 := ⟨no_X2_passRow, nv_X2_passRow, ni_X2, nk_X2_passRow, by decide +kernel⟩
set_option maxRecDepth 100000 in
set_option maxHeartbeats 4000000 in
theorem w_X2_commonDivisor_7 (X : Cx) {cI cE : ClassId} (h : Ok X cX2_commonDivisor RX2 6 cI cE 0 0 0) (p0 : Int32) (p1 : Int32)  (hR : ∀ (r : Int32) (u : Unit), ((True)) → RetI X cX2_commonDivisor 6 0 0 r []) : ∀ (n_7 : Nat) (i : Nat) (a : Int32) (b : Int32), (i ≤ 64) → 64 - i < n_7 → J X 6 0 0 7 [(2, .int a), (3, .int b), (4, .int (nI i))] [] [] := by
  intro n_7
  induction n_7 with
  | zero => intro i a b hi hn_; exact absurd hn_ (Nat.not_lt_zero _)
  | succ n_7 ih_7 =>
    intro i a b hi hn_7
    refine J_iload h dX2_commonDivisor_7 2 rfl ?_
    refine J_bipush h (v := nI 64) dX2_commonDivisor_9 (by decide) ?_
    refine N_icmp_ge h 34 dX2_commonDivisor_11 (by decide) (by omega) (by omega) (fun c_11 => ?_) (fun c_11 => ?_)
    · skip
      refine J_iload_n h (i := 2) dX2_commonDivisor_34 rfl 0 rfl ?_
      exact hR a () (by trivial) 35 _ dX2_commonDivisor_35
    · skip
      refine J_iload_n h (i := 3) dX2_commonDivisor_14 rfl 1 rfl ?_
      refine J_if_eq h 34 dX2_commonDivisor_15 (by decide) (fun c_15 => ?_) (fun c_15 => ?_)
      · skip
        refine J_iload_n h (i := 2) dX2_commonDivisor_34 rfl 0 rfl ?_
        exact hR a () (by trivial) 35 _ dX2_commonDivisor_35
      · skip
        refine J_iload_n h (i := 2) dX2_commonDivisor_18 rfl 0 rfl ?_
        refine J_iload_n h (i := 3) dX2_commonDivisor_19 rfl 1 rfl ?_
        refine J_irem h dX2_commonDivisor_20 (by exact c_15) ?_
        refine J_istore h (lv' := [(5, .int (a - a / b * b)), (2, .int a), (3, .int b), (4, .int (nI i))]) dX2_commonDivisor_21 (by decide) rfl ?_
        refine J_iload_n h (i := 3) dX2_commonDivisor_23 rfl 2 rfl ?_
        refine J_istore_n h (i := 2) (lv' := [(2, .int b), (5, .int (a - a / b * b)), (3, .int b), (4, .int (nI i))]) dX2_commonDivisor_24 rfl (by decide) rfl ?_
        refine J_iload h dX2_commonDivisor_25 1 rfl ?_
        refine J_istore_n h (i := 3) (lv' := [(3, .int (a - a / b * b)), (2, .int b), (5, .int (a - a / b * b)), (4, .int (nI i))]) dX2_commonDivisor_27 rfl (by decide) rfl ?_
        refine J_iinc h (v := nI (i + 1)) (lv' := [(4, .int (nI (i + 1))), (3, .int (a - a / b * b)), (2, .int b), (5, .int (a - a / b * b))]) dX2_commonDivisor_28 3 rfl (inc_ok _ 1) (by decide) rfl ?_
        refine J_goto h 7 dX2_commonDivisor_31 (by decide) ?_
        refine J.loc [2, 1, 0] (lv' := [(2, .int b), (3, .int (a - a / b * b)), (4, .int (nI (i + 1)))]) rfl ?_
        exact ih_7 (i + 1) b (a - a / b * b) (by first | exact hi |  assumption | omega | rfl) (by omega)
set_option maxRecDepth 100000 in
set_option maxHeartbeats 4000000 in
theorem w_X2_commonDivisor (X : Cx) {cI cE : ClassId} (h : Ok X cX2_commonDivisor RX2 6 cI cE 0 0 0) (p0 : Int32) (p1 : Int32)  (hR : ∀ (r : Int32) (u : Unit), ((True)) → RetI X cX2_commonDivisor 6 0 0 r []) : J X 6 0 0 0 [(0, .int p0), (1, .int p1)] [] [] := by
  refine J_iload_n h (i := 0) dX2_commonDivisor_0 rfl 0 rfl ?_
  refine J_istore_n h (i := 2) (lv' := [(2, .int p0), (0, .int p0), (1, .int p1)]) dX2_commonDivisor_1 rfl (by decide) rfl ?_
  refine J_iload_n h (i := 1) dX2_commonDivisor_2 rfl 2 rfl ?_
  refine J_istore_n h (i := 3) (lv' := [(3, .int p1), (2, .int p0), (0, .int p0), (1, .int p1)]) dX2_commonDivisor_3 rfl (by decide) rfl ?_
  refine J_iconst h (v := nI 0) dX2_commonDivisor_4 (by decide) ?_
  refine J_istore h (lv' := [(4, .int (nI 0)), (3, .int p1), (2, .int p0), (0, .int p0), (1, .int p1)]) dX2_commonDivisor_5 (by decide) rfl ?_
  refine J.loc [2, 1, 0] (lv' := [(2, .int p0), (3, .int p1), (4, .int (nI 0))]) rfl ?_
  exact w_X2_commonDivisor_7 X h p0 p1 hR  (64 - 0 + 1) 0 p0 p1 (by first | assumption | omega | rfl) (by omega)
theorem c_X2_commonDivisor (l : Launch) (D : va_G) (cI cE : ClassId) (p0 : Int32) (p1 : Int32)  : Ci l D cI cE yX2_commonDivisor cX2_commonDivisor 6 (some .int) 0 0 0 [.int p0, .int p1] [] (fun (r : Int32) (u : Unit) => ((True))) (fun (u : Unit) => ([] : va_W)) :=
  Ci.of (by decide) (Nat.le_of_ble_eq_true rfl) (fun _ _ _ => rfl) (fun X h hR => w_X2_commonDivisor X h p0 p1 hR)
theorem yv_X2_commonDivisor : YS yX2_commonDivisor cX2_commonDivisor 6 (some .int) 2 := ⟨ns_X2_commonDivisor, ni_X2, nk_X2_commonDivisor, by decide +kernel⟩
set_option maxRecDepth 100000 in
set_option maxHeartbeats 4000000 in
theorem w_X2_setLowest (X : Cx) {cI cE : ClassId} (h : Ok X cX2_setLowest RX2 4 cI cE 1 0 0) (o0 : Nat) (o1 : Nat) (o2 : Nat) (wa : Nat → Int32) (nw : Nat → Int32) (ab : Int32) (be : Int32) (p0 : Int32) (p1 : Int32)  (hR : ∀ (u : (Int32) × (Int32)), ((True)) → RetV X cX2_setLowest 4 0 0 [(o0, .inr (2, [.ref o1, .ref o2, .int u.1, .int u.2])), (o1, .inl (cI, 21, .inl wa)), (o2, .inl (cI, 21, .inl nw))]) : J X 4 0 0 0 [(0, .ref o0), (1, .int p0), (2, .int p1)] [] [(o0, .inr (2, [.ref o1, .ref o2, .int ab, .int be])), (o1, .inl (cI, 21, .inl wa)), (o2, .inl (cI, 21, .inl nw))] := by
  refine J_iload_n h (i := 1) dX2_setLowest_0 rfl 1 rfl ?_
  refine J_iload_n h (i := 2) dX2_setLowest_1 rfl 2 rfl ?_
  refine K_si h (wr := [(o0, .inr (2, [.ref o1, .ref o2, .int ab, .int be])), (o1, .inl (cI, 21, .inl wa)), (o2, .inl (cI, 21, .inl nw))]) (c_X2_commonDivisor (xl X) (xD X) cI cE p0 p1 ) yv_X2_commonDivisor nm_X2_67 (by decide) (by decide) rfl rfl rfl (Nat.le_of_ble_eq_true rfl) (Nat.le_refl _) (Nat.le_refl _) dX2_setLowest_2 (fun r_2 u_2 p_2 => ?_)
  show J X 4 0 0 5 [(0, .ref o0), (1, .int p0), (2, .int p1)] [.int r_2] [(o0, .inr (2, [.ref o1, .ref o2, .int ab, .int be])), (o1, .inl (cI, 21, .inl wa)), (o2, .inl (cI, 21, .inl nw))]
  refine J_istore_n h (i := 3) (lv' := [(3, .int r_2), (0, .ref o0), (1, .int p0), (2, .int p1)]) dX2_setLowest_5 rfl (by decide) rfl ?_
  refine J_iload_n h (i := 3) dX2_setLowest_6 rfl 0 rfl ?_
  refine T_if_gt h (A := (r_2).toInt) 11 dX2_setLowest_7 (by decide) (rfl) (fun c_7 => ?_) (fun c_7 => ?_)
  · skip
    refine J_aload_n h (i := 0) dX2_setLowest_11 rfl 1 rfl ?_
    refine J_iload_n h (i := 1) dX2_setLowest_12 rfl 2 rfl ?_
    refine J_iload_n h (i := 3) dX2_setLowest_13 rfl 0 rfl ?_
    refine J_idiv h dX2_setLowest_14 (by intro e; rw [e] at c_7; exact absurd c_7 (by decide)) ?_
    refine J_put h (ws' := [(o0, .inr (2, [.ref o1, .ref o2, .int (p0 / r_2), .int be])), (o1, .inl (cI, 21, .inl wa)), (o2, .inl (cI, 21, .inl nw))]) inX2 tyX2 tyX2_ok nmX2 rfl 0 2 (by decide) rfl nf_X2_18 rfl rfl rfl rfl (Nat.le_of_ble_eq_true rfl) dX2_setLowest_15 rfl ?_
    refine J_aload_n h (i := 0) dX2_setLowest_18 rfl 1 rfl ?_
    refine J_iload_n h (i := 2) dX2_setLowest_19 rfl 3 rfl ?_
    refine J_iload_n h (i := 3) dX2_setLowest_20 rfl 0 rfl ?_
    refine J_idiv h dX2_setLowest_21 (by intro e; rw [e] at c_7; exact absurd c_7 (by decide)) ?_
    refine J_put h (ws' := [(o0, .inr (2, [.ref o1, .ref o2, .int (p0 / r_2), .int (p1 / r_2)])), (o1, .inl (cI, 21, .inl wa)), (o2, .inl (cI, 21, .inl nw))]) inX2 tyX2 tyX2_ok nmX2 rfl 0 3 (by decide) rfl nf_X2_22 rfl rfl rfl rfl (Nat.le_of_ble_eq_true rfl) dX2_setLowest_22 rfl ?_
    exact hR (p0 / r_2, p1 / r_2) (by trivial) 25 _ dX2_setLowest_25
  · skip
    exact hR (ab, be) (by trivial) 10 _ dX2_setLowest_10
theorem c_X2_setLowest (l : Launch) (D : va_G) (cI cE : ClassId) (o0 : Nat) (o1 : Nat) (o2 : Nat) (wa : Nat → Int32) (nw : Nat → Int32) (ab : Int32) (be : Int32) (p0 : Int32) (p1 : Int32)  : Cv l D cI cE yX2_setLowest cX2_setLowest 4 none 1 0 0 [.ref o0, .int p0, .int p1] [(o0, .inr (2, [.ref o1, .ref o2, .int ab, .int be])), (o1, .inl (cI, 21, .inl wa)), (o2, .inl (cI, 21, .inl nw))] (fun (u : (Int32) × (Int32)) => ((True))) (fun (u : (Int32) × (Int32)) => ([(o0, .inr (2, [.ref o1, .ref o2, .int u.1, .int u.2])), (o1, .inl (cI, 21, .inl wa)), (o2, .inl (cI, 21, .inl nw))] : va_W)) :=
  Cv.of (by decide) (Nat.le_of_ble_eq_true rfl) (fun X h hR _ => w_X2_setLowest X h o0 o1 o2 wa nw ab be p0 p1 hR)
theorem yv_X2_setLowest : YV yX2_setLowest cX2_setLowest 4 none 2 := ⟨no_X2_setLowest, nv_X2_setLowest, ni_X2, nk_X2_setLowest, by decide +kernel⟩
set_option maxRecDepth 100000 in
set_option maxHeartbeats 4000000 in
theorem w_X2_find_11 (X : Cx) {cI cE : ClassId} (h : Ok X cX2_find RX2 9 cI cE 3 0 0) (o0 : Nat) (o1 : Nat) (o2 : Nat) (wa : Nat → Int32) (nw : Nat → Int32) (ab : Int32) (be : Int32) (a0 : Nat) (a1 : Nat) (a2 : Nat) (th : Nat → Int32) (ow : Nat → Int32) (co : Nat) (ro : Nat) (sl : Int32) (x : Nat) (w : Nat) (c : Nat) (t : Nat) (hrc : ro * co ≤ 48) (hco : co ≤ 6) (hro : ro ≤ 8) (hx : x < co) (hw : w ≤ 20) (hc : c ≤ 99) (ht : t ≤ 10) (hR : ∀ (u : (Nat → Int32) × (Nat → Int32) × (Int32) × (Int32)), ((True)) → RetV X cX2_find 9 0 0 [(o0, .inr (2, [.ref o1, .ref o2, .int u.2.2.1, .int u.2.2.2])), (o1, .inl (cI, 21, .inl u.1)), (o2, .inl (cI, 21, .inl u.2.1)), (a0, .inr (0, [.ref a1, .ref a2, .int (nI co), .int (nI ro), .int sl])), (a1, .inl (cI, 48, .inl th)), (a2, .inl (cI, 48, .inl ow))]) : ∀ (n_11 : Nat) (r : Nat) (al : Int32) (wa1 : Nat → Int32) (nw1 : Nat → Int32), (r ≤ ro) → ro - r < n_11 → J X 9 0 0 11 [(0, .ref o0), (1, .ref a0), (2, .int (nI x)), (4, .int (nI c)), (5, .int (nI t)), (6, .int al), (7, .int (nI r))] [] [(o0, .inr (2, [.ref o1, .ref o2, .int ab, .int be])), (o1, .inl (cI, 21, .inl wa1)), (o2, .inl (cI, 21, .inl nw1)), (a0, .inr (0, [.ref a1, .ref a2, .int (nI co), .int (nI ro), .int sl])), (a1, .inl (cI, 48, .inl th)), (a2, .inl (cI, 48, .inl ow))] := by
  intro n_11
  induction n_11 with
  | zero => intro r al wa1 nw1 hr hn_; exact absurd hn_ (Nat.not_lt_zero _)
  | succ n_11 ih_11 =>
    intro r al wa1 nw1 hr hn_11
    have hrx : r < ro → r * co + x < ro * co := fun q => by have := Nat.mul_le_mul_right co (show r + 1 ≤ ro by omega); rw [Nat.succ_mul] at this; omega
    refine J_iload h dX2_find_11 6 rfl ?_
    refine J_aload_n h (i := 1) dX2_find_13 rfl 1 rfl ?_
    refine J_get h inX0 rfl 3 3 (by decide) rfl rfl nf_X2_29 dX2_find_14 ?_
    refine N_icmp_ge h 88 dX2_find_17 (by decide) (by omega) (by omega) (fun c_17 => ?_) (fun c_17 => ?_)
    · skip
      refine J_aload_n h (i := 0) dX2_find_88 rfl 0 rfl ?_
      refine J_iload h dX2_find_89 3 rfl ?_
      refine J_bipush h (v := nI 99) dX2_find_91 (by decide) ?_
      refine N_icmp_ne h 103 dX2_find_93 (by decide) (by omega) (by omega) (fun c_93 => ?_) (fun c_93 => ?_)
      · skip
        refine J_iconst h (v := nI 0) dX2_find_103 (by decide) ?_
        refine J_iload h dX2_find_104 5 rfl ?_
        refine K_vv h (wr := [(a0, .inr (0, [.ref a1, .ref a2, .int (nI co), .int (nI ro), .int sl])), (a1, .inl (cI, 48, .inl th)), (a2, .inl (cI, 48, .inl ow))]) (c_X2_setLowest (xl X) (xD X) cI cE o0 o1 o2 wa1 nw1 ab be (nI 0) al ) yv_X2_setLowest nm_X2_48 (by decide) (by decide) rfl rfl 0 rfl rfl rfl rfl (Nat.le_of_ble_eq_true rfl) (Nat.le_refl _) (Nat.le_refl _) dX2_find_106 (fun u_106 p_106 => ?_)
        obtain ⟨ab2_106, be2_106⟩ := u_106
        try dsimp only at p_106
        show J X 9 0 0 109 [(0, .ref o0), (1, .ref a0), (2, .int (nI x)), (4, .int (nI c)), (5, .int (nI t)), (6, .int al), (7, .int (nI r))] [] [(o0, .inr (2, [.ref o1, .ref o2, .int ab2_106, .int be2_106])), (o1, .inl (cI, 21, .inl wa1)), (o2, .inl (cI, 21, .inl nw1)), (a0, .inr (0, [.ref a1, .ref a2, .int (nI co), .int (nI ro), .int sl])), (a1, .inl (cI, 48, .inl th)), (a2, .inl (cI, 48, .inl ow))]
        exact hR (wa1, nw1, ab2_106, be2_106) (by trivial) 109 _ dX2_find_109
      · skip
        refine J_aload_n h (i := 0) dX2_find_96 rfl 0 rfl ?_
        refine K_vi h (wr := [(a0, .inr (0, [.ref a1, .ref a2, .int (nI co), .int (nI ro), .int sl])), (a1, .inl (cI, 48, .inl th)), (a2, .inl (cI, 48, .inl ow))]) (c_X2_allWays (xl X) (xD X) cI cE o0 o1 o2 wa1 nw1 ab be ) yv_X2_allWays nm_X2_54 (by decide) (by decide) rfl rfl 0 rfl rfl rfl rfl (Nat.le_of_ble_eq_true rfl) (Nat.le_refl _) (Nat.le_refl _) dX2_find_97 (fun r_97 u_97 p_97 => ?_)
        show J X 9 0 0 100 [(0, .ref o0), (1, .ref a0), (2, .int (nI x)), (4, .int (nI c)), (5, .int (nI t)), (6, .int al), (7, .int (nI r))] [.int r_97, .ref o0] [(o0, .inr (2, [.ref o1, .ref o2, .int ab, .int be])), (o1, .inl (cI, 21, .inl wa1)), (o2, .inl (cI, 21, .inl nw1)), (a0, .inr (0, [.ref a1, .ref a2, .int (nI co), .int (nI ro), .int sl])), (a1, .inl (cI, 48, .inl th)), (a2, .inl (cI, 48, .inl ow))]
        refine J_goto h 104 dX2_find_100 (by decide) ?_
        refine J_iload h dX2_find_104 5 rfl ?_
        refine K_vv h (wr := [(a0, .inr (0, [.ref a1, .ref a2, .int (nI co), .int (nI ro), .int sl])), (a1, .inl (cI, 48, .inl th)), (a2, .inl (cI, 48, .inl ow))]) (c_X2_setLowest (xl X) (xD X) cI cE o0 o1 o2 wa1 nw1 ab be r_97 al ) yv_X2_setLowest nm_X2_48 (by decide) (by decide) rfl rfl 0 rfl rfl rfl rfl (Nat.le_of_ble_eq_true rfl) (Nat.le_refl _) (Nat.le_refl _) dX2_find_106 (fun u_106 p_106 => ?_)
        obtain ⟨ab2_106, be2_106⟩ := u_106
        try dsimp only at p_106
        show J X 9 0 0 109 [(0, .ref o0), (1, .ref a0), (2, .int (nI x)), (4, .int (nI c)), (5, .int (nI t)), (6, .int al), (7, .int (nI r))] [] [(o0, .inr (2, [.ref o1, .ref o2, .int ab2_106, .int be2_106])), (o1, .inl (cI, 21, .inl wa1)), (o2, .inl (cI, 21, .inl nw1)), (a0, .inr (0, [.ref a1, .ref a2, .int (nI co), .int (nI ro), .int sl])), (a1, .inl (cI, 48, .inl th)), (a2, .inl (cI, 48, .inl ow))]
        exact hR (wa1, nw1, ab2_106, be2_106) (by trivial) 109 _ dX2_find_109
    · skip
      refine J_iload h dX2_find_20 6 rfl ?_
      refine J_bipush h (v := nI 8) dX2_find_22 (by decide) ?_
      refine N_icmp_ge h 88 dX2_find_24 (by decide) (by omega) (by omega) (fun c_24 => absurd c_24 (by omega)) (fun c_24 => ?_)
      refine J_iload h dX2_find_27 6 rfl ?_
      refine J_aload_n h (i := 1) dX2_find_29 rfl 1 rfl ?_
      refine J_get h inX0 rfl 3 2 (by decide) rfl rfl nf_X2_34 dX2_find_30 ?_
      refine N_imul h dX2_find_33 ?_
      refine J_iload_n h (i := 2) dX2_find_34 rfl 2 rfl ?_
      refine N_iadd h dX2_find_35 ?_
      refine J_istore h (lv' := [(8, .int (nI ((r * co) + x))), (0, .ref o0), (1, .ref a0), (2, .int (nI x)), (4, .int (nI c)), (5, .int (nI t)), (6, .int al), (7, .int (nI r))]) dX2_find_36 (by decide) rfl ?_
      refine J_aload_n h (i := 0) dX2_find_38 rfl 1 rfl ?_
      refine J_aload_n h (i := 1) dX2_find_39 rfl 2 rfl ?_
      refine J_iload h dX2_find_40 0 rfl ?_
      have hrx1 := hrx (by omega)
      refine J.wld [3, 4, 5, 0, 1, 2] (ws' := [(a0, .inr (0, [.ref a1, .ref a2, .int (nI co), .int (nI ro), .int sl])), (a1, .inl (cI, 48, .inl th)), (a2, .inl (cI, 48, .inl ow)), (o0, .inr (2, [.ref o1, .ref o2, .int ab, .int be])), (o1, .inl (cI, 21, .inl wa1)), (o2, .inl (cI, 21, .inl nw1))]) rfl rfl ?_
      refine K_vi h (wr := [(o0, .inr (2, [.ref o1, .ref o2, .int ab, .int be])), (o1, .inl (cI, 21, .inl wa1)), (o2, .inl (cI, 21, .inl nw1))]) (c_X0_thingOn (xl X) (xD X) cI cE a0 a1 a2 th ow co ro sl ((r * co) + x) (by first | exact hrc |  assumption | omega | rfl) (by first | assumption | omega | rfl)) yv_X0_thingOn nm_X2_37 (by decide) (by decide) rfl rfl 0 rfl rfl rfl rfl (Nat.le_of_ble_eq_true rfl) (Nat.le_refl _) (Nat.le_refl _) dX2_find_42 (fun r_42 u_42 p_42 => ?_)
      obtain ⟨rfl, -⟩ := p_42
      show J X 9 0 0 45 [(8, .int (nI ((r * co) + x))), (0, .ref o0), (1, .ref a0), (2, .int (nI x)), (4, .int (nI c)), (5, .int (nI t)), (6, .int al), (7, .int (nI r))] [.int (th ((r * co) + x)), .ref o0] [(a0, .inr (0, [.ref a1, .ref a2, .int (nI co), .int (nI ro), .int sl])), (a1, .inl (cI, 48, .inl th)), (a2, .inl (cI, 48, .inl ow)), (o0, .inr (2, [.ref o1, .ref o2, .int ab, .int be])), (o1, .inl (cI, 21, .inl wa1)), (o2, .inl (cI, 21, .inl nw1))]
      refine J_iload h dX2_find_45 5 rfl ?_
      refine J.wld [3, 4, 5, 0, 1, 2] (ws' := [(o0, .inr (2, [.ref o1, .ref o2, .int ab, .int be])), (o1, .inl (cI, 21, .inl wa1)), (o2, .inl (cI, 21, .inl nw1)), (a0, .inr (0, [.ref a1, .ref a2, .int (nI co), .int (nI ro), .int sl])), (a1, .inl (cI, 48, .inl th)), (a2, .inl (cI, 48, .inl ow))]) rfl rfl ?_
      refine K_vv h (wr := [(a0, .inr (0, [.ref a1, .ref a2, .int (nI co), .int (nI ro), .int sl])), (a1, .inl (cI, 48, .inl th)), (a2, .inl (cI, 48, .inl ow))]) (c_X2_passRow (xl X) (xD X) cI cE o0 o1 o2 wa1 nw1 ab be (th ((r * co) + x)) t (by first | assumption | omega | rfl)) yv_X2_passRow nm_X2_41 (by decide) (by decide) rfl rfl 0 rfl rfl rfl rfl (Nat.le_of_ble_eq_true rfl) (Nat.le_refl _) (Nat.le_refl _) dX2_find_47 (fun u_47 p_47 => ?_)
      obtain ⟨wa2_47, nw2_47⟩ := u_47
      try dsimp only at p_47
      show J X 9 0 0 50 [(8, .int (nI ((r * co) + x))), (0, .ref o0), (1, .ref a0), (2, .int (nI x)), (4, .int (nI c)), (5, .int (nI t)), (6, .int al), (7, .int (nI r))] [] [(o0, .inr (2, [.ref o1, .ref o2, .int ab, .int be])), (o1, .inl (cI, 21, .inl wa2_47)), (o2, .inl (cI, 21, .inl nw2_47)), (a0, .inr (0, [.ref a1, .ref a2, .int (nI co), .int (nI ro), .int sl])), (a1, .inl (cI, 48, .inl th)), (a2, .inl (cI, 48, .inl ow))]
      refine J_iload h dX2_find_50 6 rfl ?_
      refine J_bipush h (v := nI 10) dX2_find_52 (by decide) ?_
      refine J_imul h dX2_find_54 ?_
      refine J_istore h (lv' := [(6, .int (al * (nI 10))), (8, .int (nI ((r * co) + x))), (0, .ref o0), (1, .ref a0), (2, .int (nI x)), (4, .int (nI c)), (5, .int (nI t)), (7, .int (nI r))]) dX2_find_55 (by decide) rfl ?_
      refine J_iload h dX2_find_57 1 rfl ?_
      refine J_iload h dX2_find_59 5 rfl ?_
      refine N_icmp_ne h 76 dX2_find_61 (by decide) (by omega) (by omega) (fun c_61 => ?_) (fun c_61 => ?_)
      · skip
        refine J_aload_n h (i := 0) dX2_find_76 rfl 2 rfl ?_
        refine J_iconst h (v := nI 0) dX2_find_77 (by decide) ?_
        refine J_iconst h (v := nI 0) dX2_find_78 (by decide) ?_
        refine K_vv h (wr := [(a0, .inr (0, [.ref a1, .ref a2, .int (nI co), .int (nI ro), .int sl])), (a1, .inl (cI, 48, .inl th)), (a2, .inl (cI, 48, .inl ow))]) (c_X2_putWays (xl X) (xD X) cI cE o0 o1 o2 wa2_47 nw2_47 ab be 0 (nI 0) (by first | assumption | omega | rfl)) yv_X2_putWays nm_X2_51 (by decide) (by decide) rfl rfl 0 rfl rfl rfl rfl (Nat.le_of_ble_eq_true rfl) (Nat.le_refl _) (Nat.le_refl _) dX2_find_79 (fun u_79 p_79 => ?_)
        show J X 9 0 0 82 [(6, .int (al * (nI 10))), (8, .int (nI ((r * co) + x))), (0, .ref o0), (1, .ref a0), (2, .int (nI x)), (4, .int (nI c)), (5, .int (nI t)), (7, .int (nI r))] [] [(o0, .inr (2, [.ref o1, .ref o2, .int ab, .int be])), (o1, .inl (cI, 21, .inl (upd wa2_47 0 (nI 0)))), (o2, .inl (cI, 21, .inl nw2_47)), (a0, .inr (0, [.ref a1, .ref a2, .int (nI co), .int (nI ro), .int sl])), (a1, .inl (cI, 48, .inl th)), (a2, .inl (cI, 48, .inl ow))]
        refine J_iinc h (v := nI (r + 1)) (lv' := [(7, .int (nI (r + 1))), (6, .int (al * (nI 10))), (8, .int (nI ((r * co) + x))), (0, .ref o0), (1, .ref a0), (2, .int (nI x)), (4, .int (nI c)), (5, .int (nI t))]) dX2_find_82 7 rfl (inc_ok _ 1) (by decide) rfl ?_
        refine J_goto h 11 dX2_find_85 (by decide) ?_
        refine J.loc [3, 4, 5, 6, 7, 1, 0] (lv' := [(0, .ref o0), (1, .ref a0), (2, .int (nI x)), (4, .int (nI c)), (5, .int (nI t)), (6, .int (al * (nI 10))), (7, .int (nI (r + 1)))]) rfl ?_
        exact ih_11 (r + 1) (al * (nI 10)) (upd wa2_47 0 (nI 0)) nw2_47 (by first | exact hr |  assumption | omega | rfl) (by omega)
      · skip
        refine J_aload_n h (i := 0) dX2_find_64 rfl 2 rfl ?_
        refine J_aload_n h (i := 0) dX2_find_65 rfl 2 rfl ?_
        refine J_iconst h (v := nI 0) dX2_find_66 (by decide) ?_
        refine K_vi h (wr := [(a0, .inr (0, [.ref a1, .ref a2, .int (nI co), .int (nI ro), .int sl])), (a1, .inl (cI, 48, .inl th)), (a2, .inl (cI, 48, .inl ow))]) (c_X2_waysOf (xl X) (xD X) cI cE o0 o1 o2 wa2_47 nw2_47 ab be 0 (by first | assumption | omega | rfl)) yv_X2_waysOf nm_X2_45 (by decide) (by decide) rfl rfl 0 rfl rfl rfl rfl (Nat.le_of_ble_eq_true rfl) (Nat.le_refl _) (Nat.le_refl _) dX2_find_67 (fun r_67 u_67 p_67 => ?_)
        obtain ⟨rfl, -⟩ := p_67
        show J X 9 0 0 70 [(6, .int (al * (nI 10))), (8, .int (nI ((r * co) + x))), (0, .ref o0), (1, .ref a0), (2, .int (nI x)), (4, .int (nI c)), (5, .int (nI t)), (7, .int (nI r))] [.int (wa2_47 0), .ref o0] [(o0, .inr (2, [.ref o1, .ref o2, .int ab, .int be])), (o1, .inl (cI, 21, .inl wa2_47)), (o2, .inl (cI, 21, .inl nw2_47)), (a0, .inr (0, [.ref a1, .ref a2, .int (nI co), .int (nI ro), .int sl])), (a1, .inl (cI, 48, .inl th)), (a2, .inl (cI, 48, .inl ow))]
        refine J_iload h dX2_find_70 0 rfl ?_
        refine K_vv h (wr := [(a0, .inr (0, [.ref a1, .ref a2, .int (nI co), .int (nI ro), .int sl])), (a1, .inl (cI, 48, .inl th)), (a2, .inl (cI, 48, .inl ow))]) (c_X2_setLowest (xl X) (xD X) cI cE o0 o1 o2 wa2_47 nw2_47 ab be (wa2_47 0) (al * (nI 10)) ) yv_X2_setLowest nm_X2_48 (by decide) (by decide) rfl rfl 0 rfl rfl rfl rfl (Nat.le_of_ble_eq_true rfl) (Nat.le_refl _) (Nat.le_refl _) dX2_find_72 (fun u_72 p_72 => ?_)
        obtain ⟨ab2_72, be2_72⟩ := u_72
        try dsimp only at p_72
        show J X 9 0 0 75 [(6, .int (al * (nI 10))), (8, .int (nI ((r * co) + x))), (0, .ref o0), (1, .ref a0), (2, .int (nI x)), (4, .int (nI c)), (5, .int (nI t)), (7, .int (nI r))] [] [(o0, .inr (2, [.ref o1, .ref o2, .int ab2_72, .int be2_72])), (o1, .inl (cI, 21, .inl wa2_47)), (o2, .inl (cI, 21, .inl nw2_47)), (a0, .inr (0, [.ref a1, .ref a2, .int (nI co), .int (nI ro), .int sl])), (a1, .inl (cI, 48, .inl th)), (a2, .inl (cI, 48, .inl ow))]
        exact hR (wa2_47, nw2_47, ab2_72, be2_72) (by trivial) 75 _ dX2_find_75
set_option maxRecDepth 100000 in
set_option maxHeartbeats 4000000 in
theorem w_X2_find (X : Cx) {cI cE : ClassId} (h : Ok X cX2_find RX2 9 cI cE 3 0 0) (o0 : Nat) (o1 : Nat) (o2 : Nat) (wa : Nat → Int32) (nw : Nat → Int32) (ab : Int32) (be : Int32) (a0 : Nat) (a1 : Nat) (a2 : Nat) (th : Nat → Int32) (ow : Nat → Int32) (co : Nat) (ro : Nat) (sl : Int32) (x : Nat) (w : Nat) (c : Nat) (t : Nat) (hrc : ro * co ≤ 48) (hco : co ≤ 6) (hro : ro ≤ 8) (hx : x < co) (hw : w ≤ 20) (hc : c ≤ 99) (ht : t ≤ 10) (hR : ∀ (u : (Nat → Int32) × (Nat → Int32) × (Int32) × (Int32)), ((True)) → RetV X cX2_find 9 0 0 [(o0, .inr (2, [.ref o1, .ref o2, .int u.2.2.1, .int u.2.2.2])), (o1, .inl (cI, 21, .inl u.1)), (o2, .inl (cI, 21, .inl u.2.1)), (a0, .inr (0, [.ref a1, .ref a2, .int (nI co), .int (nI ro), .int sl])), (a1, .inl (cI, 48, .inl th)), (a2, .inl (cI, 48, .inl ow))]) : J X 9 0 0 0 [(0, .ref o0), (1, .ref a0), (2, .int (nI x)), (3, .int (nI w)), (4, .int (nI c)), (5, .int (nI t))] [] [(o0, .inr (2, [.ref o1, .ref o2, .int ab, .int be])), (o1, .inl (cI, 21, .inl wa)), (o2, .inl (cI, 21, .inl nw)), (a0, .inr (0, [.ref a1, .ref a2, .int (nI co), .int (nI ro), .int sl])), (a1, .inl (cI, 48, .inl th)), (a2, .inl (cI, 48, .inl ow))] := by
  refine J_aload_n h (i := 0) dX2_find_0 rfl 0 rfl ?_
  refine J_iload_n h (i := 3) dX2_find_1 rfl 3 rfl ?_
  refine K_vv h (wr := [(a0, .inr (0, [.ref a1, .ref a2, .int (nI co), .int (nI ro), .int sl])), (a1, .inl (cI, 48, .inl th)), (a2, .inl (cI, 48, .inl ow))]) (c_X2_start (xl X) (xD X) cI cE o0 o1 o2 wa nw ab be w (by first | assumption | omega | rfl)) yv_X2_start nm_X2_25 (by decide) (by decide) rfl rfl 0 rfl rfl rfl rfl (Nat.le_of_ble_eq_true rfl) (Nat.le_refl _) (Nat.le_refl _) dX2_find_2 (fun u_2 p_2 => ?_)
  obtain ⟨wa2_2, rfl⟩ : ∃ z, z = u_2 := ⟨_, rfl⟩
  show J X 9 0 0 5 [(0, .ref o0), (1, .ref a0), (2, .int (nI x)), (3, .int (nI w)), (4, .int (nI c)), (5, .int (nI t))] [] [(o0, .inr (2, [.ref o1, .ref o2, .int ab, .int be])), (o1, .inl (cI, 21, .inl wa2_2)), (o2, .inl (cI, 21, .inl nw)), (a0, .inr (0, [.ref a1, .ref a2, .int (nI co), .int (nI ro), .int sl])), (a1, .inl (cI, 48, .inl th)), (a2, .inl (cI, 48, .inl ow))]
  refine J_iconst h (v := nI 1) dX2_find_5 (by decide) ?_
  refine J_istore h (lv' := [(6, .int (nI 1)), (0, .ref o0), (1, .ref a0), (2, .int (nI x)), (3, .int (nI w)), (4, .int (nI c)), (5, .int (nI t))]) dX2_find_6 (by decide) rfl ?_
  refine J_iconst h (v := nI 0) dX2_find_8 (by decide) ?_
  refine J_istore h (lv' := [(7, .int (nI 0)), (6, .int (nI 1)), (0, .ref o0), (1, .ref a0), (2, .int (nI x)), (3, .int (nI w)), (4, .int (nI c)), (5, .int (nI t))]) dX2_find_9 (by decide) rfl ?_
  refine J.loc [2, 3, 4, 6, 7, 1, 0] (lv' := [(0, .ref o0), (1, .ref a0), (2, .int (nI x)), (4, .int (nI c)), (5, .int (nI t)), (6, .int (nI 1)), (7, .int (nI 0))]) rfl ?_
  exact w_X2_find_11 X h o0 o1 o2 wa nw ab be a0 a1 a2 th ow co ro sl x w c t hrc hco hro hx hw hc ht hR  (ro - 0 + 1) 0 (nI 1) wa2_2 nw (by first | assumption | omega | rfl) (by omega)
theorem c_X2_find (l : Launch) (D : va_G) (cI cE : ClassId) (o0 : Nat) (o1 : Nat) (o2 : Nat) (wa : Nat → Int32) (nw : Nat → Int32) (ab : Int32) (be : Int32) (a0 : Nat) (a1 : Nat) (a2 : Nat) (th : Nat → Int32) (ow : Nat → Int32) (co : Nat) (ro : Nat) (sl : Int32) (x : Nat) (w : Nat) (c : Nat) (t : Nat) (hrc : ro * co ≤ 48) (hco : co ≤ 6) (hro : ro ≤ 8) (hx : x < co) (hw : w ≤ 20) (hc : c ≤ 99) (ht : t ≤ 10) : Cv l D cI cE yX2_find cX2_find 9 none 3 0 0 [.ref o0, .ref a0, .int (nI x), .int (nI w), .int (nI c), .int (nI t)] [(o0, .inr (2, [.ref o1, .ref o2, .int ab, .int be])), (o1, .inl (cI, 21, .inl wa)), (o2, .inl (cI, 21, .inl nw)), (a0, .inr (0, [.ref a1, .ref a2, .int (nI co), .int (nI ro), .int sl])), (a1, .inl (cI, 48, .inl th)), (a2, .inl (cI, 48, .inl ow))] (fun (u : (Nat → Int32) × (Nat → Int32) × (Int32) × (Int32)) => ((True))) (fun (u : (Nat → Int32) × (Nat → Int32) × (Int32) × (Int32)) => ([(o0, .inr (2, [.ref o1, .ref o2, .int u.2.2.1, .int u.2.2.2])), (o1, .inl (cI, 21, .inl u.1)), (o2, .inl (cI, 21, .inl u.2.1)), (a0, .inr (0, [.ref a1, .ref a2, .int (nI co), .int (nI ro), .int sl])), (a1, .inl (cI, 48, .inl th)), (a2, .inl (cI, 48, .inl ow))] : va_W)) :=
  Cv.of (by decide) (Nat.le_of_ble_eq_true rfl) (fun X h hR _ => w_X2_find X h o0 o1 o2 wa nw ab be a0 a1 a2 th ow co ro sl x w c t hrc hco hro hx hw hc ht hR)
theorem yv_X2_find : YV yX2_find cX2_find 9 none 5 := ⟨no_X2_find, nv_X2_find, ni_X2, nk_X2_find, by decide +kernel⟩
