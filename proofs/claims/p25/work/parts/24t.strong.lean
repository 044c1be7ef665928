set_option maxRecDepth 100000 in
set_option maxHeartbeats 4000000 in
theorem w_X4_firstThatStopsS_41 (X : Cx) {cI cE : ClassId} (h : Ok X cX4_firstThatStops RX4 9 cI cE 3 0 0) (y0 : Nat) (cd : Int32) (tk : Int32) (a0 : Nat) (a1 : Nat) (a2 : Nat) (th : Nat → Int32) (ow : Nat → Int32) (co : Nat) (ro : Nat) (sl : Int32) (d0 : Nat) (d1 : Nat) (d2 : Nat) (ce : Nat → Int32) (se : Nat → Int32) (len : Int32) (en : Int32) (p0 : Nat) (hrc : ro * co ≤ 48) (hco : co ≤ 6) (hro : ro ≤ 8) (hp0 : p0 < 48) (hR : ∀ (r : Int32) (u : (Nat → Int32) × (Nat → Int32) × (Int32) × (Int32)), ((aimR th co ro p0 = r) ∧ (True)) → RetI X cX4_firstThatStops 9 0 0 r [(y0, .inr (4, [.int cd, .int tk])), (a0, .inr (0, [.ref a1, .ref a2, .int (nI co), .int (nI ro), .int sl])), (a1, .inl (cI, 48, .inl th)), (a2, .inl (cI, 48, .inl ow)), (d0, .inr (3, [.ref d1, .ref d2, .int u.2.2.1, .int u.2.2.2])), (d1, .inl (cI, 8, .inl u.1)), (d2, .inl (cI, 8, .inl u.2.1))]) (n_3 : Nat) (ih_3 : ∀ (x : Nat) (ce1 : Nat → Int32) (se1 : Nat → Int32) (ln1 : Int32) (en1 : Int32), (x ≤ co) → (∀ k, k < 10000 * x → aimP th co ro p0 k = false) → co - x < n_3 → J X 9 0 0 3 [(0, .ref y0), (1, .ref a0), (2, .ref d0), (3, .int (nI p0)), (4, .int (nI x))] [] [(y0, .inr (4, [.int cd, .int tk])), (a0, .inr (0, [.ref a1, .ref a2, .int (nI co), .int (nI ro), .int sl])), (a1, .inl (cI, 48, .inl th)), (a2, .inl (cI, 48, .inl ow)), (d0, .inr (3, [.ref d1, .ref d2, .int ln1, .int en1])), (d1, .inl (cI, 8, .inl ce1)), (d2, .inl (cI, 8, .inl se1))]) (n_15 : Nat) (ih_15 : ∀ (x : Nat) (w : Nat) (ce1 : Nat → Int32) (se1 : Nat → Int32) (ln1 : Int32) (en1 : Int32), (x < co) → (1 ≤ w ∧ w ≤ 21) → (∀ k, k < 10000 * x + 100 * w → aimP th co ro p0 k = false) → (co - x < n_3 + 1) → 21 - w < n_15 → J X 9 0 0 15 [(0, .ref y0), (1, .ref a0), (2, .ref d0), (3, .int (nI p0)), (4, .int (nI x)), (5, .int (nI w))] [] [(y0, .inr (4, [.int cd, .int tk])), (a0, .inr (0, [.ref a1, .ref a2, .int (nI co), .int (nI ro), .int sl])), (a1, .inl (cI, 48, .inl th)), (a2, .inl (cI, 48, .inl ow)), (d0, .inr (3, [.ref d1, .ref d2, .int ln1, .int en1])), (d1, .inl (cI, 8, .inl ce1)), (d2, .inl (cI, 8, .inl se1))]) : ∀ (n_41 : Nat) (x : Nat) (w : Nat) (rl : Nat) (i : Nat) (ce1 : Nat → Int32) (se1 : Nat → Int32) (ln1 : Int32) (en1 : Int32), (x < co) → (1 ≤ w ∧ w ≤ 20) → (EqN rl (rln th co ro 0 x w)) → (rl ≤ ro) → (i ≤ 2 * rl + 1) → (∀ k, k < 10000 * x + 100 * w → aimP th co ro p0 k = false) → (∀ j, j < i → ren th co ro (hsA j rl) x w ≠ p0) → (co - x < n_3 + 1) → (21 - w < n_15 + 1) → 2 * rl + 1 - i < n_41 → J X 9 0 0 41 [(0, .ref y0), (1, .ref a0), (2, .ref d0), (3, .int (nI p0)), (4, .int (nI x)), (5, .int (nI w)), (6, .int (nI rl)), (7, .int (nI i))] [] [(y0, .inr (4, [.int cd, .int tk])), (a0, .inr (0, [.ref a1, .ref a2, .int (nI co), .int (nI ro), .int sl])), (a1, .inl (cI, 48, .inl th)), (a2, .inl (cI, 48, .inl ow)), (d0, .inr (3, [.ref d1, .ref d2, .int ln1, .int en1])), (d1, .inl (cI, 8, .inl ce1)), (d2, .inl (cI, 8, .inl se1))] := by
  intro n_41
  induction n_41 with
  | zero => intro x w rl i ce1 se1 ln1 en1 hx hw hrl hrr hi hno hni hm hm2 hn_; exact absurd hn_ (Nat.not_lt_zero _)
  | succ n_41 ih_41 =>
    intro x w rl i ce1 se1 ln1 en1 hx hw hrl hrr hi hno hni hm hm2 hn_41
    refine J_iload h dX4_firstThatStops_41 7 rfl ?_
    refine J_iconst h (v := nI 2) dX4_firstThatStops_43 (by decide) ?_
    refine J_iload h dX4_firstThatStops_44 6 rfl ?_
    refine N_imul h dX4_firstThatStops_46 ?_
    refine N_icmp_gt h 94 dX4_firstThatStops_47 (by decide) (by omega) (by omega) (fun c_47 => ?_) (fun c_47 => ?_)
    · skip
      refine J_iinc h (v := nI (w + 1)) (lv' := [(5, .int (nI (w + 1))), (0, .ref y0), (1, .ref a0), (2, .ref d0), (3, .int (nI p0)), (4, .int (nI x)), (6, .int (nI rl)), (7, .int (nI i))]) dX4_firstThatStops_94 5 rfl (inc_ok _ 1) (by decide) rfl ?_
      refine J_goto h 15 dX4_firstThatStops_97 (by decide) ?_
      refine J.loc [1, 2, 3, 4, 5, 0] (lv' := [(0, .ref y0), (1, .ref a0), (2, .ref d0), (3, .int (nI p0)), (4, .int (nI x)), (5, .int (nI (w + 1)))]) rfl ?_
      exact ih_15 x (w + 1) ce1 se1 ln1 en1 (by first | exact hx |  assumption | omega | rfl) (by first | exact hw |  assumption | omega | rfl) (by intro k hk; exact aim_upto hrl hw (Nat.le_refl 100) hno hni (fun j h1 h2 => by omega) (Or.inr (by omega)) k (by omega)) (by first | exact hm |  assumption | omega | rfl) (by omega)
    · skip
      refine J_iload h dX4_firstThatStops_50 7 rfl ?_
      refine J_iload h dX4_firstThatStops_52 6 rfl ?_
      have hhs := hsA_le (i := i) (rl := rl) (by omega)
      refine K_si h (wr := [(y0, .inr (4, [.int cd, .int tk])), (a0, .inr (0, [.ref a1, .ref a2, .int (nI co), .int (nI ro), .int sl])), (a1, .inl (cI, 48, .inl th)), (a2, .inl (cI, 48, .inl ow)), (d0, .inr (3, [.ref d1, .ref d2, .int ln1, .int en1])), (d1, .inl (cI, 8, .inl ce1)), (d2, .inl (cI, 8, .inl se1))]) (c_X4_heelsAt (xl X) (xD X) cI cE i rl (by first | assumption | omega | rfl) (by first | assumption | omega | rfl)) yv_X4_heelsAt nm_X4_32 (by decide) (by decide) rfl rfl rfl (Nat.le_of_ble_eq_true rfl) (Nat.le_refl _) (Nat.le_refl _) dX4_firstThatStops_54 (fun r_54 u_54 p_54 => ?_)
      obtain ⟨rfl, -⟩ := p_54
      show J X 9 0 0 57 [(0, .ref y0), (1, .ref a0), (2, .ref d0), (3, .int (nI p0)), (4, .int (nI x)), (5, .int (nI w)), (6, .int (nI rl)), (7, .int (nI i))] [.int (nI (hsA i rl))] [(y0, .inr (4, [.int cd, .int tk])), (a0, .inr (0, [.ref a1, .ref a2, .int (nI co), .int (nI ro), .int sl])), (a1, .inl (cI, 48, .inl th)), (a2, .inl (cI, 48, .inl ow)), (d0, .inr (3, [.ref d1, .ref d2, .int ln1, .int en1])), (d1, .inl (cI, 8, .inl ce1)), (d2, .inl (cI, 8, .inl se1))]
      refine J_istore h (lv' := [(8, .int (nI (hsA i rl))), (0, .ref y0), (1, .ref a0), (2, .ref d0), (3, .int (nI p0)), (4, .int (nI x)), (5, .int (nI w)), (6, .int (nI rl)), (7, .int (nI i))]) dX4_firstThatStops_57 (by decide) rfl ?_
      refine J_aload_n h (i := 2) dX4_firstThatStops_59 rfl 3 rfl ?_
      refine J_aload_n h (i := 1) dX4_firstThatStops_60 rfl 2 rfl ?_
      refine J_iload h dX4_firstThatStops_61 5 rfl ?_
      refine J_iload h dX4_firstThatStops_63 6 rfl ?_
      refine J_iload h dX4_firstThatStops_65 0 rfl ?_
      refine J.wld [4, 5, 6, 1, 2, 3, 0] (ws' := [(d0, .inr (3, [.ref d1, .ref d2, .int ln1, .int en1])), (d1, .inl (cI, 8, .inl ce1)), (d2, .inl (cI, 8, .inl se1)), (a0, .inr (0, [.ref a1, .ref a2, .int (nI co), .int (nI ro), .int sl])), (a1, .inl (cI, 48, .inl th)), (a2, .inl (cI, 48, .inl ow)), (y0, .inr (4, [.int cd, .int tk]))]) rfl rfl ?_
      refine K_vv h (wr := [(y0, .inr (4, [.int cd, .int tk]))]) (c_X3_run (xl X) (xD X) cI cE d0 d1 d2 ce1 se1 ln1 en1 a0 a1 a2 th ow co ro sl x w (hsA i rl) (by first | exact hrc |  assumption | omega | rfl) (by first | exact hco |  assumption | omega | rfl) (by first | exact hro |  assumption | omega | rfl) (by first | exact hx |  assumption | omega | rfl) (by first | exact hw |  assumption | omega | rfl) (by first | assumption | omega | rfl)) yv_X3_run nm_X4_23 (by decide) (by decide) rfl rfl 0 rfl rfl rfl rfl (Nat.le_of_ble_eq_true rfl) (Nat.le_refl _) (Nat.le_refl _) dX4_firstThatStops_67 (fun u_67 p_67 => ?_)
      obtain ⟨ce2_67, se2_67⟩ := u_67
      try dsimp only at p_67
      obtain ⟨f0_67, f1_67, -⟩ := p_67
      show J X 9 0 0 70 [(8, .int (nI (hsA i rl))), (0, .ref y0), (1, .ref a0), (2, .ref d0), (3, .int (nI p0)), (4, .int (nI x)), (5, .int (nI w)), (6, .int (nI rl)), (7, .int (nI i))] [] [(d0, .inr (3, [.ref d1, .ref d2, .int (nI (rln th co ro (hsA i rl) x w)), .int (nI (ren th co ro (hsA i rl) x w))])), (d1, .inl (cI, 8, .inl ce2_67)), (d2, .inl (cI, 8, .inl se2_67)), (a0, .inr (0, [.ref a1, .ref a2, .int (nI co), .int (nI ro), .int sl])), (a1, .inl (cI, 48, .inl th)), (a2, .inl (cI, 48, .inl ow)), (y0, .inr (4, [.int cd, .int tk]))]
      have hren := ren_lt th (ro := ro) (hh := hsA i rl) hrc (show x < co by omega) (show w ≤ 20 by omega)
      refine J_aload_n h (i := 2) dX4_firstThatStops_70 rfl 3 rfl ?_
      refine J_get h inX3 rfl 0 3 (by decide) rfl rfl nf_X4_36 dX4_firstThatStops_71 ?_
      refine J_iload_n h (i := 3) dX4_firstThatStops_74 rfl 4 rfl ?_
      refine N_icmp_ne h 88 dX4_firstThatStops_75 (by decide) (by omega) (by omega) (fun c_75 => ?_) (fun c_75 => ?_)
      · skip
        refine J_iinc h (v := nI (i + 1)) (lv' := [(7, .int (nI (i + 1))), (8, .int (nI (hsA i rl))), (0, .ref y0), (1, .ref a0), (2, .ref d0), (3, .int (nI p0)), (4, .int (nI x)), (5, .int (nI w)), (6, .int (nI rl))]) dX4_firstThatStops_88 8 rfl (inc_ok _ 1) (by decide) rfl ?_
        refine J_goto h 41 dX4_firstThatStops_91 (by decide) ?_
        refine J.wld [6, 3, 4, 5, 0, 1, 2] (ws' := [(y0, .inr (4, [.int cd, .int tk])), (a0, .inr (0, [.ref a1, .ref a2, .int (nI co), .int (nI ro), .int sl])), (a1, .inl (cI, 48, .inl th)), (a2, .inl (cI, 48, .inl ow)), (d0, .inr (3, [.ref d1, .ref d2, .int (nI (rln th co ro (hsA i rl) x w)), .int (nI (ren th co ro (hsA i rl) x w))])), (d1, .inl (cI, 8, .inl ce2_67)), (d2, .inl (cI, 8, .inl se2_67))]) rfl rfl ?_
        refine J.loc [2, 3, 4, 5, 6, 7, 8, 0] (lv' := [(0, .ref y0), (1, .ref a0), (2, .ref d0), (3, .int (nI p0)), (4, .int (nI x)), (5, .int (nI w)), (6, .int (nI rl)), (7, .int (nI (i + 1)))]) rfl ?_
        exact ih_41 x w rl (i + 1) ce2_67 se2_67 (nI (rln th co ro (hsA i rl) x w)) (nI (ren th co ro (hsA i rl) x w)) (by first | exact hx |  assumption | omega | rfl) (by first | exact hw |  assumption | omega | rfl) (by exact hrl) (by first | exact hrr |  assumption | omega | rfl) (by first | exact hi |  assumption | omega | rfl) (by exact hno) (by exact lt_s hni c_75) (by first | exact hm |  assumption | omega | rfl) (by first | exact hm2 |  assumption | omega | rfl) (by omega)
      · skip
        refine J_iload h dX4_firstThatStops_78 5 rfl ?_
        refine J_iload h dX4_firstThatStops_80 6 rfl ?_
        refine J_iload h dX4_firstThatStops_82 0 rfl ?_
        refine K_si h (wr := [(d0, .inr (3, [.ref d1, .ref d2, .int (nI (rln th co ro (hsA i rl) x w)), .int (nI (ren th co ro (hsA i rl) x w))])), (d1, .inl (cI, 8, .inl ce2_67)), (d2, .inl (cI, 8, .inl se2_67)), (a0, .inr (0, [.ref a1, .ref a2, .int (nI co), .int (nI ro), .int sl])), (a1, .inl (cI, 48, .inl th)), (a2, .inl (cI, 48, .inl ow)), (y0, .inr (4, [.int cd, .int tk]))]) (c_X4_codeOf (xl X) (xD X) cI cE x w (hsA i rl) ) yv_X4_codeOf nm_X4_39 (by decide) (by decide) rfl rfl rfl (Nat.le_of_ble_eq_true rfl) (Nat.le_refl _) (Nat.le_refl _) dX4_firstThatStops_84 (fun r_84 u_84 p_84 => ?_)
        obtain ⟨rfl, -⟩ := p_84
        show J X 9 0 0 87 [(8, .int (nI (hsA i rl))), (0, .ref y0), (1, .ref a0), (2, .ref d0), (3, .int (nI p0)), (4, .int (nI x)), (5, .int (nI w)), (6, .int (nI rl)), (7, .int (nI i))] [.int (nI (10000 * x + 100 * w + (hsA i rl)))] [(d0, .inr (3, [.ref d1, .ref d2, .int (nI (rln th co ro (hsA i rl) x w)), .int (nI (ren th co ro (hsA i rl) x w))])), (d1, .inl (cI, 8, .inl ce2_67)), (d2, .inl (cI, 8, .inl se2_67)), (a0, .inr (0, [.ref a1, .ref a2, .int (nI co), .int (nI ro), .int sl])), (a1, .inl (cI, 48, .inl th)), (a2, .inl (cI, 48, .inl ow)), (y0, .inr (4, [.int cd, .int tk]))]
        refine J.wld [6, 3, 4, 5, 0, 1, 2] (ws' := [(y0, .inr (4, [.int cd, .int tk])), (a0, .inr (0, [.ref a1, .ref a2, .int (nI co), .int (nI ro), .int sl])), (a1, .inl (cI, 48, .inl th)), (a2, .inl (cI, 48, .inl ow)), (d0, .inr (3, [.ref d1, .ref d2, .int (nI (rln th co ro (hsA i rl) x w)), .int (nI (ren th co ro (hsA i rl) x w))])), (d1, .inl (cI, 8, .inl ce2_67)), (d2, .inl (cI, 8, .inl se2_67))]) rfl rfl ?_
        exact hR (nI (10000 * x + 100 * w + (hsA i rl))) (ce2_67, se2_67, nI (rln th co ro (hsA i rl) x w), nI (ren th co ro (hsA i rl) x w)) (⟨(by (try dsimp only); exact aimR_yes (aim_upto hrl hw (by omega) hno hni (fun j _ h2 => hsA_mono (by omega) h2) (by rcases Nat.eq_zero_or_pos i with q | q; exact Or.inl (by rw [q, hsA_0]); exact Or.inr q)) (decide_eq_true (by obtain ⟨c1, c2, c3⟩ := code_at (x := x) (w := w) (h := hsA i rl) (by omega) (by omega); unfold vCode; rw [c1, c2, c3]; exact ⟨⟨hx, hw, hsA_vh (by omega) (by omega)⟩, c_75⟩)) (by omega)), trivial⟩) 87 _ dX4_firstThatStops_87
set_option maxRecDepth 100000 in
set_option maxHeartbeats 4000000 in
theorem w_X4_firstThatStopsS_15 (X : Cx) {cI cE : ClassId} (h : Ok X cX4_firstThatStops RX4 9 cI cE 3 0 0) (y0 : Nat) (cd : Int32) (tk : Int32) (a0 : Nat) (a1 : Nat) (a2 : Nat) (th : Nat → Int32) (ow : Nat → Int32) (co : Nat) (ro : Nat) (sl : Int32) (d0 : Nat) (d1 : Nat) (d2 : Nat) (ce : Nat → Int32) (se : Nat → Int32) (len : Int32) (en : Int32) (p0 : Nat) (hrc : ro * co ≤ 48) (hco : co ≤ 6) (hro : ro ≤ 8) (hp0 : p0 < 48) (hR : ∀ (r : Int32) (u : (Nat → Int32) × (Nat → Int32) × (Int32) × (Int32)), ((aimR th co ro p0 = r) ∧ (True)) → RetI X cX4_firstThatStops 9 0 0 r [(y0, .inr (4, [.int cd, .int tk])), (a0, .inr (0, [.ref a1, .ref a2, .int (nI co), .int (nI ro), .int sl])), (a1, .inl (cI, 48, .inl th)), (a2, .inl (cI, 48, .inl ow)), (d0, .inr (3, [.ref d1, .ref d2, .int u.2.2.1, .int u.2.2.2])), (d1, .inl (cI, 8, .inl u.1)), (d2, .inl (cI, 8, .inl u.2.1))]) (n_3 : Nat) (ih_3 : ∀ (x : Nat) (ce1 : Nat → Int32) (se1 : Nat → Int32) (ln1 : Int32) (en1 : Int32), (x ≤ co) → (∀ k, k < 10000 * x → aimP th co ro p0 k = false) → co - x < n_3 → J X 9 0 0 3 [(0, .ref y0), (1, .ref a0), (2, .ref d0), (3, .int (nI p0)), (4, .int (nI x))] [] [(y0, .inr (4, [.int cd, .int tk])), (a0, .inr (0, [.ref a1, .ref a2, .int (nI co), .int (nI ro), .int sl])), (a1, .inl (cI, 48, .inl th)), (a2, .inl (cI, 48, .inl ow)), (d0, .inr (3, [.ref d1, .ref d2, .int ln1, .int en1])), (d1, .inl (cI, 8, .inl ce1)), (d2, .inl (cI, 8, .inl se1))]) : ∀ (n_15 : Nat) (x : Nat) (w : Nat) (ce1 : Nat → Int32) (se1 : Nat → Int32) (ln1 : Int32) (en1 : Int32), (x < co) → (1 ≤ w ∧ w ≤ 21) → (∀ k, k < 10000 * x + 100 * w → aimP th co ro p0 k = false) → (co - x < n_3 + 1) → 21 - w < n_15 → J X 9 0 0 15 [(0, .ref y0), (1, .ref a0), (2, .ref d0), (3, .int (nI p0)), (4, .int (nI x)), (5, .int (nI w))] [] [(y0, .inr (4, [.int cd, .int tk])), (a0, .inr (0, [.ref a1, .ref a2, .int (nI co), .int (nI ro), .int sl])), (a1, .inl (cI, 48, .inl th)), (a2, .inl (cI, 48, .inl ow)), (d0, .inr (3, [.ref d1, .ref d2, .int ln1, .int en1])), (d1, .inl (cI, 8, .inl ce1)), (d2, .inl (cI, 8, .inl se1))] := by
  intro n_15
  induction n_15 with
  | zero => intro x w ce1 se1 ln1 en1 hx hw hno hm hn_; exact absurd hn_ (Nat.not_lt_zero _)
  | succ n_15 ih_15 =>
    intro x w ce1 se1 ln1 en1 hx hw hno hm hn_15
    refine J_iload h dX4_firstThatStops_15 5 rfl ?_
    refine J_bipush h (v := nI 20) dX4_firstThatStops_17 (by decide) ?_
    refine N_icmp_gt h 100 dX4_firstThatStops_19 (by decide) (by omega) (by omega) (fun c_19 => ?_) (fun c_19 => ?_)
    · skip
      refine J_iinc h (v := nI (x + 1)) (lv' := [(4, .int (nI (x + 1))), (0, .ref y0), (1, .ref a0), (2, .ref d0), (3, .int (nI p0)), (5, .int (nI w))]) dX4_firstThatStops_100 4 rfl (inc_ok _ 1) (by decide) rfl ?_
      refine J_goto h 3 dX4_firstThatStops_103 (by decide) ?_
      refine J.loc [1, 2, 3, 4, 0] (lv' := [(0, .ref y0), (1, .ref a0), (2, .ref d0), (3, .int (nI p0)), (4, .int (nI (x + 1)))]) rfl ?_
      exact ih_3 (x + 1) ce1 se1 ln1 en1 (by first | exact hx |  assumption | omega | rfl) (by exact aim_w21 (by omega) hno) (by omega)
    · skip
      refine J_aload_n h (i := 2) dX4_firstThatStops_22 rfl 2 rfl ?_
      refine J_aload_n h (i := 1) dX4_firstThatStops_23 rfl 1 rfl ?_
      refine J_iload h dX4_firstThatStops_24 4 rfl ?_
      refine J_iload h dX4_firstThatStops_26 5 rfl ?_
      refine J_iconst h (v := nI 0) dX4_firstThatStops_28 (by decide) ?_
      refine J.wld [4, 5, 6, 1, 2, 3, 0] (ws' := [(d0, .inr (3, [.ref d1, .ref d2, .int ln1, .int en1])), (d1, .inl (cI, 8, .inl ce1)), (d2, .inl (cI, 8, .inl se1)), (a0, .inr (0, [.ref a1, .ref a2, .int (nI co), .int (nI ro), .int sl])), (a1, .inl (cI, 48, .inl th)), (a2, .inl (cI, 48, .inl ow)), (y0, .inr (4, [.int cd, .int tk]))]) rfl rfl ?_
      refine K_vv h (wr := [(y0, .inr (4, [.int cd, .int tk]))]) (c_X3_run (xl X) (xD X) cI cE d0 d1 d2 ce1 se1 ln1 en1 a0 a1 a2 th ow co ro sl x w 0 (by first | exact hrc |  assumption | omega | rfl) (by first | exact hco |  assumption | omega | rfl) (by first | exact hro |  assumption | omega | rfl) (by first | exact hx |  assumption | omega | rfl) (by first | exact hw |  assumption | omega | rfl) (by first | assumption | omega | rfl)) yv_X3_run nm_X4_23 (by decide) (by decide) rfl rfl 0 rfl rfl rfl rfl (Nat.le_of_ble_eq_true rfl) (Nat.le_refl _) (Nat.le_refl _) dX4_firstThatStops_29 (fun u_29 p_29 => ?_)
      obtain ⟨ce2_29, se2_29⟩ := u_29
      try dsimp only at p_29
      obtain ⟨f0_29, f1_29, -⟩ := p_29
      show J X 9 0 0 32 [(0, .ref y0), (1, .ref a0), (2, .ref d0), (3, .int (nI p0)), (4, .int (nI x)), (5, .int (nI w))] [] [(d0, .inr (3, [.ref d1, .ref d2, .int (nI (rln th co ro 0 x w)), .int (nI (ren th co ro 0 x w))])), (d1, .inl (cI, 8, .inl ce2_29)), (d2, .inl (cI, 8, .inl se2_29)), (a0, .inr (0, [.ref a1, .ref a2, .int (nI co), .int (nI ro), .int sl])), (a1, .inl (cI, 48, .inl th)), (a2, .inl (cI, 48, .inl ow)), (y0, .inr (4, [.int cd, .int tk]))]
      refine J_aload_n h (i := 2) dX4_firstThatStops_32 rfl 2 rfl ?_
      refine J_get h inX3 rfl 0 2 (by decide) rfl rfl nf_X4_29 dX4_firstThatStops_33 ?_
      have hrle := rln_le th co ro 0 x w
      refine J_istore h (lv' := [(6, .int (nI (rln th co ro 0 x w))), (0, .ref y0), (1, .ref a0), (2, .ref d0), (3, .int (nI p0)), (4, .int (nI x)), (5, .int (nI w))]) dX4_firstThatStops_36 (by decide) rfl ?_
      refine J_iconst h (v := nI 0) dX4_firstThatStops_38 (by decide) ?_
      refine J_istore h (lv' := [(7, .int (nI 0)), (6, .int (nI (rln th co ro 0 x w))), (0, .ref y0), (1, .ref a0), (2, .ref d0), (3, .int (nI p0)), (4, .int (nI x)), (5, .int (nI w))]) dX4_firstThatStops_39 (by decide) rfl ?_
      refine J.wld [6, 3, 4, 5, 0, 1, 2] (ws' := [(y0, .inr (4, [.int cd, .int tk])), (a0, .inr (0, [.ref a1, .ref a2, .int (nI co), .int (nI ro), .int sl])), (a1, .inl (cI, 48, .inl th)), (a2, .inl (cI, 48, .inl ow)), (d0, .inr (3, [.ref d1, .ref d2, .int (nI (rln th co ro 0 x w)), .int (nI (ren th co ro 0 x w))])), (d1, .inl (cI, 8, .inl ce2_29)), (d2, .inl (cI, 8, .inl se2_29))]) rfl rfl ?_
      refine J.loc [2, 3, 4, 5, 6, 7, 1, 0] (lv' := [(0, .ref y0), (1, .ref a0), (2, .ref d0), (3, .int (nI p0)), (4, .int (nI x)), (5, .int (nI w)), (6, .int (nI (rln th co ro 0 x w))), (7, .int (nI 0))]) rfl ?_
      exact w_X4_firstThatStopsS_41 X h y0 cd tk a0 a1 a2 th ow co ro sl d0 d1 d2 ce se len en p0 hrc hco hro hp0 hR n_3 ih_3 n_15 ih_15 (2 * (rln th co ro 0 x w) + 1 - 0 + 1) x w (rln th co ro 0 x w) 0 ce2_29 se2_29 (nI (rln th co ro 0 x w)) (nI (ren th co ro 0 x w)) (by first | exact hx |  assumption | omega | rfl) (by first | exact hw |  assumption | omega | rfl) (by exact .mk rfl) (by exact rln_le _ _ _ _ _ _) (by first | assumption | omega | rfl) (by first | exact hno |  assumption | omega | rfl) (by intro j hj; omega) (by first | exact hm |  assumption | omega | rfl) (by first | assumption | omega | rfl) (by omega)
set_option maxRecDepth 100000 in
set_option maxHeartbeats 4000000 in
theorem w_X4_firstThatStopsS_3 (X : Cx) {cI cE : ClassId} (h : Ok X cX4_firstThatStops RX4 9 cI cE 3 0 0) (y0 : Nat) (cd : Int32) (tk : Int32) (a0 : Nat) (a1 : Nat) (a2 : Nat) (th : Nat → Int32) (ow : Nat → Int32) (co : Nat) (ro : Nat) (sl : Int32) (d0 : Nat) (d1 : Nat) (d2 : Nat) (ce : Nat → Int32) (se : Nat → Int32) (len : Int32) (en : Int32) (p0 : Nat) (hrc : ro * co ≤ 48) (hco : co ≤ 6) (hro : ro ≤ 8) (hp0 : p0 < 48) (hR : ∀ (r : Int32) (u : (Nat → Int32) × (Nat → Int32) × (Int32) × (Int32)), ((aimR th co ro p0 = r) ∧ (True)) → RetI X cX4_firstThatStops 9 0 0 r [(y0, .inr (4, [.int cd, .int tk])), (a0, .inr (0, [.ref a1, .ref a2, .int (nI co), .int (nI ro), .int sl])), (a1, .inl (cI, 48, .inl th)), (a2, .inl (cI, 48, .inl ow)), (d0, .inr (3, [.ref d1, .ref d2, .int u.2.2.1, .int u.2.2.2])), (d1, .inl (cI, 8, .inl u.1)), (d2, .inl (cI, 8, .inl u.2.1))]) : ∀ (n_3 : Nat) (x : Nat) (ce1 : Nat → Int32) (se1 : Nat → Int32) (ln1 : Int32) (en1 : Int32), (x ≤ co) → (∀ k, k < 10000 * x → aimP th co ro p0 k = false) → co - x < n_3 → J X 9 0 0 3 [(0, .ref y0), (1, .ref a0), (2, .ref d0), (3, .int (nI p0)), (4, .int (nI x))] [] [(y0, .inr (4, [.int cd, .int tk])), (a0, .inr (0, [.ref a1, .ref a2, .int (nI co), .int (nI ro), .int sl])), (a1, .inl (cI, 48, .inl th)), (a2, .inl (cI, 48, .inl ow)), (d0, .inr (3, [.ref d1, .ref d2, .int ln1, .int en1])), (d1, .inl (cI, 8, .inl ce1)), (d2, .inl (cI, 8, .inl se1))] := by
  intro n_3
  induction n_3 with
  | zero => intro x ce1 se1 ln1 en1 hx hno hn_; exact absurd hn_ (Nat.not_lt_zero _)
  | succ n_3 ih_3 =>
    intro x ce1 se1 ln1 en1 hx hno hn_3
    refine J_iload h dX4_firstThatStops_3 4 rfl ?_
    refine J_aload_n h (i := 1) dX4_firstThatStops_5 rfl 1 rfl ?_
    refine J_get h inX0 rfl 1 2 (by decide) rfl rfl nf_X4_18 dX4_firstThatStops_6 ?_
    refine N_icmp_ge h 106 dX4_firstThatStops_9 (by decide) (by omega) (by omega) (fun c_9 => ?_) (fun c_9 => ?_)
    · skip
      refine J_bipush h (v := (-4)) dX4_firstThatStops_106 (by decide) ?_
      exact hR ((-4)) (ce1, se1, ln1, en1) (⟨(by (try dsimp only); exact aimR_no (fun k hk => hno k (by omega))), trivial⟩) 108 _ dX4_firstThatStops_108
    · skip
      refine J_iconst h (v := nI 1) dX4_firstThatStops_12 (by decide) ?_
      refine J_istore h (lv' := [(5, .int (nI 1)), (0, .ref y0), (1, .ref a0), (2, .ref d0), (3, .int (nI p0)), (4, .int (nI x))]) dX4_firstThatStops_13 (by decide) rfl ?_
      refine J.loc [1, 2, 3, 4, 5, 0] (lv' := [(0, .ref y0), (1, .ref a0), (2, .ref d0), (3, .int (nI p0)), (4, .int (nI x)), (5, .int (nI 1))]) rfl ?_
      exact w_X4_firstThatStopsS_15 X h y0 cd tk a0 a1 a2 th ow co ro sl d0 d1 d2 ce se len en p0 hrc hco hro hp0 hR n_3 ih_3 (21 - 1 + 1) x 1 ce1 se1 ln1 en1 (by first | exact hx |  assumption | omega | rfl) (by first | assumption | omega | rfl) (by exact aim_w0 hno) (by first | assumption | omega | rfl) (by omega)
set_option maxRecDepth 100000 in
set_option maxHeartbeats 4000000 in
theorem w_X4_firstThatStopsS (X : Cx) {cI cE : ClassId} (h : Ok X cX4_firstThatStops RX4 9 cI cE 3 0 0) (y0 : Nat) (cd : Int32) (tk : Int32) (a0 : Nat) (a1 : Nat) (a2 : Nat) (th : Nat → Int32) (ow : Nat → Int32) (co : Nat) (ro : Nat) (sl : Int32) (d0 : Nat) (d1 : Nat) (d2 : Nat) (ce : Nat → Int32) (se : Nat → Int32) (len : Int32) (en : Int32) (p0 : Nat) (hrc : ro * co ≤ 48) (hco : co ≤ 6) (hro : ro ≤ 8) (hp0 : p0 < 48) (hR : ∀ (r : Int32) (u : (Nat → Int32) × (Nat → Int32) × (Int32) × (Int32)), ((aimR th co ro p0 = r) ∧ (True)) → RetI X cX4_firstThatStops 9 0 0 r [(y0, .inr (4, [.int cd, .int tk])), (a0, .inr (0, [.ref a1, .ref a2, .int (nI co), .int (nI ro), .int sl])), (a1, .inl (cI, 48, .inl th)), (a2, .inl (cI, 48, .inl ow)), (d0, .inr (3, [.ref d1, .ref d2, .int u.2.2.1, .int u.2.2.2])), (d1, .inl (cI, 8, .inl u.1)), (d2, .inl (cI, 8, .inl u.2.1))]) : J X 9 0 0 0 [(0, .ref y0), (1, .ref a0), (2, .ref d0), (3, .int (nI p0))] [] [(y0, .inr (4, [.int cd, .int tk])), (a0, .inr (0, [.ref a1, .ref a2, .int (nI co), .int (nI ro), .int sl])), (a1, .inl (cI, 48, .inl th)), (a2, .inl (cI, 48, .inl ow)), (d0, .inr (3, [.ref d1, .ref d2, .int len, .int en])), (d1, .inl (cI, 8, .inl ce)), (d2, .inl (cI, 8, .inl se))] := by
  refine J_iconst h (v := nI 0) dX4_firstThatStops_0 (by decide) ?_
  refine J_istore h (lv' := [(4, .int (nI 0)), (0, .ref y0), (1, .ref a0), (2, .ref d0), (3, .int (nI p0))]) dX4_firstThatStops_1 (by decide) rfl ?_
  refine J.loc [1, 2, 3, 4, 0] (lv' := [(0, .ref y0), (1, .ref a0), (2, .ref d0), (3, .int (nI p0)), (4, .int (nI 0))]) rfl ?_
  exact w_X4_firstThatStopsS_3 X h y0 cd tk a0 a1 a2 th ow co ro sl d0 d1 d2 ce se len en p0 hrc hco hro hp0 hR  (co - 0 + 1) 0 ce se len en (by first | assumption | omega | rfl) (by intro k hk; omega) (by omega)
theorem c_X4_firstThatStopsS (l : Launch) (D : va_G) (cI cE : ClassId) (y0 : Nat) (cd : Int32) (tk : Int32) (a0 : Nat) (a1 : Nat) (a2 : Nat) (th : Nat → Int32) (ow : Nat → Int32) (co : Nat) (ro : Nat) (sl : Int32) (d0 : Nat) (d1 : Nat) (d2 : Nat) (ce : Nat → Int32) (se : Nat → Int32) (len : Int32) (en : Int32) (p0 : Nat) (hrc : ro * co ≤ 48) (hco : co ≤ 6) (hro : ro ≤ 8) (hp0 : p0 < 48) : Ci l D cI cE yX4_firstThatStops cX4_firstThatStops 9 (some .int) 3 0 0 [.ref y0, .ref a0, .ref d0, .int (nI p0)] [(y0, .inr (4, [.int cd, .int tk])), (a0, .inr (0, [.ref a1, .ref a2, .int (nI co), .int (nI ro), .int sl])), (a1, .inl (cI, 48, .inl th)), (a2, .inl (cI, 48, .inl ow)), (d0, .inr (3, [.ref d1, .ref d2, .int len, .int en])), (d1, .inl (cI, 8, .inl ce)), (d2, .inl (cI, 8, .inl se))] (fun (r : Int32) (u : (Nat → Int32) × (Nat → Int32) × (Int32) × (Int32)) => ((aimR th co ro p0 = r) ∧ (True))) (fun (u : (Nat → Int32) × (Nat → Int32) × (Int32) × (Int32)) => ([(y0, .inr (4, [.int cd, .int tk])), (a0, .inr (0, [.ref a1, .ref a2, .int (nI co), .int (nI ro), .int sl])), (a1, .inl (cI, 48, .inl th)), (a2, .inl (cI, 48, .inl ow)), (d0, .inr (3, [.ref d1, .ref d2, .int u.2.2.1, .int u.2.2.2])), (d1, .inl (cI, 8, .inl u.1)), (d2, .inl (cI, 8, .inl u.2.1))] : va_W)) :=
  Ci.of (by decide) (Nat.le_of_ble_eq_true rfl) (fun _ _ _ => rfl) (fun X h hR => w_X4_firstThatStopsS X h y0 cd tk a0 a1 a2 th ow co ro sl d0 d1 d2 ce se len en p0 hrc hco hro hp0 hR)
set_option maxRecDepth 100000 in
set_option maxHeartbeats 4000000 in
theorem w_X8_aimS (X : Cx) {cI cE : ClassId} (h : Ok X cX8_aim RX8 2 cI cE 4 0 0) (z0 : Nat) (g0 : Nat) (a0 : Nat) (f0 : Nat) (s0 : Nat) (k0 : Nat) (v0 : Nat) (d0 : Nat) (y0 : Nat) (m0 : Nat) (o0 : Nat) (a1 : Nat) (a2 : Nat) (th : Nat → Int32) (ow : Nat → Int32) (co : Nat) (ro : Nat) (sl : Int32) (cd : Int32) (tk : Int32) (d1 : Nat) (d2 : Nat) (ce : Nat → Int32) (se : Nat → Int32) (len : Int32) (en : Int32) (p0 : Int32) (hrc : ro * co ≤ 48) (hco : co ≤ 6) (hro : ro ≤ 8) (hR : ∀ (r : Int32) (u : (Nat → Int32) × (Nat → Int32) × (Int32) × (Int32)), ((fAim th co ro p0 = r) ∧ (True)) → RetI X cX8_aim 2 0 0 r [(z0, .inr (8, [.ref g0, .ref a0, .ref f0, .ref s0, .ref k0, .ref v0, .ref d0, .ref y0, .ref m0, .ref o0])), (a0, .inr (0, [.ref a1, .ref a2, .int (nI co), .int (nI ro), .int sl])), (a1, .inl (cI, 48, .inl th)), (a2, .inl (cI, 48, .inl ow)), (y0, .inr (4, [.int cd, .int tk])), (d0, .inr (3, [.ref d1, .ref d2, .int u.2.2.1, .int u.2.2.2])), (d1, .inl (cI, 8, .inl u.1)), (d2, .inl (cI, 8, .inl u.2.1))]) : J X 2 0 0 0 [(0, .ref z0), (1, .int p0)] [] [(z0, .inr (8, [.ref g0, .ref a0, .ref f0, .ref s0, .ref k0, .ref v0, .ref d0, .ref y0, .ref m0, .ref o0])), (a0, .inr (0, [.ref a1, .ref a2, .int (nI co), .int (nI ro), .int sl])), (a1, .inl (cI, 48, .inl th)), (a2, .inl (cI, 48, .inl ow)), (y0, .inr (4, [.int cd, .int tk])), (d0, .inr (3, [.ref d1, .ref d2, .int len, .int en])), (d1, .inl (cI, 8, .inl ce)), (d2, .inl (cI, 8, .inl se))] := by
  refine J_aload_n h (i := 0) dX8_aim_0 rfl 0 rfl ?_
  refine J_get h inX8 rfl 0 1 (by decide) rfl rfl nf_X8_19 dX8_aim_1 ?_
  refine J_iload_n h (i := 1) dX8_aim_4 rfl 1 rfl ?_
  refine J.wld [1, 2, 3, 0, 4, 5, 6, 7] (ws' := [(a0, .inr (0, [.ref a1, .ref a2, .int (nI co), .int (nI ro), .int sl])), (a1, .inl (cI, 48, .inl th)), (a2, .inl (cI, 48, .inl ow)), (z0, .inr (8, [.ref g0, .ref a0, .ref f0, .ref s0, .ref k0, .ref v0, .ref d0, .ref y0, .ref m0, .ref o0])), (y0, .inr (4, [.int cd, .int tk])), (d0, .inr (3, [.ref d1, .ref d2, .int len, .int en])), (d1, .inl (cI, 8, .inl ce)), (d2, .inl (cI, 8, .inl se))]) rfl rfl ?_
  refine K_vi h (wr := [(z0, .inr (8, [.ref g0, .ref a0, .ref f0, .ref s0, .ref k0, .ref v0, .ref d0, .ref y0, .ref m0, .ref o0])), (y0, .inr (4, [.int cd, .int tk])), (d0, .inr (3, [.ref d1, .ref d2, .int len, .int en])), (d1, .inl (cI, 8, .inl ce)), (d2, .inl (cI, 8, .inl se))]) (c_X0_hasCell (xl X) (xD X) cI cE a0 a1 a2 th ow co ro sl p0 (by first | exact hrc |  assumption | omega | rfl)) yv_X0_hasCell nm_X8_114 (by decide) (by decide) rfl rfl 0 rfl rfl rfl rfl (Nat.le_of_ble_eq_true rfl) (Nat.le_refl _) (Nat.le_refl _) dX8_aim_5 (fun r_5 u_5 p_5 => ?_)
  rcases p_5 with p_5 | p_5
  · obtain ⟨j_5, rfl, f0_5, rfl, -⟩ := p_5
    show J X 2 0 0 8 [(0, .ref z0), (1, .int (nI j_5))] [.int (nI 1)] [(a0, .inr (0, [.ref a1, .ref a2, .int (nI co), .int (nI ro), .int sl])), (a1, .inl (cI, 48, .inl th)), (a2, .inl (cI, 48, .inl ow)), (z0, .inr (8, [.ref g0, .ref a0, .ref f0, .ref s0, .ref k0, .ref v0, .ref d0, .ref y0, .ref m0, .ref o0])), (y0, .inr (4, [.int cd, .int tk])), (d0, .inr (3, [.ref d1, .ref d2, .int len, .int en])), (d1, .inl (cI, 8, .inl ce)), (d2, .inl (cI, 8, .inl se))]
    refine J_if_ne h 13 dX8_aim_8 (by decide) (fun _ => ?_) (fun z => absurd z (by decide))
    refine J_aload_n h (i := 0) dX8_aim_13 rfl 0 rfl ?_
    refine J_get h inX8 rfl 3 7 (by decide) rfl rfl nf_X8_55 dX8_aim_14 ?_
    refine J_aload_n h (i := 0) dX8_aim_17 rfl 0 rfl ?_
    refine J_get h inX8 rfl 3 1 (by decide) rfl rfl nf_X8_19 dX8_aim_18 ?_
    refine J_aload_n h (i := 0) dX8_aim_21 rfl 0 rfl ?_
    refine J_get h inX8 rfl 3 6 (by decide) rfl rfl nf_X8_48 dX8_aim_22 ?_
    refine J_iload_n h (i := 1) dX8_aim_25 rfl 1 rfl ?_
    refine J.wld [4, 0, 1, 2, 5, 6, 7, 3] (ws' := [(y0, .inr (4, [.int cd, .int tk])), (a0, .inr (0, [.ref a1, .ref a2, .int (nI co), .int (nI ro), .int sl])), (a1, .inl (cI, 48, .inl th)), (a2, .inl (cI, 48, .inl ow)), (d0, .inr (3, [.ref d1, .ref d2, .int len, .int en])), (d1, .inl (cI, 8, .inl ce)), (d2, .inl (cI, 8, .inl se)), (z0, .inr (8, [.ref g0, .ref a0, .ref f0, .ref s0, .ref k0, .ref v0, .ref d0, .ref y0, .ref m0, .ref o0]))]) rfl rfl ?_
    refine K_vi h (wr := [(z0, .inr (8, [.ref g0, .ref a0, .ref f0, .ref s0, .ref k0, .ref v0, .ref d0, .ref y0, .ref m0, .ref o0]))]) (c_X4_firstThatStopsS (xl X) (xD X) cI cE y0 cd tk a0 a1 a2 th ow co ro sl d0 d1 d2 ce se len en j_5 (by first | exact hrc |  assumption | omega | rfl) (by first | exact hco |  assumption | omega | rfl) (by first | exact hro |  assumption | omega | rfl) (by first | assumption | omega | rfl)) yv_X4_firstThatStops nm_X8_189 (by decide) (by decide) rfl rfl 0 rfl rfl rfl rfl (Nat.le_of_ble_eq_true rfl) (Nat.le_refl _) (Nat.le_refl _) dX8_aim_26 (fun r_26 u_26 p_26 => ?_)
    obtain ⟨ce2_26, se2_26, ln2_26, en2_26⟩ := u_26
    try dsimp only at p_26
    obtain ⟨rfl, -⟩ := p_26
    show J X 2 0 0 29 [(0, .ref z0), (1, .int (nI j_5))] [.int (aimR th co ro j_5)] [(y0, .inr (4, [.int cd, .int tk])), (a0, .inr (0, [.ref a1, .ref a2, .int (nI co), .int (nI ro), .int sl])), (a1, .inl (cI, 48, .inl th)), (a2, .inl (cI, 48, .inl ow)), (d0, .inr (3, [.ref d1, .ref d2, .int ln2_26, .int en2_26])), (d1, .inl (cI, 8, .inl ce2_26)), (d2, .inl (cI, 8, .inl se2_26)), (z0, .inr (8, [.ref g0, .ref a0, .ref f0, .ref s0, .ref k0, .ref v0, .ref d0, .ref y0, .ref m0, .ref o0]))]
    refine J.wld [7, 1, 2, 3, 0, 4, 5, 6] (ws' := [(z0, .inr (8, [.ref g0, .ref a0, .ref f0, .ref s0, .ref k0, .ref v0, .ref d0, .ref y0, .ref m0, .ref o0])), (a0, .inr (0, [.ref a1, .ref a2, .int (nI co), .int (nI ro), .int sl])), (a1, .inl (cI, 48, .inl th)), (a2, .inl (cI, 48, .inl ow)), (y0, .inr (4, [.int cd, .int tk])), (d0, .inr (3, [.ref d1, .ref d2, .int ln2_26, .int en2_26])), (d1, .inl (cI, 8, .inl ce2_26)), (d2, .inl (cI, 8, .inl se2_26))]) rfl rfl ?_
    exact hR (aimR th co ro j_5) (ce2_26, se2_26, ln2_26, en2_26) (⟨(by (try dsimp only); exact fAim_in (by omega) hrc), trivial⟩) 29 _ dX8_aim_29
  · obtain ⟨rfl, f0_5, -⟩ := p_5
    show J X 2 0 0 8 [(0, .ref z0), (1, .int p0)] [.int (nI 0)] [(a0, .inr (0, [.ref a1, .ref a2, .int (nI co), .int (nI ro), .int sl])), (a1, .inl (cI, 48, .inl th)), (a2, .inl (cI, 48, .inl ow)), (z0, .inr (8, [.ref g0, .ref a0, .ref f0, .ref s0, .ref k0, .ref v0, .ref d0, .ref y0, .ref m0, .ref o0])), (y0, .inr (4, [.int cd, .int tk])), (d0, .inr (3, [.ref d1, .ref d2, .int len, .int en])), (d1, .inl (cI, 8, .inl ce)), (d2, .inl (cI, 8, .inl se))]
    refine J_if_ne h 13 dX8_aim_8 (by decide) (fun z => absurd z (by decide)) (fun _ => ?_)
    refine J_iconst h (v := (-1)) dX8_aim_11 (by decide) ?_
    refine J.wld [3, 0, 1, 2, 4, 5, 6, 7] (ws' := [(z0, .inr (8, [.ref g0, .ref a0, .ref f0, .ref s0, .ref k0, .ref v0, .ref d0, .ref y0, .ref m0, .ref o0])), (a0, .inr (0, [.ref a1, .ref a2, .int (nI co), .int (nI ro), .int sl])), (a1, .inl (cI, 48, .inl th)), (a2, .inl (cI, 48, .inl ow)), (y0, .inr (4, [.int cd, .int tk])), (d0, .inr (3, [.ref d1, .ref d2, .int len, .int en])), (d1, .inl (cI, 8, .inl ce)), (d2, .inl (cI, 8, .inl se))]) rfl rfl ?_
    exact hR ((-1)) (ce, se, len, en) (⟨(by (try dsimp only); unfold fAim; rw [if_neg (by omega)]), trivial⟩) 12 _ dX8_aim_12
theorem c_X8_aimS (l : Launch) (D : va_G) (cI cE : ClassId) (z0 : Nat) (g0 : Nat) (a0 : Nat) (f0 : Nat) (s0 : Nat) (k0 : Nat) (v0 : Nat) (d0 : Nat) (y0 : Nat) (m0 : Nat) (o0 : Nat) (a1 : Nat) (a2 : Nat) (th : Nat → Int32) (ow : Nat → Int32) (co : Nat) (ro : Nat) (sl : Int32) (cd : Int32) (tk : Int32) (d1 : Nat) (d2 : Nat) (ce : Nat → Int32) (se : Nat → Int32) (len : Int32) (en : Int32) (p0 : Int32) (hrc : ro * co ≤ 48) (hco : co ≤ 6) (hro : ro ≤ 8) : Ci l D cI cE yX8_aim cX8_aim 2 (some .int) 4 0 0 [.ref z0, .int p0] [(z0, .inr (8, [.ref g0, .ref a0, .ref f0, .ref s0, .ref k0, .ref v0, .ref d0, .ref y0, .ref m0, .ref o0])), (a0, .inr (0, [.ref a1, .ref a2, .int (nI co), .int (nI ro), .int sl])), (a1, .inl (cI, 48, .inl th)), (a2, .inl (cI, 48, .inl ow)), (y0, .inr (4, [.int cd, .int tk])), (d0, .inr (3, [.ref d1, .ref d2, .int len, .int en])), (d1, .inl (cI, 8, .inl ce)), (d2, .inl (cI, 8, .inl se))] (fun (r : Int32) (u : (Nat → Int32) × (Nat → Int32) × (Int32) × (Int32)) => ((fAim th co ro p0 = r) ∧ (True))) (fun (u : (Nat → Int32) × (Nat → Int32) × (Int32) × (Int32)) => ([(z0, .inr (8, [.ref g0, .ref a0, .ref f0, .ref s0, .ref k0, .ref v0, .ref d0, .ref y0, .ref m0, .ref o0])), (a0, .inr (0, [.ref a1, .ref a2, .int (nI co), .int (nI ro), .int sl])), (a1, .inl (cI, 48, .inl th)), (a2, .inl (cI, 48, .inl ow)), (y0, .inr (4, [.int cd, .int tk])), (d0, .inr (3, [.ref d1, .ref d2, .int u.2.2.1, .int u.2.2.2])), (d1, .inl (cI, 8, .inl u.1)), (d2, .inl (cI, 8, .inl u.2.1))] : va_W)) :=
  Ci.of (by decide) (Nat.le_of_ble_eq_true rfl) (fun _ _ _ => rfl) (fun X h hR => w_X8_aimS X h z0 g0 a0 f0 s0 k0 v0 d0 y0 m0 o0 a1 a2 th ow co ro sl cd tk d1 d2 ce se len en p0 hrc hco hro hR)
set_option maxRecDepth 100000 in
set_option maxHeartbeats 4000000 in
theorem w_X9_aimS_13 (X : Cx) {cI cE : ClassId} (h : Ok X cX9_aim RX9 6 cI cE 3 0 0) (q0 : Nat) (q3 : Nat) (q4 : Nat) (q6 : Nat) (q7 : Nat) (q8 : Nat) (q9 : Nat) (q14 : Nat) (q15 : Nat) (q17 : Nat) (q18 : Nat) (q19 : Nat) (q23 : Nat) (q24 : Nat) (q25 : Nat) (ro : Nat) (co : Nat) (sl : Int32) (sn : Int32) (ts : Int32) (ra : Int32) (rr : Int32) (rw : Int32) (rn : Int32) (um : Int32) (bs : Int32) (bh : Int32) (km : Int32) (th : Nat → Int32) (mo : Nat → Int32) (ce : Nat → Int32) (se : Nat → Int32) (cth : Nat → Int32) (cow : Nat → Int32) (p0 : Int32) (hrc : ro * co ≤ 48) (hco : co ≤ 6) (hro : ro ≤ 8) (hrel : rel (ro * co) th mo cth cow) (hR : ∀ (r : Int32) (u : (Nat → Int32) × (Nat → Int32)), ((fAim cth co ro p0 = r) ∧ (True)) → RetI X cX9_aim 6 0 0 r [(q0, .inr (9, [.int (nI ro), .int (nI co), .int sl, .ref q3, .ref q4, .int sn, .ref q6, .ref q7, .ref q8, .ref q9, .int ts, .int ra, .int rr, .int rw, .ref q14, .ref q15, .int rn, .ref q17, .ref q18, .ref q19, .int um, .int bs, .int bh, .ref q23, .ref q24, .ref q25, .int km])), (q3, .inl (cI, 48, .inl th)), (q4, .inl (cI, 48, .inl mo)), (q17, .inl (cI, 8, .inl u.1)), (q18, .inl (cI, 8, .inl u.2))]) : ∀ (n_13 : Nat) (c : Nat) (jc : Nat) (ce1 : Nat → Int32) (se1 : Nat → Int32), (100 ≤ c ∧ c ≤ 60000) → (jc < ro * co) → (p0 = nI jc) → (∀ k, k < c → aimP cth co ro jc k = false) → 60000 - c < n_13 → J X 6 0 0 13 [(0, .ref q0), (1, .int (nI jc)), (2, .int (nI c))] [] [(q0, .inr (9, [.int (nI ro), .int (nI co), .int sl, .ref q3, .ref q4, .int sn, .ref q6, .ref q7, .ref q8, .ref q9, .int ts, .int ra, .int rr, .int rw, .ref q14, .ref q15, .int rn, .ref q17, .ref q18, .ref q19, .int um, .int bs, .int bh, .ref q23, .ref q24, .ref q25, .int km])), (q3, .inl (cI, 48, .inl th)), (q4, .inl (cI, 48, .inl mo)), (q17, .inl (cI, 8, .inl ce1)), (q18, .inl (cI, 8, .inl se1))] := by
  intro n_13
  induction n_13 with
  | zero => intro c jc ce1 se1 hc hjc e0 hno hn_; exact absurd hn_ (Nat.not_lt_zero _)
  | succ n_13 ih_13 =>
    intro c jc ce1 se1 hc hjc e0 hno hn_13
    refine J_iload_n h (i := 2) dX9_aim_13 rfl 2 rfl ?_
    refine J_sipush h (v := nI 10000) dX9_aim_14 (by decide) ?_
    refine J_aload_n h (i := 0) dX9_aim_17 rfl 0 rfl ?_
    refine J_get h inX9 rfl 0 1 (by decide) rfl rfl nf_X9_52 dX9_aim_18 ?_
    refine N_imul h dX9_aim_21 ?_
    refine N_icmp_ge h 79 dX9_aim_22 (by decide) (by omega) (by omega) (fun c_22 => ?_) (fun c_22 => ?_)
    · skip
      refine J_bipush h (v := (-4)) dX9_aim_79 (by decide) ?_
      exact hR ((-4)) (ce1, se1) (⟨(by (try dsimp only); rw [e0, fAim_in hjc hrc]; exact aimR_no (fun k hk => hno k (by omega))), trivial⟩) 81 _ dX9_aim_81
    · skip
      refine J_iload_n h (i := 2) dX9_aim_25 rfl 2 rfl ?_
      refine J_sipush h (v := nI 10000) dX9_aim_26 (by decide) ?_
      refine N_idiv h (by omega) (by omega) (by omega) dX9_aim_29 ?_
      refine J_istore_n h (i := 3) (lv' := [(3, .int (nI (c / 10000))), (0, .ref q0), (1, .int (nI jc)), (2, .int (nI c))]) dX9_aim_30 rfl (by decide) rfl ?_
      refine J_iload_n h (i := 2) dX9_aim_31 rfl 3 rfl ?_
      refine J_bipush h (v := nI 100) dX9_aim_32 (by decide) ?_
      refine N_idiv h (by omega) (by omega) (by omega) dX9_aim_34 ?_
      refine J_bipush h (v := nI 100) dX9_aim_35 (by decide) ?_
      refine N_irem h (by omega) (by omega) (by omega) dX9_aim_37 ?_
      refine J_istore h (lv' := [(4, .int (nI ((c / 100) % 100))), (3, .int (nI (c / 10000))), (0, .ref q0), (1, .int (nI jc)), (2, .int (nI c))]) dX9_aim_38 (by decide) rfl ?_
      refine J_iload_n h (i := 2) dX9_aim_40 rfl 4 rfl ?_
      refine J_bipush h (v := nI 100) dX9_aim_41 (by decide) ?_
      refine N_irem h (by omega) (by omega) (by omega) dX9_aim_43 ?_
      refine J_istore h (lv' := [(5, .int (nI (c % 100))), (4, .int (nI ((c / 100) % 100))), (3, .int (nI (c / 10000))), (0, .ref q0), (1, .int (nI jc)), (2, .int (nI c))]) dX9_aim_44 (by decide) rfl ?_
      refine J_aload_n h (i := 0) dX9_aim_46 rfl 3 rfl ?_
      refine J_iload_n h (i := 3) dX9_aim_47 rfl 2 rfl ?_
      refine J_iload h dX9_aim_48 1 rfl ?_
      refine J_iload h dX9_aim_50 0 rfl ?_
      refine K_vi h (wr := [(q3, .inl (cI, 48, .inl th)), (q4, .inl (cI, 48, .inl mo)), (q17, .inl (cI, 8, .inl ce1)), (q18, .inl (cI, 8, .inl se1))]) (c_X9_isSlideN (xl X) (xD X) cI cE q0 q3 q4 q6 q7 q8 q9 q14 q15 q17 q18 q19 q23 q24 q25 ro co sl sn ts ra rr rw rn um bs bh km (c / 10000) ((c / 100) % 100) (c % 100) (by first | exact hco |  assumption | omega | rfl) (by first | assumption | omega | rfl) (by first | assumption | omega | rfl) (by first | assumption | omega | rfl)) yv_X9_isSlide nm_X9_134 (by decide) (by decide) rfl rfl 0 rfl rfl rfl rfl (Nat.le_of_ble_eq_true rfl) (Nat.le_refl _) (Nat.le_refl _) dX9_aim_52 (fun r_52 u_52 p_52 => ?_)
      rcases p_52 with p_52 | p_52
      · obtain ⟨rfl, f0_52, -⟩ := p_52
        show J X 6 0 0 55 [(5, .int (nI (c % 100))), (4, .int (nI ((c / 100) % 100))), (3, .int (nI (c / 10000))), (0, .ref q0), (1, .int (nI jc)), (2, .int (nI c))] [.int (nI 1)] [(q0, .inr (9, [.int (nI ro), .int (nI co), .int sl, .ref q3, .ref q4, .int sn, .ref q6, .ref q7, .ref q8, .ref q9, .int ts, .int ra, .int rr, .int rw, .ref q14, .ref q15, .int rn, .ref q17, .ref q18, .ref q19, .int um, .int bs, .int bh, .ref q23, .ref q24, .ref q25, .int km])), (q3, .inl (cI, 48, .inl th)), (q4, .inl (cI, 48, .inl mo)), (q17, .inl (cI, 8, .inl ce1)), (q18, .inl (cI, 8, .inl se1))]
        refine J_if_eq h 73 dX9_aim_55 (by decide) (fun z => absurd z (by decide)) (fun _ => ?_)
        refine J_aload_n h (i := 0) dX9_aim_58 rfl 3 rfl ?_
        refine J_iload_n h (i := 3) dX9_aim_59 rfl 2 rfl ?_
        refine J_iload h dX9_aim_60 1 rfl ?_
        refine J_iload h dX9_aim_62 0 rfl ?_
        refine J.wld [0, 1, 3, 4, 2] (ws' := [(q0, .inr (9, [.int (nI ro), .int (nI co), .int sl, .ref q3, .ref q4, .int sn, .ref q6, .ref q7, .ref q8, .ref q9, .int ts, .int ra, .int rr, .int rw, .ref q14, .ref q15, .int rn, .ref q17, .ref q18, .ref q19, .int um, .int bs, .int bh, .ref q23, .ref q24, .ref q25, .int km])), (q3, .inl (cI, 48, .inl th)), (q17, .inl (cI, 8, .inl ce1)), (q18, .inl (cI, 8, .inl se1)), (q4, .inl (cI, 48, .inl mo))]) rfl rfl ?_
        refine K_vi h (wr := [(q4, .inl (cI, 48, .inl mo))]) (c_X9_goes (xl X) (xD X) cI cE q0 q3 q4 q6 q7 q8 q9 q14 q15 q17 q18 q19 q23 q24 q25 ro co sl sn ts ra rr rw rn um bs bh km th ce1 se1 cth (c / 10000) ((c / 100) % 100) (c % 100) (by first | exact hrc |  assumption | omega | rfl) (by first | exact hco |  assumption | omega | rfl) (by first | exact hro |  assumption | omega | rfl) (by first | assumption | omega | rfl) (by first | assumption | omega | rfl) (by first | assumption | omega | rfl) (by exact rel_T hrel)) yv_X9_goes nm_X9_137 (by decide) (by decide) rfl rfl 0 rfl rfl rfl rfl (Nat.le_of_ble_eq_true rfl) (Nat.le_refl _) (Nat.le_refl _) dX9_aim_64 (fun r_64 u_64 p_64 => ?_)
        obtain ⟨ce2_64, se2_64⟩ := u_64
        try dsimp only at p_64
        obtain ⟨rfl, f0_64, f1_64, f2_64, f3_64, -⟩ := p_64
        show J X 6 0 0 67 [(5, .int (nI (c % 100))), (4, .int (nI ((c / 100) % 100))), (3, .int (nI (c / 10000))), (0, .ref q0), (1, .int (nI jc)), (2, .int (nI c))] [.int (nI (ren cth co ro (c % 100) (c / 10000) ((c / 100) % 100)))] [(q0, .inr (9, [.int (nI ro), .int (nI co), .int sl, .ref q3, .ref q4, .int sn, .ref q6, .ref q7, .ref q8, .ref q9, .int ts, .int ra, .int rr, .int rw, .ref q14, .ref q15, .int rn, .ref q17, .ref q18, .ref q19, .int um, .int bs, .int bh, .ref q23, .ref q24, .ref q25, .int km])), (q3, .inl (cI, 48, .inl th)), (q17, .inl (cI, 8, .inl ce2_64)), (q18, .inl (cI, 8, .inl se2_64)), (q4, .inl (cI, 48, .inl mo))]
        have hrn := ren_lt cth (ro := ro) (hh := c % 100) (x0 := c / 10000) (w := c / 100 % 100) hrc (by omega) (by omega)
        refine J_iload_n h (i := 1) dX9_aim_67 rfl 4 rfl ?_
        refine N_icmp_ne h 73 dX9_aim_68 (by decide) (by omega) (by omega) (fun c_68 => ?_) (fun c_68 => ?_)
        · skip
          refine J_iinc h (v := nI (c + 1)) (lv' := [(2, .int (nI (c + 1))), (5, .int (nI (c % 100))), (4, .int (nI ((c / 100) % 100))), (3, .int (nI (c / 10000))), (0, .ref q0), (1, .int (nI jc))]) dX9_aim_73 5 rfl (inc_ok _ 1) (by decide) rfl ?_
          refine J_goto h 13 dX9_aim_76 (by decide) ?_
          refine J.wld [0, 1, 4, 2, 3] (ws' := [(q0, .inr (9, [.int (nI ro), .int (nI co), .int sl, .ref q3, .ref q4, .int sn, .ref q6, .ref q7, .ref q8, .ref q9, .int ts, .int ra, .int rr, .int rw, .ref q14, .ref q15, .int rn, .ref q17, .ref q18, .ref q19, .int um, .int bs, .int bh, .ref q23, .ref q24, .ref q25, .int km])), (q3, .inl (cI, 48, .inl th)), (q4, .inl (cI, 48, .inl mo)), (q17, .inl (cI, 8, .inl ce2_64)), (q18, .inl (cI, 8, .inl se2_64))]) rfl rfl ?_
          refine J.loc [4, 5, 0] (lv' := [(0, .ref q0), (1, .int (nI jc)), (2, .int (nI (c + 1)))]) rfl ?_
          exact ih_13 (c + 1) jc ce2_64 se2_64 (by first | exact hc |  assumption | omega | rfl) (by first | exact hjc |  assumption | omega | rfl) (by first | exact e0 |  assumption | omega | rfl) (by first | exact lt_s hno (decide_eq_false (fun z => f0_52 z.1)) | exact lt_s hno (decide_eq_false (fun z => c_68 z.2))) (by omega)
        · skip
          refine J_iload_n h (i := 2) dX9_aim_71 rfl 5 rfl ?_
          refine J.wld [0, 1, 4, 2, 3] (ws' := [(q0, .inr (9, [.int (nI ro), .int (nI co), .int sl, .ref q3, .ref q4, .int sn, .ref q6, .ref q7, .ref q8, .ref q9, .int ts, .int ra, .int rr, .int rw, .ref q14, .ref q15, .int rn, .ref q17, .ref q18, .ref q19, .int um, .int bs, .int bh, .ref q23, .ref q24, .ref q25, .int km])), (q3, .inl (cI, 48, .inl th)), (q4, .inl (cI, 48, .inl mo)), (q17, .inl (cI, 8, .inl ce2_64)), (q18, .inl (cI, 8, .inl se2_64))]) rfl rfl ?_
          exact hR (nI c) (ce2_64, se2_64) (⟨(by (try dsimp only); rw [e0, fAim_in hjc hrc]; exact aimR_yes hno (decide_eq_true ⟨f0_52, c_68⟩) (by omega)), trivial⟩) 72 _ dX9_aim_72
      · obtain ⟨rfl, f0_52, -⟩ := p_52
        show J X 6 0 0 55 [(5, .int (nI (c % 100))), (4, .int (nI ((c / 100) % 100))), (3, .int (nI (c / 10000))), (0, .ref q0), (1, .int (nI jc)), (2, .int (nI c))] [.int (nI 0)] [(q0, .inr (9, [.int (nI ro), .int (nI co), .int sl, .ref q3, .ref q4, .int sn, .ref q6, .ref q7, .ref q8, .ref q9, .int ts, .int ra, .int rr, .int rw, .ref q14, .ref q15, .int rn, .ref q17, .ref q18, .ref q19, .int um, .int bs, .int bh, .ref q23, .ref q24, .ref q25, .int km])), (q3, .inl (cI, 48, .inl th)), (q4, .inl (cI, 48, .inl mo)), (q17, .inl (cI, 8, .inl ce1)), (q18, .inl (cI, 8, .inl se1))]
        refine J_if_eq h 73 dX9_aim_55 (by decide) (fun _ => ?_) (fun z => absurd z (by decide))
        refine J_iinc h (v := nI (c + 1)) (lv' := [(2, .int (nI (c + 1))), (5, .int (nI (c % 100))), (4, .int (nI ((c / 100) % 100))), (3, .int (nI (c / 10000))), (0, .ref q0), (1, .int (nI jc))]) dX9_aim_73 5 rfl (inc_ok _ 1) (by decide) rfl ?_
        refine J_goto h 13 dX9_aim_76 (by decide) ?_
        refine J.loc [4, 5, 0] (lv' := [(0, .ref q0), (1, .int (nI jc)), (2, .int (nI (c + 1)))]) rfl ?_
        exact ih_13 (c + 1) jc ce1 se1 (by first | exact hc |  assumption | omega | rfl) (by first | exact hjc |  assumption | omega | rfl) (by first | exact e0 |  assumption | omega | rfl) (by first | exact lt_s hno (decide_eq_false (fun z => f0_52 z.1)) | exact lt_s hno (decide_eq_false (fun z => c_68 z.2))) (by omega)
set_option maxRecDepth 100000 in
set_option maxHeartbeats 4000000 in
theorem w_X9_aimS (X : Cx) {cI cE : ClassId} (h : Ok X cX9_aim RX9 6 cI cE 3 0 0) (q0 : Nat) (q3 : Nat) (q4 : Nat) (q6 : Nat) (q7 : Nat) (q8 : Nat) (q9 : Nat) (q14 : Nat) (q15 : Nat) (q17 : Nat) (q18 : Nat) (q19 : Nat) (q23 : Nat) (q24 : Nat) (q25 : Nat) (ro : Nat) (co : Nat) (sl : Int32) (sn : Int32) (ts : Int32) (ra : Int32) (rr : Int32) (rw : Int32) (rn : Int32) (um : Int32) (bs : Int32) (bh : Int32) (km : Int32) (th : Nat → Int32) (mo : Nat → Int32) (ce : Nat → Int32) (se : Nat → Int32) (cth : Nat → Int32) (cow : Nat → Int32) (p0 : Int32) (hrc : ro * co ≤ 48) (hco : co ≤ 6) (hro : ro ≤ 8) (hrel : rel (ro * co) th mo cth cow) (hR : ∀ (r : Int32) (u : (Nat → Int32) × (Nat → Int32)), ((fAim cth co ro p0 = r) ∧ (True)) → RetI X cX9_aim 6 0 0 r [(q0, .inr (9, [.int (nI ro), .int (nI co), .int sl, .ref q3, .ref q4, .int sn, .ref q6, .ref q7, .ref q8, .ref q9, .int ts, .int ra, .int rr, .int rw, .ref q14, .ref q15, .int rn, .ref q17, .ref q18, .ref q19, .int um, .int bs, .int bh, .ref q23, .ref q24, .ref q25, .int km])), (q3, .inl (cI, 48, .inl th)), (q4, .inl (cI, 48, .inl mo)), (q17, .inl (cI, 8, .inl u.1)), (q18, .inl (cI, 8, .inl u.2))]) : J X 6 0 0 0 [(0, .ref q0), (1, .int p0)] [] [(q0, .inr (9, [.int (nI ro), .int (nI co), .int sl, .ref q3, .ref q4, .int sn, .ref q6, .ref q7, .ref q8, .ref q9, .int ts, .int ra, .int rr, .int rw, .ref q14, .ref q15, .int rn, .ref q17, .ref q18, .ref q19, .int um, .int bs, .int bh, .ref q23, .ref q24, .ref q25, .int km])), (q3, .inl (cI, 48, .inl th)), (q4, .inl (cI, 48, .inl mo)), (q17, .inl (cI, 8, .inl ce)), (q18, .inl (cI, 8, .inl se))] := by
  refine J_aload_n h (i := 0) dX9_aim_0 rfl 0 rfl ?_
  refine J_iload_n h (i := 1) dX9_aim_1 rfl 1 rfl ?_
  refine K_vi h (wr := [(q3, .inl (cI, 48, .inl th)), (q4, .inl (cI, 48, .inl mo)), (q17, .inl (cI, 8, .inl ce)), (q18, .inl (cI, 8, .inl se))]) (c_X9_isCell (xl X) (xD X) cI cE q0 q3 q4 q6 q7 q8 q9 q14 q15 q17 q18 q19 q23 q24 q25 ro co sl sn ts ra rr rw rn um bs bh km p0 (by first | exact hrc |  assumption | omega | rfl)) yv_X9_isCell nm_X9_131 (by decide) (by decide) rfl rfl 0 rfl rfl rfl rfl (Nat.le_of_ble_eq_true rfl) (Nat.le_refl _) (Nat.le_refl _) dX9_aim_2 (fun r_2 u_2 p_2 => ?_)
  rcases p_2 with p_2 | p_2
  · obtain ⟨j_2, rfl, f0_2, rfl, -⟩ := p_2
    show J X 6 0 0 5 [(0, .ref q0), (1, .int (nI j_2))] [.int (nI 1)] [(q0, .inr (9, [.int (nI ro), .int (nI co), .int sl, .ref q3, .ref q4, .int sn, .ref q6, .ref q7, .ref q8, .ref q9, .int ts, .int ra, .int rr, .int rw, .ref q14, .ref q15, .int rn, .ref q17, .ref q18, .ref q19, .int um, .int bs, .int bh, .ref q23, .ref q24, .ref q25, .int km])), (q3, .inl (cI, 48, .inl th)), (q4, .inl (cI, 48, .inl mo)), (q17, .inl (cI, 8, .inl ce)), (q18, .inl (cI, 8, .inl se))]
    refine J_if_ne h 10 dX9_aim_5 (by decide) (fun _ => ?_) (fun z => absurd z (by decide))
    refine J_bipush h (v := nI 100) dX9_aim_10 (by decide) ?_
    refine J_istore_n h (i := 2) (lv' := [(2, .int (nI 100)), (0, .ref q0), (1, .int (nI j_2))]) dX9_aim_12 rfl (by decide) rfl ?_
    refine J.loc [1, 2, 0] (lv' := [(0, .ref q0), (1, .int (nI j_2)), (2, .int (nI 100))]) rfl ?_
    exact w_X9_aimS_13 X h q0 q3 q4 q6 q7 q8 q9 q14 q15 q17 q18 q19 q23 q24 q25 ro co sl sn ts ra rr rw rn um bs bh km th mo ce se cth cow (nI j_2) hrc hco hro hrel hR  (60000 - 100 + 1) 100 j_2 ce se (by first | assumption | omega | rfl) (by first | assumption | omega | rfl) (by rfl) (by intro k hk; exact decide_eq_false (fun z => by have := z.1.2.1.1; omega)) (by omega)
  · obtain ⟨rfl, f0_2, -⟩ := p_2
    show J X 6 0 0 5 [(0, .ref q0), (1, .int p0)] [.int (nI 0)] [(q0, .inr (9, [.int (nI ro), .int (nI co), .int sl, .ref q3, .ref q4, .int sn, .ref q6, .ref q7, .ref q8, .ref q9, .int ts, .int ra, .int rr, .int rw, .ref q14, .ref q15, .int rn, .ref q17, .ref q18, .ref q19, .int um, .int bs, .int bh, .ref q23, .ref q24, .ref q25, .int km])), (q3, .inl (cI, 48, .inl th)), (q4, .inl (cI, 48, .inl mo)), (q17, .inl (cI, 8, .inl ce)), (q18, .inl (cI, 8, .inl se))]
    refine J_if_ne h 10 dX9_aim_5 (by decide) (fun z => absurd z (by decide)) (fun _ => ?_)
    refine J_iconst h (v := (-1)) dX9_aim_8 (by decide) ?_
    exact hR ((-1)) (ce, se) (⟨(by (try dsimp only); unfold fAim; rw [if_neg (by omega)]), trivial⟩) 9 _ dX9_aim_9
theorem c_X9_aimS (l : Launch) (D : va_G) (cI cE : ClassId) (q0 : Nat) (q3 : Nat) (q4 : Nat) (q6 : Nat) (q7 : Nat) (q8 : Nat) (q9 : Nat) (q14 : Nat) (q15 : Nat) (q17 : Nat) (q18 : Nat) (q19 : Nat) (q23 : Nat) (q24 : Nat) (q25 : Nat) (ro : Nat) (co : Nat) (sl : Int32) (sn : Int32) (ts : Int32) (ra : Int32) (rr : Int32) (rw : Int32) (rn : Int32) (um : Int32) (bs : Int32) (bh : Int32) (km : Int32) (th : Nat → Int32) (mo : Nat → Int32) (ce : Nat → Int32) (se : Nat → Int32) (cth : Nat → Int32) (cow : Nat → Int32) (p0 : Int32) (hrc : ro * co ≤ 48) (hco : co ≤ 6) (hro : ro ≤ 8) (hrel : rel (ro * co) th mo cth cow) : Ci l D cI cE yX9_aim cX9_aim 6 (some .int) 3 0 0 [.ref q0, .int p0] [(q0, .inr (9, [.int (nI ro), .int (nI co), .int sl, .ref q3, .ref q4, .int sn, .ref q6, .ref q7, .ref q8, .ref q9, .int ts, .int ra, .int rr, .int rw, .ref q14, .ref q15, .int rn, .ref q17, .ref q18, .ref q19, .int um, .int bs, .int bh, .ref q23, .ref q24, .ref q25, .int km])), (q3, .inl (cI, 48, .inl th)), (q4, .inl (cI, 48, .inl mo)), (q17, .inl (cI, 8, .inl ce)), (q18, .inl (cI, 8, .inl se))] (fun (r : Int32) (u : (Nat → Int32) × (Nat → Int32)) => ((fAim cth co ro p0 = r) ∧ (True))) (fun (u : (Nat → Int32) × (Nat → Int32)) => ([(q0, .inr (9, [.int (nI ro), .int (nI co), .int sl, .ref q3, .ref q4, .int sn, .ref q6, .ref q7, .ref q8, .ref q9, .int ts, .int ra, .int rr, .int rw, .ref q14, .ref q15, .int rn, .ref q17, .ref q18, .ref q19, .int um, .int bs, .int bh, .ref q23, .ref q24, .ref q25, .int km])), (q3, .inl (cI, 48, .inl th)), (q4, .inl (cI, 48, .inl mo)), (q17, .inl (cI, 8, .inl u.1)), (q18, .inl (cI, 8, .inl u.2))] : va_W)) :=
  Ci.of (by decide) (Nat.le_of_ble_eq_true rfl) (fun _ _ _ => rfl) (fun X h hR => w_X9_aimS X h q0 q3 q4 q6 q7 q8 q9 q14 q15 q17 q18 q19 q23 q24 q25 ro co sl sn ts ra rr rw rn um bs bh km th mo ce se cth cow p0 hrc hco hro hrel hR)
theorem fm_go {th ow : Nat → Int32} {co ro : Nat} {f cd tk : Int32} {its x w rl i mv : Nat} (hx : x < co) (hw : 1 ≤ w ∧ w ≤ 20) (hrl : EqN rl (rln th co ro 0 x w)) (hr8 : rl ≤ 8) (hi : i ≤ 2 * rl) (hm8 : mv ≤ 8) (hst : StC (gnB th ow co ro f its (10000 * x + 100 * w + hlim i rl)) cd tk) (hc : tk.toInt < ((mv : Nat) : Int)) (hmv : EqN mv (takM th ow co ro f its (hsA i rl) x w)) : StC (gnB th ow co ro f its (10000 * x + 100 * w + hlim (i + 1) rl)) (nI (10000 * x + 100 * w + hsA i rl)) (nI mv) := by
  have h1 := hsA_le hi
  have e := tkC_at (th := th) (ow := ow) (co := co) (ro := ro) (f := f) (its := its) (x := x) (w := w) (h := hsA i rl) (by omega) (by omega)
  rw [← hmv.eq] at e
  rw [hlim_s, ← e]
  rw [← e] at hc
  rw [← gn_to hx hw hrl hr8 hi] at hst
  exact stc_go (n := 10000 * x + 100 * w + hsA i rl) hst (vcB_at hx hw (hsA_vh hi hr8)) hc (by rw [e]; exact hm8)
theorem fm_stay {th ow : Nat → Int32} {co ro : Nat} {f cd tk : Int32} {its x w rl i mv : Nat} (hx : x < co) (hw : 1 ≤ w ∧ w ≤ 20) (hrl : EqN rl (rln th co ro 0 x w)) (hr8 : rl ≤ 8) (hi : i ≤ 2 * rl) (hm8 : mv ≤ 8) (hst : StC (gnB th ow co ro f its (10000 * x + 100 * w + hlim i rl)) cd tk) (hc : ((mv : Nat) : Int) ≤ tk.toInt) (hmv : EqN mv (takM th ow co ro f its (hsA i rl) x w)) : StC (gnB th ow co ro f its (10000 * x + 100 * w + hlim (i + 1) rl)) cd tk := by
  have h1 := hsA_le hi
  have e := tkC_at (th := th) (ow := ow) (co := co) (ro := ro) (f := f) (its := its) (x := x) (w := w) (h := hsA i rl) (by omega) (by omega)
  rw [← hmv.eq] at e
  rw [hlim_s]
  rw [← e] at hc
  rw [← gn_to hx hw hrl hr8 hi] at hst
  exact stc_stay (n := 10000 * x + 100 * w + hsA i rl) hst (vcB_at hx hw (hsA_vh hi hr8)) hc
set_option maxRecDepth 100000 in
set_option maxHeartbeats 4000000 in
theorem w_X4_findMostTakenS_53 (X : Cx) {cI cE : ClassId} (h : Ok X cX4_findMostTaken RX4 11 cI cE 3 0 0) (y0 : Nat) (cd : Int32) (tk : Int32) (a0 : Nat) (a1 : Nat) (a2 : Nat) (th : Nat → Int32) (ow : Nat → Int32) (co : Nat) (ro : Nat) (sl : Int32) (d0 : Nat) (d1 : Nat) (d2 : Nat) (ce : Nat → Int32) (se : Nat → Int32) (len : Int32) (en : Int32) (p0 : Int32) (its : Nat) (hrc : ro * co ≤ 48) (hco : co ≤ 6) (hro : ro ≤ 8) (hits : its < 2) (hR : ∀ (u : (Int32) × (Int32) × (Nat → Int32) × (Nat → Int32) × (Int32) × (Int32)), ((StC (gnB th ow co ro p0 its (10000 * co)) u.1 u.2.1) ∧ (True)) → RetV X cX4_findMostTaken 11 0 0 [(y0, .inr (4, [.int u.1, .int u.2.1])), (a0, .inr (0, [.ref a1, .ref a2, .int (nI co), .int (nI ro), .int sl])), (a1, .inl (cI, 48, .inl th)), (a2, .inl (cI, 48, .inl ow)), (d0, .inr (3, [.ref d1, .ref d2, .int u.2.2.2.2.1, .int u.2.2.2.2.2])), (d1, .inl (cI, 8, .inl u.2.2.1)), (d2, .inl (cI, 8, .inl u.2.2.2.1))]) (n_15 : Nat) (ih_15 : ∀ (x : Nat) (cd1 : Int32) (tk1 : Int32) (ce1 : Nat → Int32) (se1 : Nat → Int32) (ln1 : Int32) (en1 : Int32), (x ≤ co) → (StC (gnB th ow co ro p0 its (10000 * x)) cd1 tk1) → co - x < n_15 → J X 11 0 0 15 [(0, .ref y0), (1, .ref a0), (2, .ref d0), (3, .int p0), (4, .int (nI its)), (5, .int (nI x))] [] [(y0, .inr (4, [.int cd1, .int tk1])), (a0, .inr (0, [.ref a1, .ref a2, .int (nI co), .int (nI ro), .int sl])), (a1, .inl (cI, 48, .inl th)), (a2, .inl (cI, 48, .inl ow)), (d0, .inr (3, [.ref d1, .ref d2, .int ln1, .int en1])), (d1, .inl (cI, 8, .inl ce1)), (d2, .inl (cI, 8, .inl se1))]) (n_27 : Nat) (ih_27 : ∀ (x : Nat) (w : Nat) (cd1 : Int32) (tk1 : Int32) (ce1 : Nat → Int32) (se1 : Nat → Int32) (ln1 : Int32) (en1 : Int32), (x < co) → (1 ≤ w ∧ w ≤ 21) → (StC (gnB th ow co ro p0 its (10000 * x + 100 * w)) cd1 tk1) → (co - x < n_15 + 1) → 21 - w < n_27 → J X 11 0 0 27 [(0, .ref y0), (1, .ref a0), (2, .ref d0), (3, .int p0), (4, .int (nI its)), (5, .int (nI x)), (6, .int (nI w))] [] [(y0, .inr (4, [.int cd1, .int tk1])), (a0, .inr (0, [.ref a1, .ref a2, .int (nI co), .int (nI ro), .int sl])), (a1, .inl (cI, 48, .inl th)), (a2, .inl (cI, 48, .inl ow)), (d0, .inr (3, [.ref d1, .ref d2, .int ln1, .int en1])), (d1, .inl (cI, 8, .inl ce1)), (d2, .inl (cI, 8, .inl se1))]) : ∀ (n_53 : Nat) (x : Nat) (w : Nat) (rl : Nat) (i : Nat) (cd1 : Int32) (tk1 : Int32) (ce1 : Nat → Int32) (se1 : Nat → Int32) (ln1 : Int32) (en1 : Int32), (x < co) → (1 ≤ w ∧ w ≤ 20) → (EqN rl (rln th co ro 0 x w)) → (rl ≤ ro) → (i ≤ 2 * rl + 1) → (StC (gnB th ow co ro p0 its (10000 * x + 100 * w + hlim i rl)) cd1 tk1) → (co - x < n_15 + 1) → (21 - w < n_27 + 1) → 2 * rl + 1 - i < n_53 → J X 11 0 0 53 [(0, .ref y0), (1, .ref a0), (2, .ref d0), (3, .int p0), (4, .int (nI its)), (5, .int (nI x)), (6, .int (nI w)), (7, .int (nI rl)), (8, .int (nI i))] [] [(y0, .inr (4, [.int cd1, .int tk1])), (a0, .inr (0, [.ref a1, .ref a2, .int (nI co), .int (nI ro), .int sl])), (a1, .inl (cI, 48, .inl th)), (a2, .inl (cI, 48, .inl ow)), (d0, .inr (3, [.ref d1, .ref d2, .int ln1, .int en1])), (d1, .inl (cI, 8, .inl ce1)), (d2, .inl (cI, 8, .inl se1))] := by
  intro n_53
  induction n_53 with
  | zero => intro x w rl i cd1 tk1 ce1 se1 ln1 en1 hx hw hrl hrr hi hst hm hm2 hn_; exact absurd hn_ (Nat.not_lt_zero _)
  | succ n_53 ih_53 =>
    intro x w rl i cd1 tk1 ce1 se1 ln1 en1 hx hw hrl hrr hi hst hm hm2 hn_53
    refine J_iload h dX4_findMostTaken_53 8 rfl ?_
    refine J_iconst h (v := nI 2) dX4_findMostTaken_55 (by decide) ?_
    refine J_iload h dX4_findMostTaken_56 7 rfl ?_
    refine N_imul h dX4_findMostTaken_58 ?_
    refine N_icmp_gt h 126 dX4_findMostTaken_59 (by decide) (by omega) (by omega) (fun c_59 => ?_) (fun c_59 => ?_)
    · skip
      refine J_iinc h (v := nI (w + 1)) (lv' := [(6, .int (nI (w + 1))), (0, .ref y0), (1, .ref a0), (2, .ref d0), (3, .int p0), (4, .int (nI its)), (5, .int (nI x)), (7, .int (nI rl)), (8, .int (nI i))]) dX4_findMostTaken_126 6 rfl (inc_ok _ 1) (by decide) rfl ?_
      refine J_goto h 27 dX4_findMostTaken_129 (by decide) ?_
      refine J.loc [1, 2, 3, 4, 5, 6, 0] (lv' := [(0, .ref y0), (1, .ref a0), (2, .ref d0), (3, .int p0), (4, .int (nI its)), (5, .int (nI x)), (6, .int (nI (w + 1)))]) rfl ?_
      exact ih_27 x (w + 1) cd1 tk1 ce1 se1 ln1 en1 (by first | exact hx |  assumption | omega | rfl) (by first | exact hw |  assumption | omega | rfl) (by rw [gn_end hx hw hrl (by omega) (by omega) hi]; exact hst) (by first | exact hm |  assumption | omega | rfl) (by omega)
    · skip
      refine J_iload h dX4_findMostTaken_62 8 rfl ?_
      refine J_iload h dX4_findMostTaken_64 7 rfl ?_
      have hhs := hsA_le (i := i) (rl := rl) (by omega)
      refine K_si h (wr := [(y0, .inr (4, [.int cd1, .int tk1])), (a0, .inr (0, [.ref a1, .ref a2, .int (nI co), .int (nI ro), .int sl])), (a1, .inl (cI, 48, .inl th)), (a2, .inl (cI, 48, .inl ow)), (d0, .inr (3, [.ref d1, .ref d2, .int ln1, .int en1])), (d1, .inl (cI, 8, .inl ce1)), (d2, .inl (cI, 8, .inl se1))]) (c_X4_heelsAt (xl X) (xD X) cI cE i rl (by first | assumption | omega | rfl) (by first | assumption | omega | rfl)) yv_X4_heelsAt nm_X4_32 (by decide) (by decide) rfl rfl rfl (Nat.le_of_ble_eq_true rfl) (Nat.le_refl _) (Nat.le_refl _) dX4_findMostTaken_66 (fun r_66 u_66 p_66 => ?_)
      obtain ⟨rfl, -⟩ := p_66
      show J X 11 0 0 69 [(0, .ref y0), (1, .ref a0), (2, .ref d0), (3, .int p0), (4, .int (nI its)), (5, .int (nI x)), (6, .int (nI w)), (7, .int (nI rl)), (8, .int (nI i))] [.int (nI (hsA i rl))] [(y0, .inr (4, [.int cd1, .int tk1])), (a0, .inr (0, [.ref a1, .ref a2, .int (nI co), .int (nI ro), .int sl])), (a1, .inl (cI, 48, .inl th)), (a2, .inl (cI, 48, .inl ow)), (d0, .inr (3, [.ref d1, .ref d2, .int ln1, .int en1])), (d1, .inl (cI, 8, .inl ce1)), (d2, .inl (cI, 8, .inl se1))]
      refine J_istore h (lv' := [(9, .int (nI (hsA i rl))), (0, .ref y0), (1, .ref a0), (2, .ref d0), (3, .int p0), (4, .int (nI its)), (5, .int (nI x)), (6, .int (nI w)), (7, .int (nI rl)), (8, .int (nI i))]) dX4_findMostTaken_69 (by decide) rfl ?_
      refine J_aload_n h (i := 2) dX4_findMostTaken_71 rfl 3 rfl ?_
      refine J_aload_n h (i := 1) dX4_findMostTaken_72 rfl 2 rfl ?_
      refine J_iload h dX4_findMostTaken_73 6 rfl ?_
      refine J_iload h dX4_findMostTaken_75 7 rfl ?_
      refine J_iload h dX4_findMostTaken_77 0 rfl ?_
      have hrl2 := rln_le th co ro (hsA i rl) x w
      refine J.wld [4, 5, 6, 1, 2, 3, 0] (ws' := [(d0, .inr (3, [.ref d1, .ref d2, .int ln1, .int en1])), (d1, .inl (cI, 8, .inl ce1)), (d2, .inl (cI, 8, .inl se1)), (a0, .inr (0, [.ref a1, .ref a2, .int (nI co), .int (nI ro), .int sl])), (a1, .inl (cI, 48, .inl th)), (a2, .inl (cI, 48, .inl ow)), (y0, .inr (4, [.int cd1, .int tk1]))]) rfl rfl ?_
      refine K_vv h (wr := [(y0, .inr (4, [.int cd1, .int tk1]))]) (c_X3_run (xl X) (xD X) cI cE d0 d1 d2 ce1 se1 ln1 en1 a0 a1 a2 th ow co ro sl x w (hsA i rl) (by first | exact hrc |  assumption | omega | rfl) (by first | exact hco |  assumption | omega | rfl) (by first | exact hro |  assumption | omega | rfl) (by first | exact hx |  assumption | omega | rfl) (by first | exact hw |  assumption | omega | rfl) (by first | assumption | omega | rfl)) yv_X3_run nm_X4_23 (by decide) (by decide) rfl rfl 0 rfl rfl rfl rfl (Nat.le_of_ble_eq_true rfl) (Nat.le_refl _) (Nat.le_refl _) dX4_findMostTaken_79 (fun u_79 p_79 => ?_)
      obtain ⟨ce2_79, se2_79⟩ := u_79
      try dsimp only at p_79
      obtain ⟨f0_79, f1_79, -⟩ := p_79
      show J X 11 0 0 82 [(9, .int (nI (hsA i rl))), (0, .ref y0), (1, .ref a0), (2, .ref d0), (3, .int p0), (4, .int (nI its)), (5, .int (nI x)), (6, .int (nI w)), (7, .int (nI rl)), (8, .int (nI i))] [] [(d0, .inr (3, [.ref d1, .ref d2, .int (nI (rln th co ro (hsA i rl) x w)), .int (nI (ren th co ro (hsA i rl) x w))])), (d1, .inl (cI, 8, .inl ce2_79)), (d2, .inl (cI, 8, .inl se2_79)), (a0, .inr (0, [.ref a1, .ref a2, .int (nI co), .int (nI ro), .int sl])), (a1, .inl (cI, 48, .inl th)), (a2, .inl (cI, 48, .inl ow)), (y0, .inr (4, [.int cd1, .int tk1]))]
      refine J_aload_n h (i := 2) dX4_findMostTaken_82 rfl 3 rfl ?_
      refine J_aload_n h (i := 1) dX4_findMostTaken_83 rfl 2 rfl ?_
      refine J_iload_n h (i := 3) dX4_findMostTaken_84 rfl 4 rfl ?_
      refine J_iload h dX4_findMostTaken_85 5 rfl ?_
      refine K_vi h (wr := [(y0, .inr (4, [.int cd1, .int tk1]))]) (c_X3_cellsThatAre (xl X) (xD X) cI cE d0 d1 d2 ce2_79 se2_79 (rln th co ro (hsA i rl) x w) (nI (ren th co ro (hsA i rl) x w)) a0 a1 a2 th ow co ro sl p0 its (rcl th co (hsA i rl) x w) (by first | exact hrc |  assumption | omega | rfl) (by first | assumption | omega | rfl) (by intro k hk; exact ⟨f0_79 k hk, rcl_lt th (show x < co by omega) (show w ≤ 20 by omega) (by omega)⟩) (by first | exact hits |  assumption | omega | rfl)) yv_X3_cellsThatAre nm_X4_43 (by decide) (by decide) rfl rfl 0 rfl rfl rfl rfl (Nat.le_of_ble_eq_true rfl) (Nat.le_refl _) (Nat.le_refl _) dX4_findMostTaken_87 (fun r_87 u_87 p_87 => ?_)
      obtain ⟨rfl, -⟩ := p_87
      show J X 11 0 0 90 [(9, .int (nI (hsA i rl))), (0, .ref y0), (1, .ref a0), (2, .ref d0), (3, .int p0), (4, .int (nI its)), (5, .int (nI x)), (6, .int (nI w)), (7, .int (nI rl)), (8, .int (nI i))] [.int (nI (cntP (fun k => decide (ow ((rcl th co (hsA i rl) x w) k) = p0 ↔ its = 1)) (rln th co ro (hsA i rl) x w)))] [(d0, .inr (3, [.ref d1, .ref d2, .int (nI ((rln th co ro (hsA i rl) x w))), .int (nI (ren th co ro (hsA i rl) x w))])), (d1, .inl (cI, 8, .inl ce2_79)), (d2, .inl (cI, 8, .inl se2_79)), (a0, .inr (0, [.ref a1, .ref a2, .int (nI co), .int (nI ro), .int sl])), (a1, .inl (cI, 48, .inl th)), (a2, .inl (cI, 48, .inl ow)), (y0, .inr (4, [.int cd1, .int tk1]))]
      have hcl := cntP_le (fun k => decide (ow (rcl th co (hsA i rl) x w k) = p0 ↔ its = 1)) (rln th co ro (hsA i rl) x w)
      obtain ⟨mv, hmv⟩ : ∃ z, z = takM th ow co ro p0 its (hsA i rl) x w := ⟨_, rfl⟩
      have hmv8 : mv ≤ 8 := by rw [hmv]; exact takM_le hro
      refine J_eqs (st' := [.int (nI mv)]) (by rw [hmv]; rfl) ?_
      have hmv := EqN.mk hmv
      refine J_istore h (lv' := [(10, .int (nI mv)), (9, .int (nI (hsA i rl))), (0, .ref y0), (1, .ref a0), (2, .ref d0), (3, .int p0), (4, .int (nI its)), (5, .int (nI x)), (6, .int (nI w)), (7, .int (nI rl)), (8, .int (nI i))]) dX4_findMostTaken_90 (by decide) rfl ?_
      refine J_iload h dX4_findMostTaken_92 0 rfl ?_
      refine J_aload_n h (i := 0) dX4_findMostTaken_94 rfl 2 rfl ?_
      refine J_get h inX4 rfl 6 1 (by decide) rfl rfl nf_X4_15 dX4_findMostTaken_95 ?_
      refine T_icmp_le h (A := ((mv : Nat) : Int)) (B := (tk1).toInt) 120 dX4_findMostTaken_98 (by decide) (nI_toInt (by omega)) (rfl) (fun c_98 => ?_) (fun c_98 => ?_)
      · skip
        refine J_iinc h (v := nI (i + 1)) (lv' := [(8, .int (nI (i + 1))), (10, .int (nI mv)), (9, .int (nI (hsA i rl))), (0, .ref y0), (1, .ref a0), (2, .ref d0), (3, .int p0), (4, .int (nI its)), (5, .int (nI x)), (6, .int (nI w)), (7, .int (nI rl))]) dX4_findMostTaken_120 10 rfl (inc_ok _ 1) (by decide) rfl ?_
        refine J_goto h 53 dX4_findMostTaken_123 (by decide) ?_
        refine J.wld [6, 3, 4, 5, 0, 1, 2] (ws' := [(y0, .inr (4, [.int cd1, .int tk1])), (a0, .inr (0, [.ref a1, .ref a2, .int (nI co), .int (nI ro), .int sl])), (a1, .inl (cI, 48, .inl th)), (a2, .inl (cI, 48, .inl ow)), (d0, .inr (3, [.ref d1, .ref d2, .int (nI ((rln th co ro (hsA i rl) x w))), .int (nI (ren th co ro (hsA i rl) x w))])), (d1, .inl (cI, 8, .inl ce2_79)), (d2, .inl (cI, 8, .inl se2_79))]) rfl rfl ?_
        refine J.loc [3, 4, 5, 6, 7, 8, 9, 10, 0] (lv' := [(0, .ref y0), (1, .ref a0), (2, .ref d0), (3, .int p0), (4, .int (nI its)), (5, .int (nI x)), (6, .int (nI w)), (7, .int (nI rl)), (8, .int (nI (i + 1)))]) rfl ?_
        exact ih_53 x w rl (i + 1) cd1 tk1 ce2_79 se2_79 (nI ((rln th co ro (hsA i rl) x w))) (nI (ren th co ro (hsA i rl) x w)) (by first | exact hx |  assumption | omega | rfl) (by first | exact hw |  assumption | omega | rfl) (by exact hrl) (by first | exact hrr |  assumption | omega | rfl) (by first | exact hi |  assumption | omega | rfl) (by first | exact fm_go hx hw hrl (by omega) (by omega) (by omega) hst c_98 hmv | exact fm_stay hx hw hrl (by omega) (by omega) (by omega) hst c_98 hmv) (by first | exact hm |  assumption | omega | rfl) (by first | exact hm2 |  assumption | omega | rfl) (by omega)
      · skip
        refine J_aload_n h (i := 0) dX4_findMostTaken_101 rfl 2 rfl ?_
        refine J_iload h dX4_findMostTaken_102 0 rfl ?_
        refine J_put h (ws' := [(d0, .inr (3, [.ref d1, .ref d2, .int (nI ((rln th co ro (hsA i rl) x w))), .int (nI (ren th co ro (hsA i rl) x w))])), (d1, .inl (cI, 8, .inl ce2_79)), (d2, .inl (cI, 8, .inl se2_79)), (a0, .inr (0, [.ref a1, .ref a2, .int (nI co), .int (nI ro), .int sl])), (a1, .inl (cI, 48, .inl th)), (a2, .inl (cI, 48, .inl ow)), (y0, .inr (4, [.int cd1, .int (nI mv)]))]) inX4 tyX4 tyX4_ok nmX4 rfl 6 1 (by decide) rfl nf_X4_15 rfl rfl rfl rfl (Nat.le_of_ble_eq_true rfl) dX4_findMostTaken_104 rfl ?_
        refine J_aload_n h (i := 0) dX4_findMostTaken_107 rfl 2 rfl ?_
        refine J_iload h dX4_findMostTaken_108 7 rfl ?_
        refine J_iload h dX4_findMostTaken_110 8 rfl ?_
        refine J_iload h dX4_findMostTaken_112 1 rfl ?_
        refine K_si h (wr := [(d0, .inr (3, [.ref d1, .ref d2, .int (nI ((rln th co ro (hsA i rl) x w))), .int (nI (ren th co ro (hsA i rl) x w))])), (d1, .inl (cI, 8, .inl ce2_79)), (d2, .inl (cI, 8, .inl se2_79)), (a0, .inr (0, [.ref a1, .ref a2, .int (nI co), .int (nI ro), .int sl])), (a1, .inl (cI, 48, .inl th)), (a2, .inl (cI, 48, .inl ow)), (y0, .inr (4, [.int cd1, .int (nI mv)]))]) (c_X4_codeOf (xl X) (xD X) cI cE x w (hsA i rl) ) yv_X4_codeOf nm_X4_39 (by decide) (by decide) rfl rfl rfl (Nat.le_of_ble_eq_true rfl) (Nat.le_refl _) (Nat.le_refl _) dX4_findMostTaken_114 (fun r_114 u_114 p_114 => ?_)
        obtain ⟨rfl, -⟩ := p_114
        show J X 11 0 0 117 [(10, .int (nI mv)), (9, .int (nI (hsA i rl))), (0, .ref y0), (1, .ref a0), (2, .ref d0), (3, .int p0), (4, .int (nI its)), (5, .int (nI x)), (6, .int (nI w)), (7, .int (nI rl)), (8, .int (nI i))] [.int (nI (10000 * x + 100 * w + (hsA i rl))), .ref y0] [(d0, .inr (3, [.ref d1, .ref d2, .int (nI ((rln th co ro (hsA i rl) x w))), .int (nI (ren th co ro (hsA i rl) x w))])), (d1, .inl (cI, 8, .inl ce2_79)), (d2, .inl (cI, 8, .inl se2_79)), (a0, .inr (0, [.ref a1, .ref a2, .int (nI co), .int (nI ro), .int sl])), (a1, .inl (cI, 48, .inl th)), (a2, .inl (cI, 48, .inl ow)), (y0, .inr (4, [.int cd1, .int (nI mv)]))]
        refine J_put h (ws' := [(d0, .inr (3, [.ref d1, .ref d2, .int (nI ((rln th co ro (hsA i rl) x w))), .int (nI (ren th co ro (hsA i rl) x w))])), (d1, .inl (cI, 8, .inl ce2_79)), (d2, .inl (cI, 8, .inl se2_79)), (a0, .inr (0, [.ref a1, .ref a2, .int (nI co), .int (nI ro), .int sl])), (a1, .inl (cI, 48, .inl th)), (a2, .inl (cI, 48, .inl ow)), (y0, .inr (4, [.int (nI (10000 * x + 100 * w + (hsA i rl))), .int (nI mv)]))]) inX4 tyX4 tyX4_ok nmX4 rfl 6 0 (by decide) rfl nf_X4_9 rfl rfl rfl rfl (Nat.le_of_ble_eq_true rfl) dX4_findMostTaken_117 rfl ?_
        refine J_iinc h (v := nI (i + 1)) (lv' := [(8, .int (nI (i + 1))), (10, .int (nI mv)), (9, .int (nI (hsA i rl))), (0, .ref y0), (1, .ref a0), (2, .ref d0), (3, .int p0), (4, .int (nI its)), (5, .int (nI x)), (6, .int (nI w)), (7, .int (nI rl))]) dX4_findMostTaken_120 10 rfl (inc_ok _ 1) (by decide) rfl ?_
        refine J_goto h 53 dX4_findMostTaken_123 (by decide) ?_
        refine J.wld [6, 3, 4, 5, 0, 1, 2] (ws' := [(y0, .inr (4, [.int (nI (10000 * x + 100 * w + (hsA i rl))), .int (nI mv)])), (a0, .inr (0, [.ref a1, .ref a2, .int (nI co), .int (nI ro), .int sl])), (a1, .inl (cI, 48, .inl th)), (a2, .inl (cI, 48, .inl ow)), (d0, .inr (3, [.ref d1, .ref d2, .int (nI ((rln th co ro (hsA i rl) x w))), .int (nI (ren th co ro (hsA i rl) x w))])), (d1, .inl (cI, 8, .inl ce2_79)), (d2, .inl (cI, 8, .inl se2_79))]) rfl rfl ?_
        refine J.loc [3, 4, 5, 6, 7, 8, 9, 10, 0] (lv' := [(0, .ref y0), (1, .ref a0), (2, .ref d0), (3, .int p0), (4, .int (nI its)), (5, .int (nI x)), (6, .int (nI w)), (7, .int (nI rl)), (8, .int (nI (i + 1)))]) rfl ?_
        exact ih_53 x w rl (i + 1) (nI (10000 * x + 100 * w + (hsA i rl))) (nI mv) ce2_79 se2_79 (nI ((rln th co ro (hsA i rl) x w))) (nI (ren th co ro (hsA i rl) x w)) (by first | exact hx |  assumption | omega | rfl) (by first | exact hw |  assumption | omega | rfl) (by exact hrl) (by first | exact hrr |  assumption | omega | rfl) (by first | exact hi |  assumption | omega | rfl) (by first | exact fm_go hx hw hrl (by omega) (by omega) (by omega) hst c_98 hmv | exact fm_stay hx hw hrl (by omega) (by omega) (by omega) hst c_98 hmv) (by first | exact hm |  assumption | omega | rfl) (by first | exact hm2 |  assumption | omega | rfl) (by omega)
set_option maxRecDepth 100000 in
set_option maxHeartbeats 4000000 in
theorem w_X4_findMostTakenS_27 (X : Cx) {cI cE : ClassId} (h : Ok X cX4_findMostTaken RX4 11 cI cE 3 0 0) (y0 : Nat) (cd : Int32) (tk : Int32) (a0 : Nat) (a1 : Nat) (a2 : Nat) (th : Nat → Int32) (ow : Nat → Int32) (co : Nat) (ro : Nat) (sl : Int32) (d0 : Nat) (d1 : Nat) (d2 : Nat) (ce : Nat → Int32) (se : Nat → Int32) (len : Int32) (en : Int32) (p0 : Int32) (its : Nat) (hrc : ro * co ≤ 48) (hco : co ≤ 6) (hro : ro ≤ 8) (hits : its < 2) (hR : ∀ (u : (Int32) × (Int32) × (Nat → Int32) × (Nat → Int32) × (Int32) × (Int32)), ((StC (gnB th ow co ro p0 its (10000 * co)) u.1 u.2.1) ∧ (True)) → RetV X cX4_findMostTaken 11 0 0 [(y0, .inr (4, [.int u.1, .int u.2.1])), (a0, .inr (0, [.ref a1, .ref a2, .int (nI co), .int (nI ro), .int sl])), (a1, .inl (cI, 48, .inl th)), (a2, .inl (cI, 48, .inl ow)), (d0, .inr (3, [.ref d1, .ref d2, .int u.2.2.2.2.1, .int u.2.2.2.2.2])), (d1, .inl (cI, 8, .inl u.2.2.1)), (d2, .inl (cI, 8, .inl u.2.2.2.1))]) (n_15 : Nat) (ih_15 : ∀ (x : Nat) (cd1 : Int32) (tk1 : Int32) (ce1 : Nat → Int32) (se1 : Nat → Int32) (ln1 : Int32) (en1 : Int32), (x ≤ co) → (StC (gnB th ow co ro p0 its (10000 * x)) cd1 tk1) → co - x < n_15 → J X 11 0 0 15 [(0, .ref y0), (1, .ref a0), (2, .ref d0), (3, .int p0), (4, .int (nI its)), (5, .int (nI x))] [] [(y0, .inr (4, [.int cd1, .int tk1])), (a0, .inr (0, [.ref a1, .ref a2, .int (nI co), .int (nI ro), .int sl])), (a1, .inl (cI, 48, .inl th)), (a2, .inl (cI, 48, .inl ow)), (d0, .inr (3, [.ref d1, .ref d2, .int ln1, .int en1])), (d1, .inl (cI, 8, .inl ce1)), (d2, .inl (cI, 8, .inl se1))]) : ∀ (n_27 : Nat) (x : Nat) (w : Nat) (cd1 : Int32) (tk1 : Int32) (ce1 : Nat → Int32) (se1 : Nat → Int32) (ln1 : Int32) (en1 : Int32), (x < co) → (1 ≤ w ∧ w ≤ 21) → (StC (gnB th ow co ro p0 its (10000 * x + 100 * w)) cd1 tk1) → (co - x < n_15 + 1) → 21 - w < n_27 → J X 11 0 0 27 [(0, .ref y0), (1, .ref a0), (2, .ref d0), (3, .int p0), (4, .int (nI its)), (5, .int (nI x)), (6, .int (nI w))] [] [(y0, .inr (4, [.int cd1, .int tk1])), (a0, .inr (0, [.ref a1, .ref a2, .int (nI co), .int (nI ro), .int sl])), (a1, .inl (cI, 48, .inl th)), (a2, .inl (cI, 48, .inl ow)), (d0, .inr (3, [.ref d1, .ref d2, .int ln1, .int en1])), (d1, .inl (cI, 8, .inl ce1)), (d2, .inl (cI, 8, .inl se1))] := by
  intro n_27
  induction n_27 with
  | zero => intro x w cd1 tk1 ce1 se1 ln1 en1 hx hw hst hm hn_; exact absurd hn_ (Nat.not_lt_zero _)
  | succ n_27 ih_27 =>
    intro x w cd1 tk1 ce1 se1 ln1 en1 hx hw hst hm hn_27
    refine J_iload h dX4_findMostTaken_27 6 rfl ?_
    refine J_bipush h (v := nI 20) dX4_findMostTaken_29 (by decide) ?_
    refine N_icmp_gt h 132 dX4_findMostTaken_31 (by decide) (by omega) (by omega) (fun c_31 => ?_) (fun c_31 => ?_)
    · skip
      refine J_iinc h (v := nI (x + 1)) (lv' := [(5, .int (nI (x + 1))), (0, .ref y0), (1, .ref a0), (2, .ref d0), (3, .int p0), (4, .int (nI its)), (6, .int (nI w))]) dX4_findMostTaken_132 5 rfl (inc_ok _ 1) (by decide) rfl ?_
      refine J_goto h 15 dX4_findMostTaken_135 (by decide) ?_
      refine J.loc [1, 2, 3, 4, 5, 0] (lv' := [(0, .ref y0), (1, .ref a0), (2, .ref d0), (3, .int p0), (4, .int (nI its)), (5, .int (nI (x + 1)))]) rfl ?_
      exact ih_15 (x + 1) cd1 tk1 ce1 se1 ln1 en1 (by first | exact hx |  assumption | omega | rfl) (by rw [gn_w21, ← show w = 21 by omega]; exact hst) (by omega)
    · skip
      refine J_aload_n h (i := 2) dX4_findMostTaken_34 rfl 2 rfl ?_
      refine J_aload_n h (i := 1) dX4_findMostTaken_35 rfl 1 rfl ?_
      refine J_iload h dX4_findMostTaken_36 5 rfl ?_
      refine J_iload h dX4_findMostTaken_38 6 rfl ?_
      refine J_iconst h (v := nI 0) dX4_findMostTaken_40 (by decide) ?_
      refine J.wld [4, 5, 6, 1, 2, 3, 0] (ws' := [(d0, .inr (3, [.ref d1, .ref d2, .int ln1, .int en1])), (d1, .inl (cI, 8, .inl ce1)), (d2, .inl (cI, 8, .inl se1)), (a0, .inr (0, [.ref a1, .ref a2, .int (nI co), .int (nI ro), .int sl])), (a1, .inl (cI, 48, .inl th)), (a2, .inl (cI, 48, .inl ow)), (y0, .inr (4, [.int cd1, .int tk1]))]) rfl rfl ?_
      refine K_vv h (wr := [(y0, .inr (4, [.int cd1, .int tk1]))]) (c_X3_run (xl X) (xD X) cI cE d0 d1 d2 ce1 se1 ln1 en1 a0 a1 a2 th ow co ro sl x w 0 (by first | exact hrc |  assumption | omega | rfl) (by first | exact hco |  assumption | omega | rfl) (by first | exact hro |  assumption | omega | rfl) (by first | exact hx |  assumption | omega | rfl) (by first | exact hw |  assumption | omega | rfl) (by first | assumption | omega | rfl)) yv_X3_run nm_X4_23 (by decide) (by decide) rfl rfl 0 rfl rfl rfl rfl (Nat.le_of_ble_eq_true rfl) (Nat.le_refl _) (Nat.le_refl _) dX4_findMostTaken_41 (fun u_41 p_41 => ?_)
      obtain ⟨ce2_41, se2_41⟩ := u_41
      try dsimp only at p_41
      obtain ⟨f0_41, f1_41, -⟩ := p_41
      show J X 11 0 0 44 [(0, .ref y0), (1, .ref a0), (2, .ref d0), (3, .int p0), (4, .int (nI its)), (5, .int (nI x)), (6, .int (nI w))] [] [(d0, .inr (3, [.ref d1, .ref d2, .int (nI (rln th co ro 0 x w)), .int (nI (ren th co ro 0 x w))])), (d1, .inl (cI, 8, .inl ce2_41)), (d2, .inl (cI, 8, .inl se2_41)), (a0, .inr (0, [.ref a1, .ref a2, .int (nI co), .int (nI ro), .int sl])), (a1, .inl (cI, 48, .inl th)), (a2, .inl (cI, 48, .inl ow)), (y0, .inr (4, [.int cd1, .int tk1]))]
      refine J_aload_n h (i := 2) dX4_findMostTaken_44 rfl 2 rfl ?_
      refine J_get h inX3 rfl 0 2 (by decide) rfl rfl nf_X4_29 dX4_findMostTaken_45 ?_
      have hrle := rln_le th co ro 0 x w
      refine J_istore h (lv' := [(7, .int (nI (rln th co ro 0 x w))), (0, .ref y0), (1, .ref a0), (2, .ref d0), (3, .int p0), (4, .int (nI its)), (5, .int (nI x)), (6, .int (nI w))]) dX4_findMostTaken_48 (by decide) rfl ?_
      refine J_iconst h (v := nI 0) dX4_findMostTaken_50 (by decide) ?_
      refine J_istore h (lv' := [(8, .int (nI 0)), (7, .int (nI (rln th co ro 0 x w))), (0, .ref y0), (1, .ref a0), (2, .ref d0), (3, .int p0), (4, .int (nI its)), (5, .int (nI x)), (6, .int (nI w))]) dX4_findMostTaken_51 (by decide) rfl ?_
      refine J.wld [6, 3, 4, 5, 0, 1, 2] (ws' := [(y0, .inr (4, [.int cd1, .int tk1])), (a0, .inr (0, [.ref a1, .ref a2, .int (nI co), .int (nI ro), .int sl])), (a1, .inl (cI, 48, .inl th)), (a2, .inl (cI, 48, .inl ow)), (d0, .inr (3, [.ref d1, .ref d2, .int (nI (rln th co ro 0 x w)), .int (nI (ren th co ro 0 x w))])), (d1, .inl (cI, 8, .inl ce2_41)), (d2, .inl (cI, 8, .inl se2_41))]) rfl rfl ?_
      refine J.loc [2, 3, 4, 5, 6, 7, 8, 1, 0] (lv' := [(0, .ref y0), (1, .ref a0), (2, .ref d0), (3, .int p0), (4, .int (nI its)), (5, .int (nI x)), (6, .int (nI w)), (7, .int (nI (rln th co ro 0 x w))), (8, .int (nI 0))]) rfl ?_
      exact w_X4_findMostTakenS_53 X h y0 cd tk a0 a1 a2 th ow co ro sl d0 d1 d2 ce se len en p0 its hrc hco hro hits hR n_15 ih_15 n_27 ih_27 (2 * (rln th co ro 0 x w) + 1 - 0 + 1) x w (rln th co ro 0 x w) 0 cd1 tk1 ce2_41 se2_41 (nI (rln th co ro 0 x w)) (nI (ren th co ro 0 x w)) (by first | exact hx |  assumption | omega | rfl) (by first | exact hw |  assumption | omega | rfl) (by exact .mk rfl) (by exact rln_le _ _ _ _ _ _) (by first | assumption | omega | rfl) (by rw [hlim_0]; exact hst) (by first | exact hm |  assumption | omega | rfl) (by first | assumption | omega | rfl) (by omega)
set_option maxRecDepth 100000 in
set_option maxHeartbeats 4000000 in
theorem w_X4_findMostTakenS_15 (X : Cx) {cI cE : ClassId} (h : Ok X cX4_findMostTaken RX4 11 cI cE 3 0 0) (y0 : Nat) (cd : Int32) (tk : Int32) (a0 : Nat) (a1 : Nat) (a2 : Nat) (th : Nat → Int32) (ow : Nat → Int32) (co : Nat) (ro : Nat) (sl : Int32) (d0 : Nat) (d1 : Nat) (d2 : Nat) (ce : Nat → Int32) (se : Nat → Int32) (len : Int32) (en : Int32) (p0 : Int32) (its : Nat) (hrc : ro * co ≤ 48) (hco : co ≤ 6) (hro : ro ≤ 8) (hits : its < 2) (hR : ∀ (u : (Int32) × (Int32) × (Nat → Int32) × (Nat → Int32) × (Int32) × (Int32)), ((StC (gnB th ow co ro p0 its (10000 * co)) u.1 u.2.1) ∧ (True)) → RetV X cX4_findMostTaken 11 0 0 [(y0, .inr (4, [.int u.1, .int u.2.1])), (a0, .inr (0, [.ref a1, .ref a2, .int (nI co), .int (nI ro), .int sl])), (a1, .inl (cI, 48, .inl th)), (a2, .inl (cI, 48, .inl ow)), (d0, .inr (3, [.ref d1, .ref d2, .int u.2.2.2.2.1, .int u.2.2.2.2.2])), (d1, .inl (cI, 8, .inl u.2.2.1)), (d2, .inl (cI, 8, .inl u.2.2.2.1))]) : ∀ (n_15 : Nat) (x : Nat) (cd1 : Int32) (tk1 : Int32) (ce1 : Nat → Int32) (se1 : Nat → Int32) (ln1 : Int32) (en1 : Int32), (x ≤ co) → (StC (gnB th ow co ro p0 its (10000 * x)) cd1 tk1) → co - x < n_15 → J X 11 0 0 15 [(0, .ref y0), (1, .ref a0), (2, .ref d0), (3, .int p0), (4, .int (nI its)), (5, .int (nI x))] [] [(y0, .inr (4, [.int cd1, .int tk1])), (a0, .inr (0, [.ref a1, .ref a2, .int (nI co), .int (nI ro), .int sl])), (a1, .inl (cI, 48, .inl th)), (a2, .inl (cI, 48, .inl ow)), (d0, .inr (3, [.ref d1, .ref d2, .int ln1, .int en1])), (d1, .inl (cI, 8, .inl ce1)), (d2, .inl (cI, 8, .inl se1))] := by
  intro n_15
  induction n_15 with
  | zero => intro x cd1 tk1 ce1 se1 ln1 en1 hx hst hn_; exact absurd hn_ (Nat.not_lt_zero _)
  | succ n_15 ih_15 =>
    intro x cd1 tk1 ce1 se1 ln1 en1 hx hst hn_15
    refine J_iload h dX4_findMostTaken_15 5 rfl ?_
    refine J_aload_n h (i := 1) dX4_findMostTaken_17 rfl 1 rfl ?_
    refine J_get h inX0 rfl 1 2 (by decide) rfl rfl nf_X4_18 dX4_findMostTaken_18 ?_
    refine N_icmp_ge h 138 dX4_findMostTaken_21 (by decide) (by omega) (by omega) (fun c_21 => ?_) (fun c_21 => ?_)
    · skip
      exact hR (cd1, tk1, ce1, se1, ln1, en1) (⟨(by (try dsimp only); rw [show 10000 * co = 10000 * x by omega]; exact hst), trivial⟩) 138 _ dX4_findMostTaken_138
    · skip
      refine J_iconst h (v := nI 1) dX4_findMostTaken_24 (by decide) ?_
      refine J_istore h (lv' := [(6, .int (nI 1)), (0, .ref y0), (1, .ref a0), (2, .ref d0), (3, .int p0), (4, .int (nI its)), (5, .int (nI x))]) dX4_findMostTaken_25 (by decide) rfl ?_
      refine J.loc [1, 2, 3, 4, 5, 6, 0] (lv' := [(0, .ref y0), (1, .ref a0), (2, .ref d0), (3, .int p0), (4, .int (nI its)), (5, .int (nI x)), (6, .int (nI 1))]) rfl ?_
      exact w_X4_findMostTakenS_27 X h y0 cd tk a0 a1 a2 th ow co ro sl d0 d1 d2 ce se len en p0 its hrc hco hro hits hR n_15 ih_15 (21 - 1 + 1) x 1 cd1 tk1 ce1 se1 ln1 en1 (by first | exact hx |  assumption | omega | rfl) (by first | assumption | omega | rfl) (by rw [gn_w0]; exact hst) (by first | assumption | omega | rfl) (by omega)
set_option maxRecDepth 100000 in
set_option maxHeartbeats 4000000 in
theorem w_X4_findMostTakenS (X : Cx) {cI cE : ClassId} (h : Ok X cX4_findMostTaken RX4 11 cI cE 3 0 0) (y0 : Nat) (cd : Int32) (tk : Int32) (a0 : Nat) (a1 : Nat) (a2 : Nat) (th : Nat → Int32) (ow : Nat → Int32) (co : Nat) (ro : Nat) (sl : Int32) (d0 : Nat) (d1 : Nat) (d2 : Nat) (ce : Nat → Int32) (se : Nat → Int32) (len : Int32) (en : Int32) (p0 : Int32) (its : Nat) (hrc : ro * co ≤ 48) (hco : co ≤ 6) (hro : ro ≤ 8) (hits : its < 2) (hR : ∀ (u : (Int32) × (Int32) × (Nat → Int32) × (Nat → Int32) × (Int32) × (Int32)), ((StC (gnB th ow co ro p0 its (10000 * co)) u.1 u.2.1) ∧ (True)) → RetV X cX4_findMostTaken 11 0 0 [(y0, .inr (4, [.int u.1, .int u.2.1])), (a0, .inr (0, [.ref a1, .ref a2, .int (nI co), .int (nI ro), .int sl])), (a1, .inl (cI, 48, .inl th)), (a2, .inl (cI, 48, .inl ow)), (d0, .inr (3, [.ref d1, .ref d2, .int u.2.2.2.2.1, .int u.2.2.2.2.2])), (d1, .inl (cI, 8, .inl u.2.2.1)), (d2, .inl (cI, 8, .inl u.2.2.2.1))]) : J X 11 0 0 0 [(0, .ref y0), (1, .ref a0), (2, .ref d0), (3, .int p0), (4, .int (nI its))] [] [(y0, .inr (4, [.int cd, .int tk])), (a0, .inr (0, [.ref a1, .ref a2, .int (nI co), .int (nI ro), .int sl])), (a1, .inl (cI, 48, .inl th)), (a2, .inl (cI, 48, .inl ow)), (d0, .inr (3, [.ref d1, .ref d2, .int len, .int en])), (d1, .inl (cI, 8, .inl ce)), (d2, .inl (cI, 8, .inl se))] := by
  refine J_aload_n h (i := 0) dX4_findMostTaken_0 rfl 0 rfl ?_
  refine J_bipush h (v := (-4)) dX4_findMostTaken_1 (by decide) ?_
  refine J_put h (ws' := [(y0, .inr (4, [.int ((-4)), .int tk])), (a0, .inr (0, [.ref a1, .ref a2, .int (nI co), .int (nI ro), .int sl])), (a1, .inl (cI, 48, .inl th)), (a2, .inl (cI, 48, .inl ow)), (d0, .inr (3, [.ref d1, .ref d2, .int len, .int en])), (d1, .inl (cI, 8, .inl ce)), (d2, .inl (cI, 8, .inl se))]) inX4 tyX4 tyX4_ok nmX4 rfl 0 0 (by decide) rfl nf_X4_9 rfl rfl rfl rfl (Nat.le_of_ble_eq_true rfl) dX4_findMostTaken_3 rfl ?_
  refine J_aload_n h (i := 0) dX4_findMostTaken_6 rfl 0 rfl ?_
  refine J_bipush h (v := (-4)) dX4_findMostTaken_7 (by decide) ?_
  refine J_put h (ws' := [(y0, .inr (4, [.int ((-4)), .int ((-4))])), (a0, .inr (0, [.ref a1, .ref a2, .int (nI co), .int (nI ro), .int sl])), (a1, .inl (cI, 48, .inl th)), (a2, .inl (cI, 48, .inl ow)), (d0, .inr (3, [.ref d1, .ref d2, .int len, .int en])), (d1, .inl (cI, 8, .inl ce)), (d2, .inl (cI, 8, .inl se))]) inX4 tyX4 tyX4_ok nmX4 rfl 0 1 (by decide) rfl nf_X4_15 rfl rfl rfl rfl (Nat.le_of_ble_eq_true rfl) dX4_findMostTaken_9 rfl ?_
  refine J_iconst h (v := nI 0) dX4_findMostTaken_12 (by decide) ?_
  refine J_istore h (lv' := [(5, .int (nI 0)), (0, .ref y0), (1, .ref a0), (2, .ref d0), (3, .int p0), (4, .int (nI its))]) dX4_findMostTaken_13 (by decide) rfl ?_
  refine J.loc [1, 2, 3, 4, 5, 0] (lv' := [(0, .ref y0), (1, .ref a0), (2, .ref d0), (3, .int p0), (4, .int (nI its)), (5, .int (nI 0))]) rfl ?_
  exact w_X4_findMostTakenS_15 X h y0 cd tk a0 a1 a2 th ow co ro sl d0 d1 d2 ce se len en p0 its hrc hco hro hits hR  (co - 0 + 1) 0 (-4) (-4) ce se len en (by first | assumption | omega | rfl) (by exact Or.inl ⟨rfl, rfl, rfl⟩) (by omega)
theorem c_X4_findMostTakenS (l : Launch) (D : va_G) (cI cE : ClassId) (y0 : Nat) (cd : Int32) (tk : Int32) (a0 : Nat) (a1 : Nat) (a2 : Nat) (th : Nat → Int32) (ow : Nat → Int32) (co : Nat) (ro : Nat) (sl : Int32) (d0 : Nat) (d1 : Nat) (d2 : Nat) (ce : Nat → Int32) (se : Nat → Int32) (len : Int32) (en : Int32) (p0 : Int32) (its : Nat) (hrc : ro * co ≤ 48) (hco : co ≤ 6) (hro : ro ≤ 8) (hits : its < 2) : Cv l D cI cE yX4_findMostTaken cX4_findMostTaken 11 none 3 0 0 [.ref y0, .ref a0, .ref d0, .int p0, .int (nI its)] [(y0, .inr (4, [.int cd, .int tk])), (a0, .inr (0, [.ref a1, .ref a2, .int (nI co), .int (nI ro), .int sl])), (a1, .inl (cI, 48, .inl th)), (a2, .inl (cI, 48, .inl ow)), (d0, .inr (3, [.ref d1, .ref d2, .int len, .int en])), (d1, .inl (cI, 8, .inl ce)), (d2, .inl (cI, 8, .inl se))] (fun (u : (Int32) × (Int32) × (Nat → Int32) × (Nat → Int32) × (Int32) × (Int32)) => ((StC (gnB th ow co ro p0 its (10000 * co)) u.1 u.2.1) ∧ (True))) (fun (u : (Int32) × (Int32) × (Nat → Int32) × (Nat → Int32) × (Int32) × (Int32)) => ([(y0, .inr (4, [.int u.1, .int u.2.1])), (a0, .inr (0, [.ref a1, .ref a2, .int (nI co), .int (nI ro), .int sl])), (a1, .inl (cI, 48, .inl th)), (a2, .inl (cI, 48, .inl ow)), (d0, .inr (3, [.ref d1, .ref d2, .int u.2.2.2.2.1, .int u.2.2.2.2.2])), (d1, .inl (cI, 8, .inl u.2.2.1)), (d2, .inl (cI, 8, .inl u.2.2.2.1))] : va_W)) :=
  Cv.of (by decide) (Nat.le_of_ble_eq_true rfl) (fun X h hR _ => w_X4_findMostTakenS X h y0 cd tk a0 a1 a2 th ow co ro sl d0 d1 d2 ce se len en p0 its hrc hco hro hits hR)
set_option maxRecDepth 100000 in
set_option maxHeartbeats 4000000 in
theorem w_X8_gainS (X : Cx) {cI cE : ClassId} (h : Ok X cX8_gain RX8 3 cI cE 4 0 0) (z0 : Nat) (g0 : Nat) (a0 : Nat) (f0 : Nat) (s0 : Nat) (k0 : Nat) (v0 : Nat) (d0 : Nat) (y0 : Nat) (m0 : Nat) (o0 : Nat) (a1 : Nat) (a2 : Nat) (th : Nat → Int32) (ow : Nat → Int32) (co : Nat) (ro : Nat) (sl : Int32) (d1 : Nat) (d2 : Nat) (ce : Nat → Int32) (se : Nat → Int32) (len : Int32) (en : Int32) (cd : Int32) (tk : Int32) (p0 : Int32) (p1 : Int32) (hrc : ro * co ≤ 48) (hco : co ≤ 6) (hro : ro ≤ 8) (hc0 : 0 < co) (hR : ∀ (r : Int32) (u : (Int32) × (Int32) × (Nat → Int32) × (Nat → Int32) × (Int32) × (Int32)), ((fGain th ow co ro p0 p1 = r) ∧ (True)) → RetI X cX8_gain 3 0 0 r [(z0, .inr (8, [.ref g0, .ref a0, .ref f0, .ref s0, .ref k0, .ref v0, .ref d0, .ref y0, .ref m0, .ref o0])), (a0, .inr (0, [.ref a1, .ref a2, .int (nI co), .int (nI ro), .int sl])), (a1, .inl (cI, 48, .inl th)), (a2, .inl (cI, 48, .inl ow)), (d0, .inr (3, [.ref d1, .ref d2, .int u.2.2.2.2.1, .int u.2.2.2.2.2])), (d1, .inl (cI, 8, .inl u.2.2.1)), (d2, .inl (cI, 8, .inl u.2.2.2.1)), (y0, .inr (4, [.int u.1, .int u.2.1]))]) : J X 3 0 0 0 [(0, .ref z0), (1, .int p0), (2, .int p1)] [] [(z0, .inr (8, [.ref g0, .ref a0, .ref f0, .ref s0, .ref k0, .ref v0, .ref d0, .ref y0, .ref m0, .ref o0])), (a0, .inr (0, [.ref a1, .ref a2, .int (nI co), .int (nI ro), .int sl])), (a1, .inl (cI, 48, .inl th)), (a2, .inl (cI, 48, .inl ow)), (d0, .inr (3, [.ref d1, .ref d2, .int len, .int en])), (d1, .inl (cI, 8, .inl ce)), (d2, .inl (cI, 8, .inl se)), (y0, .inr (4, [.int cd, .int tk]))] := by
  refine J_iload_n h (i := 1) dX8_gain_0 rfl 1 rfl ?_
  refine K_si h (wr := [(z0, .inr (8, [.ref g0, .ref a0, .ref f0, .ref s0, .ref k0, .ref v0, .ref d0, .ref y0, .ref m0, .ref o0])), (a0, .inr (0, [.ref a1, .ref a2, .int (nI co), .int (nI ro), .int sl])), (a1, .inl (cI, 48, .inl th)), (a2, .inl (cI, 48, .inl ow)), (d0, .inr (3, [.ref d1, .ref d2, .int len, .int en])), (d1, .inl (cI, 8, .inl ce)), (d2, .inl (cI, 8, .inl se)), (y0, .inr (4, [.int cd, .int tk]))]) (c_X8_isSide (xl X) (xD X) cI cE p0 ((p0).toInt) (by exact rfl)) yv_X8_isSide nm_X8_153 (by decide) (by decide) rfl rfl rfl (Nat.le_of_ble_eq_true rfl) (Nat.le_refl _) (Nat.le_refl _) dX8_gain_1 (fun r_1 u_1 p_1 => ?_)
  rcases p_1 with p_1 | p_1
  · obtain ⟨rfl, f0_1, -⟩ := p_1
    show J X 3 0 0 4 [(0, .ref z0), (1, .int p0), (2, .int p1)] [.int (nI 1)] [(z0, .inr (8, [.ref g0, .ref a0, .ref f0, .ref s0, .ref k0, .ref v0, .ref d0, .ref y0, .ref m0, .ref o0])), (a0, .inr (0, [.ref a1, .ref a2, .int (nI co), .int (nI ro), .int sl])), (a1, .inl (cI, 48, .inl th)), (a2, .inl (cI, 48, .inl ow)), (d0, .inr (3, [.ref d1, .ref d2, .int len, .int en])), (d1, .inl (cI, 8, .inl ce)), (d2, .inl (cI, 8, .inl se)), (y0, .inr (4, [.int cd, .int tk]))]
    refine J_if_eq h 14 dX8_gain_4 (by decide) (fun z => absurd z (by decide)) (fun _ => ?_)
    refine J_iload_n h (i := 2) dX8_gain_7 rfl 2 rfl ?_
    refine K_si h (wr := [(z0, .inr (8, [.ref g0, .ref a0, .ref f0, .ref s0, .ref k0, .ref v0, .ref d0, .ref y0, .ref m0, .ref o0])), (a0, .inr (0, [.ref a1, .ref a2, .int (nI co), .int (nI ro), .int sl])), (a1, .inl (cI, 48, .inl th)), (a2, .inl (cI, 48, .inl ow)), (d0, .inr (3, [.ref d1, .ref d2, .int len, .int en])), (d1, .inl (cI, 8, .inl ce)), (d2, .inl (cI, 8, .inl se)), (y0, .inr (4, [.int cd, .int tk]))]) (c_X8_isFlag (xl X) (xD X) cI cE p1 ) yv_X8_isFlag nm_X8_117 (by decide) (by decide) rfl rfl rfl (Nat.le_of_ble_eq_true rfl) (Nat.le_refl _) (Nat.le_refl _) dX8_gain_8 (fun r_8 u_8 p_8 => ?_)
    rcases p_8 with p_8 | p_8
    · obtain ⟨rfl, f0_8, -⟩ := p_8
      show J X 3 0 0 11 [(0, .ref z0), (1, .int p0), (2, .int p1)] [.int (nI 1)] [(z0, .inr (8, [.ref g0, .ref a0, .ref f0, .ref s0, .ref k0, .ref v0, .ref d0, .ref y0, .ref m0, .ref o0])), (a0, .inr (0, [.ref a1, .ref a2, .int (nI co), .int (nI ro), .int sl])), (a1, .inl (cI, 48, .inl th)), (a2, .inl (cI, 48, .inl ow)), (d0, .inr (3, [.ref d1, .ref d2, .int len, .int en])), (d1, .inl (cI, 8, .inl ce)), (d2, .inl (cI, 8, .inl se)), (y0, .inr (4, [.int cd, .int tk]))]
      refine J_if_ne h 16 dX8_gain_11 (by decide) (fun _ => ?_) (fun z => absurd z (by decide))
      refine J_aload_n h (i := 0) dX8_gain_16 rfl 0 rfl ?_
      refine J_get h inX8 rfl 0 7 (by decide) rfl rfl nf_X8_55 dX8_gain_17 ?_
      refine J_aload_n h (i := 0) dX8_gain_20 rfl 0 rfl ?_
      refine J_get h inX8 rfl 0 1 (by decide) rfl rfl nf_X8_19 dX8_gain_21 ?_
      refine J_aload_n h (i := 0) dX8_gain_24 rfl 0 rfl ?_
      refine J_get h inX8 rfl 0 6 (by decide) rfl rfl nf_X8_48 dX8_gain_25 ?_
      refine J_iload_n h (i := 1) dX8_gain_28 rfl 1 rfl ?_
      refine J_iconst h (v := nI 0) dX8_gain_29 (by decide) ?_
      refine J.wld [7, 1, 2, 3, 4, 5, 6, 0] (ws' := [(y0, .inr (4, [.int cd, .int tk])), (a0, .inr (0, [.ref a1, .ref a2, .int (nI co), .int (nI ro), .int sl])), (a1, .inl (cI, 48, .inl th)), (a2, .inl (cI, 48, .inl ow)), (d0, .inr (3, [.ref d1, .ref d2, .int len, .int en])), (d1, .inl (cI, 8, .inl ce)), (d2, .inl (cI, 8, .inl se)), (z0, .inr (8, [.ref g0, .ref a0, .ref f0, .ref s0, .ref k0, .ref v0, .ref d0, .ref y0, .ref m0, .ref o0]))]) rfl rfl ?_
      refine K_vv h (wr := [(z0, .inr (8, [.ref g0, .ref a0, .ref f0, .ref s0, .ref k0, .ref v0, .ref d0, .ref y0, .ref m0, .ref o0]))]) (c_X4_findMostTakenS (xl X) (xD X) cI cE y0 cd tk a0 a1 a2 th ow co ro sl d0 d1 d2 ce se len en p0 0 (by first | exact hrc |  assumption | omega | rfl) (by first | exact hco |  assumption | omega | rfl) (by first | exact hro |  assumption | omega | rfl) (by first | assumption | omega | rfl)) yv_X4_findMostTaken nm_X8_193 (by decide) (by decide) rfl rfl 0 rfl rfl rfl rfl (Nat.le_of_ble_eq_true rfl) (Nat.le_refl _) (Nat.le_refl _) dX8_gain_30 (fun u_30 p_30 => ?_)
      obtain ⟨cd2_30, tk2_30, ce2_30, se2_30, ln2_30, en2_30⟩ := u_30
      try dsimp only at p_30
      obtain ⟨f0_30, -⟩ := p_30
      show J X 3 0 0 33 [(0, .ref z0), (1, .int p0), (2, .int p1)] [] [(y0, .inr (4, [.int cd2_30, .int tk2_30])), (a0, .inr (0, [.ref a1, .ref a2, .int (nI co), .int (nI ro), .int sl])), (a1, .inl (cI, 48, .inl th)), (a2, .inl (cI, 48, .inl ow)), (d0, .inr (3, [.ref d1, .ref d2, .int ln2_30, .int en2_30])), (d1, .inl (cI, 8, .inl ce2_30)), (d2, .inl (cI, 8, .inl se2_30)), (z0, .inr (8, [.ref g0, .ref a0, .ref f0, .ref s0, .ref k0, .ref v0, .ref d0, .ref y0, .ref m0, .ref o0]))]
      refine J_iload_n h (i := 2) dX8_gain_33 rfl 2 rfl ?_
      refine T_if_ne h (A := (p1).toInt) 47 dX8_gain_34 (by decide) (rfl) (fun c_34 => ?_) (fun c_34 => ?_)
      · skip
        refine J_aload_n h (i := 0) dX8_gain_47 rfl 0 rfl ?_
        refine J_get h inX8 rfl 7 1 (by decide) rfl rfl nf_X8_19 dX8_gain_48 ?_
        refine J_iload_n h (i := 1) dX8_gain_51 rfl 1 rfl ?_
        refine J.wld [1, 2, 3, 0, 4, 5, 6, 7] (ws' := [(a0, .inr (0, [.ref a1, .ref a2, .int (nI co), .int (nI ro), .int sl])), (a1, .inl (cI, 48, .inl th)), (a2, .inl (cI, 48, .inl ow)), (y0, .inr (4, [.int cd2_30, .int tk2_30])), (d0, .inr (3, [.ref d1, .ref d2, .int ln2_30, .int en2_30])), (d1, .inl (cI, 8, .inl ce2_30)), (d2, .inl (cI, 8, .inl se2_30)), (z0, .inr (8, [.ref g0, .ref a0, .ref f0, .ref s0, .ref k0, .ref v0, .ref d0, .ref y0, .ref m0, .ref o0]))]) rfl rfl ?_
        refine K_vi h (wr := [(y0, .inr (4, [.int cd2_30, .int tk2_30])), (d0, .inr (3, [.ref d1, .ref d2, .int ln2_30, .int en2_30])), (d1, .inl (cI, 8, .inl ce2_30)), (d2, .inl (cI, 8, .inl se2_30)), (z0, .inr (8, [.ref g0, .ref a0, .ref f0, .ref s0, .ref k0, .ref v0, .ref d0, .ref y0, .ref m0, .ref o0]))]) (c_X0_cellsOf (xl X) (xD X) cI cE a0 a1 a2 th ow co ro sl p0 (by first | exact hrc |  assumption | omega | rfl)) yv_X0_cellsOf nm_X8_156 (by decide) (by decide) rfl rfl 0 rfl rfl rfl rfl (Nat.le_of_ble_eq_true rfl) (Nat.le_refl _) (Nat.le_refl _) dX8_gain_52 (fun r_52 u_52 p_52 => ?_)
        obtain ⟨rfl, -⟩ := p_52
        show J X 3 0 0 55 [(0, .ref z0), (1, .int p0), (2, .int p1)] [.int (nI (cntP (fun k => decide (ow k = p0)) (ro * co)))] [(a0, .inr (0, [.ref a1, .ref a2, .int (nI co), .int (nI ro), .int sl])), (a1, .inl (cI, 48, .inl th)), (a2, .inl (cI, 48, .inl ow)), (y0, .inr (4, [.int cd2_30, .int tk2_30])), (d0, .inr (3, [.ref d1, .ref d2, .int ln2_30, .int en2_30])), (d1, .inl (cI, 8, .inl ce2_30)), (d2, .inl (cI, 8, .inl se2_30)), (z0, .inr (8, [.ref g0, .ref a0, .ref f0, .ref s0, .ref k0, .ref v0, .ref d0, .ref y0, .ref m0, .ref o0]))]
        refine J_aload_n h (i := 0) dX8_gain_55 rfl 0 rfl ?_
        refine J_get h inX8 rfl 7 7 (by decide) rfl rfl nf_X8_55 dX8_gain_56 ?_
        refine J_get h inX4 rfl 3 1 (by decide) rfl rfl nf_X8_200 dX8_gain_59 ?_
        refine J_iadd h dX8_gain_62 ?_
        refine J.wld [7, 0, 1, 2, 4, 5, 6, 3] (ws' := [(z0, .inr (8, [.ref g0, .ref a0, .ref f0, .ref s0, .ref k0, .ref v0, .ref d0, .ref y0, .ref m0, .ref o0])), (a0, .inr (0, [.ref a1, .ref a2, .int (nI co), .int (nI ro), .int sl])), (a1, .inl (cI, 48, .inl th)), (a2, .inl (cI, 48, .inl ow)), (d0, .inr (3, [.ref d1, .ref d2, .int ln2_30, .int en2_30])), (d1, .inl (cI, 8, .inl ce2_30)), (d2, .inl (cI, 8, .inl se2_30)), (y0, .inr (4, [.int cd2_30, .int tk2_30]))]) rfl rfl ?_
        exact hR ((nI (cntP (fun k => decide (ow k = p0)) (ro * co))) + tk2_30) (cd2_30, tk2_30, ce2_30, se2_30, ln2_30, en2_30) (⟨(by (try dsimp only); unfold fGain; rw [if_pos ⟨by omega, by omega⟩]; first | exact (fBest_c hc0 f0_30).1 (by omega) | exact (fBest_c hc0 f0_30).2.1 rfl (by omega)), trivial⟩) 63 _ dX8_gain_63
      · skip
        refine J_aload_n h (i := 0) dX8_gain_37 rfl 0 rfl ?_
        refine J_get h inX8 rfl 7 7 (by decide) rfl rfl nf_X8_55 dX8_gain_38 ?_
        refine J_get h inX4 rfl 0 0 (by decide) rfl rfl nf_X8_197 dX8_gain_41 ?_
        refine J_goto h 63 dX8_gain_44 (by decide) ?_
        refine J.wld [7, 1, 2, 3, 4, 5, 6, 0] (ws' := [(z0, .inr (8, [.ref g0, .ref a0, .ref f0, .ref s0, .ref k0, .ref v0, .ref d0, .ref y0, .ref m0, .ref o0])), (a0, .inr (0, [.ref a1, .ref a2, .int (nI co), .int (nI ro), .int sl])), (a1, .inl (cI, 48, .inl th)), (a2, .inl (cI, 48, .inl ow)), (d0, .inr (3, [.ref d1, .ref d2, .int ln2_30, .int en2_30])), (d1, .inl (cI, 8, .inl ce2_30)), (d2, .inl (cI, 8, .inl se2_30)), (y0, .inr (4, [.int cd2_30, .int tk2_30]))]) rfl rfl ?_
        exact hR cd2_30 (cd2_30, tk2_30, ce2_30, se2_30, ln2_30, en2_30) (⟨(by (try dsimp only); unfold fGain; rw [if_pos ⟨by omega, by omega⟩]; first | exact (fBest_c hc0 f0_30).1 (by omega) | exact (fBest_c hc0 f0_30).2.1 rfl (by omega)), trivial⟩) 63 _ dX8_gain_63
    · obtain ⟨rfl, f0_8, -⟩ := p_8
      show J X 3 0 0 11 [(0, .ref z0), (1, .int p0), (2, .int p1)] [.int (nI 0)] [(z0, .inr (8, [.ref g0, .ref a0, .ref f0, .ref s0, .ref k0, .ref v0, .ref d0, .ref y0, .ref m0, .ref o0])), (a0, .inr (0, [.ref a1, .ref a2, .int (nI co), .int (nI ro), .int sl])), (a1, .inl (cI, 48, .inl th)), (a2, .inl (cI, 48, .inl ow)), (d0, .inr (3, [.ref d1, .ref d2, .int len, .int en])), (d1, .inl (cI, 8, .inl ce)), (d2, .inl (cI, 8, .inl se)), (y0, .inr (4, [.int cd, .int tk]))]
      refine J_if_ne h 16 dX8_gain_11 (by decide) (fun z => absurd z (by decide)) (fun _ => ?_)
      refine J_iconst h (v := (-1)) dX8_gain_14 (by decide) ?_
      exact hR ((-1)) (cd, tk, ce, se, len, en) (⟨(by (try dsimp only); unfold fGain; rw [if_neg (fun q => by have q1 := q.1; have q2 := q.2; omega)]), trivial⟩) 15 _ dX8_gain_15
  · obtain ⟨rfl, f0_1, -⟩ := p_1
    show J X 3 0 0 4 [(0, .ref z0), (1, .int p0), (2, .int p1)] [.int (nI 0)] [(z0, .inr (8, [.ref g0, .ref a0, .ref f0, .ref s0, .ref k0, .ref v0, .ref d0, .ref y0, .ref m0, .ref o0])), (a0, .inr (0, [.ref a1, .ref a2, .int (nI co), .int (nI ro), .int sl])), (a1, .inl (cI, 48, .inl th)), (a2, .inl (cI, 48, .inl ow)), (d0, .inr (3, [.ref d1, .ref d2, .int len, .int en])), (d1, .inl (cI, 8, .inl ce)), (d2, .inl (cI, 8, .inl se)), (y0, .inr (4, [.int cd, .int tk]))]
    refine J_if_eq h 14 dX8_gain_4 (by decide) (fun _ => ?_) (fun z => absurd z (by decide))
    refine J_iconst h (v := (-1)) dX8_gain_14 (by decide) ?_
    exact hR ((-1)) (cd, tk, ce, se, len, en) (⟨(by (try dsimp only); unfold fGain; rw [if_neg (fun q => by have q1 := q.1; have q2 := q.2; omega)]), trivial⟩) 15 _ dX8_gain_15
theorem c_X8_gainS (l : Launch) (D : va_G) (cI cE : ClassId) (z0 : Nat) (g0 : Nat) (a0 : Nat) (f0 : Nat) (s0 : Nat) (k0 : Nat) (v0 : Nat) (d0 : Nat) (y0 : Nat) (m0 : Nat) (o0 : Nat) (a1 : Nat) (a2 : Nat) (th : Nat → Int32) (ow : Nat → Int32) (co : Nat) (ro : Nat) (sl : Int32) (d1 : Nat) (d2 : Nat) (ce : Nat → Int32) (se : Nat → Int32) (len : Int32) (en : Int32) (cd : Int32) (tk : Int32) (p0 : Int32) (p1 : Int32) (hrc : ro * co ≤ 48) (hco : co ≤ 6) (hro : ro ≤ 8) (hc0 : 0 < co) : Ci l D cI cE yX8_gain cX8_gain 3 (some .int) 4 0 0 [.ref z0, .int p0, .int p1] [(z0, .inr (8, [.ref g0, .ref a0, .ref f0, .ref s0, .ref k0, .ref v0, .ref d0, .ref y0, .ref m0, .ref o0])), (a0, .inr (0, [.ref a1, .ref a2, .int (nI co), .int (nI ro), .int sl])), (a1, .inl (cI, 48, .inl th)), (a2, .inl (cI, 48, .inl ow)), (d0, .inr (3, [.ref d1, .ref d2, .int len, .int en])), (d1, .inl (cI, 8, .inl ce)), (d2, .inl (cI, 8, .inl se)), (y0, .inr (4, [.int cd, .int tk]))] (fun (r : Int32) (u : (Int32) × (Int32) × (Nat → Int32) × (Nat → Int32) × (Int32) × (Int32)) => ((fGain th ow co ro p0 p1 = r) ∧ (True))) (fun (u : (Int32) × (Int32) × (Nat → Int32) × (Nat → Int32) × (Int32) × (Int32)) => ([(z0, .inr (8, [.ref g0, .ref a0, .ref f0, .ref s0, .ref k0, .ref v0, .ref d0, .ref y0, .ref m0, .ref o0])), (a0, .inr (0, [.ref a1, .ref a2, .int (nI co), .int (nI ro), .int sl])), (a1, .inl (cI, 48, .inl th)), (a2, .inl (cI, 48, .inl ow)), (d0, .inr (3, [.ref d1, .ref d2, .int u.2.2.2.2.1, .int u.2.2.2.2.2])), (d1, .inl (cI, 8, .inl u.2.2.1)), (d2, .inl (cI, 8, .inl u.2.2.2.1)), (y0, .inr (4, [.int u.1, .int u.2.1]))] : va_W)) :=
  Ci.of (by decide) (Nat.le_of_ble_eq_true rfl) (fun _ _ _ => rfl) (fun X h hR => w_X8_gainS X h z0 g0 a0 f0 s0 k0 v0 d0 y0 m0 o0 a1 a2 th ow co ro sl d1 d2 ce se len en cd tk p0 p1 hrc hco hro hc0 hR)
set_option maxRecDepth 100000 in
set_option maxHeartbeats 4000000 in
theorem w_X8_spoilS (X : Cx) {cI cE : ClassId} (h : Ok X cX8_spoil RX8 4 cI cE 4 0 0) (z0 : Nat) (g0 : Nat) (a0 : Nat) (f0 : Nat) (s0 : Nat) (k0 : Nat) (v0 : Nat) (d0 : Nat) (y0 : Nat) (m0 : Nat) (o0 : Nat) (a1 : Nat) (a2 : Nat) (th : Nat → Int32) (ow : Nat → Int32) (co : Nat) (ro : Nat) (sl : Int32) (d1 : Nat) (d2 : Nat) (ce : Nat → Int32) (se : Nat → Int32) (len : Int32) (en : Int32) (cd : Int32) (tk : Int32) (p0 : Int32) (p1 : Int32) (p2 : Int32) (hrc : ro * co ≤ 48) (hco : co ≤ 6) (hro : ro ≤ 8) (hc0 : 0 < co) (hR : ∀ (r : Int32) (u : (Int32) × (Int32) × (Nat → Int32) × (Nat → Int32) × (Int32) × (Int32)), ((fSpoil th ow co ro p0 p1 p2 = r) ∧ (True)) → RetI X cX8_spoil 4 0 0 r [(z0, .inr (8, [.ref g0, .ref a0, .ref f0, .ref s0, .ref k0, .ref v0, .ref d0, .ref y0, .ref m0, .ref o0])), (a0, .inr (0, [.ref a1, .ref a2, .int (nI co), .int (nI ro), .int sl])), (a1, .inl (cI, 48, .inl th)), (a2, .inl (cI, 48, .inl ow)), (d0, .inr (3, [.ref d1, .ref d2, .int u.2.2.2.2.1, .int u.2.2.2.2.2])), (d1, .inl (cI, 8, .inl u.2.2.1)), (d2, .inl (cI, 8, .inl u.2.2.2.1)), (y0, .inr (4, [.int u.1, .int u.2.1]))]) : J X 4 0 0 0 [(0, .ref z0), (1, .int p0), (2, .int p1), (3, .int p2)] [] [(z0, .inr (8, [.ref g0, .ref a0, .ref f0, .ref s0, .ref k0, .ref v0, .ref d0, .ref y0, .ref m0, .ref o0])), (a0, .inr (0, [.ref a1, .ref a2, .int (nI co), .int (nI ro), .int sl])), (a1, .inl (cI, 48, .inl th)), (a2, .inl (cI, 48, .inl ow)), (d0, .inr (3, [.ref d1, .ref d2, .int len, .int en])), (d1, .inl (cI, 8, .inl ce)), (d2, .inl (cI, 8, .inl se)), (y0, .inr (4, [.int cd, .int tk]))] := by
  refine J_iload_n h (i := 1) dX8_spoil_0 rfl 1 rfl ?_
  refine K_si h (wr := [(z0, .inr (8, [.ref g0, .ref a0, .ref f0, .ref s0, .ref k0, .ref v0, .ref d0, .ref y0, .ref m0, .ref o0])), (a0, .inr (0, [.ref a1, .ref a2, .int (nI co), .int (nI ro), .int sl])), (a1, .inl (cI, 48, .inl th)), (a2, .inl (cI, 48, .inl ow)), (d0, .inr (3, [.ref d1, .ref d2, .int len, .int en])), (d1, .inl (cI, 8, .inl ce)), (d2, .inl (cI, 8, .inl se)), (y0, .inr (4, [.int cd, .int tk]))]) (c_X8_isSide (xl X) (xD X) cI cE p0 ((p0).toInt) (by exact rfl)) yv_X8_isSide nm_X8_153 (by decide) (by decide) rfl rfl rfl (Nat.le_of_ble_eq_true rfl) (Nat.le_refl _) (Nat.le_refl _) dX8_spoil_1 (fun r_1 u_1 p_1 => ?_)
  rcases p_1 with p_1 | p_1
  · obtain ⟨rfl, f0_1, -⟩ := p_1
    show J X 4 0 0 4 [(0, .ref z0), (1, .int p0), (2, .int p1), (3, .int p2)] [.int (nI 1)] [(z0, .inr (8, [.ref g0, .ref a0, .ref f0, .ref s0, .ref k0, .ref v0, .ref d0, .ref y0, .ref m0, .ref o0])), (a0, .inr (0, [.ref a1, .ref a2, .int (nI co), .int (nI ro), .int sl])), (a1, .inl (cI, 48, .inl th)), (a2, .inl (cI, 48, .inl ow)), (d0, .inr (3, [.ref d1, .ref d2, .int len, .int en])), (d1, .inl (cI, 8, .inl ce)), (d2, .inl (cI, 8, .inl se)), (y0, .inr (4, [.int cd, .int tk]))]
    refine J_if_eq h 26 dX8_spoil_4 (by decide) (fun z => absurd z (by decide)) (fun _ => ?_)
    refine J_iload_n h (i := 2) dX8_spoil_7 rfl 2 rfl ?_
    refine K_si h (wr := [(z0, .inr (8, [.ref g0, .ref a0, .ref f0, .ref s0, .ref k0, .ref v0, .ref d0, .ref y0, .ref m0, .ref o0])), (a0, .inr (0, [.ref a1, .ref a2, .int (nI co), .int (nI ro), .int sl])), (a1, .inl (cI, 48, .inl th)), (a2, .inl (cI, 48, .inl ow)), (d0, .inr (3, [.ref d1, .ref d2, .int len, .int en])), (d1, .inl (cI, 8, .inl ce)), (d2, .inl (cI, 8, .inl se)), (y0, .inr (4, [.int cd, .int tk]))]) (c_X8_isSide (xl X) (xD X) cI cE p1 ((p1).toInt) (by exact rfl)) yv_X8_isSide nm_X8_153 (by decide) (by decide) rfl rfl rfl (Nat.le_of_ble_eq_true rfl) (Nat.le_refl _) (Nat.le_refl _) dX8_spoil_8 (fun r_8 u_8 p_8 => ?_)
    rcases p_8 with p_8 | p_8
    · obtain ⟨rfl, f0_8, -⟩ := p_8
      show J X 4 0 0 11 [(0, .ref z0), (1, .int p0), (2, .int p1), (3, .int p2)] [.int (nI 1)] [(z0, .inr (8, [.ref g0, .ref a0, .ref f0, .ref s0, .ref k0, .ref v0, .ref d0, .ref y0, .ref m0, .ref o0])), (a0, .inr (0, [.ref a1, .ref a2, .int (nI co), .int (nI ro), .int sl])), (a1, .inl (cI, 48, .inl th)), (a2, .inl (cI, 48, .inl ow)), (d0, .inr (3, [.ref d1, .ref d2, .int len, .int en])), (d1, .inl (cI, 8, .inl ce)), (d2, .inl (cI, 8, .inl se)), (y0, .inr (4, [.int cd, .int tk]))]
      refine J_if_eq h 26 dX8_spoil_11 (by decide) (fun z => absurd z (by decide)) (fun _ => ?_)
      refine J_iload_n h (i := 1) dX8_spoil_14 rfl 1 rfl ?_
      refine J_iload_n h (i := 2) dX8_spoil_15 rfl 2 rfl ?_
      refine J_icmp_eq h 26 dX8_spoil_16 (by decide) (fun c_16 => ?_) (fun c_16 => ?_)
      · skip
        refine J_iconst h (v := (-1)) dX8_spoil_26 (by decide) ?_
        exact hR ((-1)) (cd, tk, ce, se, len, en) (⟨(by (try dsimp only); unfold fSpoil; rw [if_neg (fun q => by have q1 := q.1; have q2 := q.2.1; have q3 := q.2.2.1; have q4 := q.2.2.2; first | exact absurd c_16 q3 | omega)]), trivial⟩) 27 _ dX8_spoil_27
      · skip
        refine J_iload_n h (i := 3) dX8_spoil_19 rfl 3 rfl ?_
        refine K_si h (wr := [(z0, .inr (8, [.ref g0, .ref a0, .ref f0, .ref s0, .ref k0, .ref v0, .ref d0, .ref y0, .ref m0, .ref o0])), (a0, .inr (0, [.ref a1, .ref a2, .int (nI co), .int (nI ro), .int sl])), (a1, .inl (cI, 48, .inl th)), (a2, .inl (cI, 48, .inl ow)), (d0, .inr (3, [.ref d1, .ref d2, .int len, .int en])), (d1, .inl (cI, 8, .inl ce)), (d2, .inl (cI, 8, .inl se)), (y0, .inr (4, [.int cd, .int tk]))]) (c_X8_isFlag (xl X) (xD X) cI cE p2 ) yv_X8_isFlag nm_X8_117 (by decide) (by decide) rfl rfl rfl (Nat.le_of_ble_eq_true rfl) (Nat.le_refl _) (Nat.le_refl _) dX8_spoil_20 (fun r_20 u_20 p_20 => ?_)
        rcases p_20 with p_20 | p_20
        · obtain ⟨rfl, f0_20, -⟩ := p_20
          show J X 4 0 0 23 [(0, .ref z0), (1, .int p0), (2, .int p1), (3, .int p2)] [.int (nI 1)] [(z0, .inr (8, [.ref g0, .ref a0, .ref f0, .ref s0, .ref k0, .ref v0, .ref d0, .ref y0, .ref m0, .ref o0])), (a0, .inr (0, [.ref a1, .ref a2, .int (nI co), .int (nI ro), .int sl])), (a1, .inl (cI, 48, .inl th)), (a2, .inl (cI, 48, .inl ow)), (d0, .inr (3, [.ref d1, .ref d2, .int len, .int en])), (d1, .inl (cI, 8, .inl ce)), (d2, .inl (cI, 8, .inl se)), (y0, .inr (4, [.int cd, .int tk]))]
          refine J_if_ne h 28 dX8_spoil_23 (by decide) (fun _ => ?_) (fun z => absurd z (by decide))
          refine J_aload_n h (i := 0) dX8_spoil_28 rfl 0 rfl ?_
          refine J_get h inX8 rfl 0 7 (by decide) rfl rfl nf_X8_55 dX8_spoil_29 ?_
          refine J_aload_n h (i := 0) dX8_spoil_32 rfl 0 rfl ?_
          refine J_get h inX8 rfl 0 1 (by decide) rfl rfl nf_X8_19 dX8_spoil_33 ?_
          refine J_aload_n h (i := 0) dX8_spoil_36 rfl 0 rfl ?_
          refine J_get h inX8 rfl 0 6 (by decide) rfl rfl nf_X8_48 dX8_spoil_37 ?_
          refine J_iload_n h (i := 2) dX8_spoil_40 rfl 2 rfl ?_
          refine J_iconst h (v := nI 1) dX8_spoil_41 (by decide) ?_
          refine J.wld [7, 1, 2, 3, 4, 5, 6, 0] (ws' := [(y0, .inr (4, [.int cd, .int tk])), (a0, .inr (0, [.ref a1, .ref a2, .int (nI co), .int (nI ro), .int sl])), (a1, .inl (cI, 48, .inl th)), (a2, .inl (cI, 48, .inl ow)), (d0, .inr (3, [.ref d1, .ref d2, .int len, .int en])), (d1, .inl (cI, 8, .inl ce)), (d2, .inl (cI, 8, .inl se)), (z0, .inr (8, [.ref g0, .ref a0, .ref f0, .ref s0, .ref k0, .ref v0, .ref d0, .ref y0, .ref m0, .ref o0]))]) rfl rfl ?_
          refine K_vv h (wr := [(z0, .inr (8, [.ref g0, .ref a0, .ref f0, .ref s0, .ref k0, .ref v0, .ref d0, .ref y0, .ref m0, .ref o0]))]) (c_X4_findMostTakenS (xl X) (xD X) cI cE y0 cd tk a0 a1 a2 th ow co ro sl d0 d1 d2 ce se len en p1 1 (by first | exact hrc |  assumption | omega | rfl) (by first | exact hco |  assumption | omega | rfl) (by first | exact hro |  assumption | omega | rfl) (by first | assumption | omega | rfl)) yv_X4_findMostTaken nm_X8_193 (by decide) (by decide) rfl rfl 0 rfl rfl rfl rfl (Nat.le_of_ble_eq_true rfl) (Nat.le_refl _) (Nat.le_refl _) dX8_spoil_42 (fun u_42 p_42 => ?_)
          obtain ⟨cd2_42, tk2_42, ce2_42, se2_42, ln2_42, en2_42⟩ := u_42
          try dsimp only at p_42
          obtain ⟨f0_42, -⟩ := p_42
          show J X 4 0 0 45 [(0, .ref z0), (1, .int p0), (2, .int p1), (3, .int p2)] [] [(y0, .inr (4, [.int cd2_42, .int tk2_42])), (a0, .inr (0, [.ref a1, .ref a2, .int (nI co), .int (nI ro), .int sl])), (a1, .inl (cI, 48, .inl th)), (a2, .inl (cI, 48, .inl ow)), (d0, .inr (3, [.ref d1, .ref d2, .int ln2_42, .int en2_42])), (d1, .inl (cI, 8, .inl ce2_42)), (d2, .inl (cI, 8, .inl se2_42)), (z0, .inr (8, [.ref g0, .ref a0, .ref f0, .ref s0, .ref k0, .ref v0, .ref d0, .ref y0, .ref m0, .ref o0]))]
          refine J_iload_n h (i := 3) dX8_spoil_45 rfl 3 rfl ?_
          refine T_if_ne h (A := (p2).toInt) 59 dX8_spoil_46 (by decide) (rfl) (fun c_46 => ?_) (fun c_46 => ?_)
          · skip
            refine J_aload_n h (i := 0) dX8_spoil_59 rfl 0 rfl ?_
            refine J_get h inX8 rfl 7 1 (by decide) rfl rfl nf_X8_19 dX8_spoil_60 ?_
            refine J_iload_n h (i := 2) dX8_spoil_63 rfl 2 rfl ?_
            refine J.wld [1, 2, 3, 0, 4, 5, 6, 7] (ws' := [(a0, .inr (0, [.ref a1, .ref a2, .int (nI co), .int (nI ro), .int sl])), (a1, .inl (cI, 48, .inl th)), (a2, .inl (cI, 48, .inl ow)), (y0, .inr (4, [.int cd2_42, .int tk2_42])), (d0, .inr (3, [.ref d1, .ref d2, .int ln2_42, .int en2_42])), (d1, .inl (cI, 8, .inl ce2_42)), (d2, .inl (cI, 8, .inl se2_42)), (z0, .inr (8, [.ref g0, .ref a0, .ref f0, .ref s0, .ref k0, .ref v0, .ref d0, .ref y0, .ref m0, .ref o0]))]) rfl rfl ?_
            refine K_vi h (wr := [(y0, .inr (4, [.int cd2_42, .int tk2_42])), (d0, .inr (3, [.ref d1, .ref d2, .int ln2_42, .int en2_42])), (d1, .inl (cI, 8, .inl ce2_42)), (d2, .inl (cI, 8, .inl se2_42)), (z0, .inr (8, [.ref g0, .ref a0, .ref f0, .ref s0, .ref k0, .ref v0, .ref d0, .ref y0, .ref m0, .ref o0]))]) (c_X0_cellsOf (xl X) (xD X) cI cE a0 a1 a2 th ow co ro sl p1 (by first | exact hrc |  assumption | omega | rfl)) yv_X0_cellsOf nm_X8_156 (by decide) (by decide) rfl rfl 0 rfl rfl rfl rfl (Nat.le_of_ble_eq_true rfl) (Nat.le_refl _) (Nat.le_refl _) dX8_spoil_64 (fun r_64 u_64 p_64 => ?_)
            obtain ⟨rfl, -⟩ := p_64
            show J X 4 0 0 67 [(0, .ref z0), (1, .int p0), (2, .int p1), (3, .int p2)] [.int (nI (cntP (fun k => decide (ow k = p1)) (ro * co)))] [(a0, .inr (0, [.ref a1, .ref a2, .int (nI co), .int (nI ro), .int sl])), (a1, .inl (cI, 48, .inl th)), (a2, .inl (cI, 48, .inl ow)), (y0, .inr (4, [.int cd2_42, .int tk2_42])), (d0, .inr (3, [.ref d1, .ref d2, .int ln2_42, .int en2_42])), (d1, .inl (cI, 8, .inl ce2_42)), (d2, .inl (cI, 8, .inl se2_42)), (z0, .inr (8, [.ref g0, .ref a0, .ref f0, .ref s0, .ref k0, .ref v0, .ref d0, .ref y0, .ref m0, .ref o0]))]
            refine J_aload_n h (i := 0) dX8_spoil_67 rfl 0 rfl ?_
            refine J_get h inX8 rfl 7 7 (by decide) rfl rfl nf_X8_55 dX8_spoil_68 ?_
            refine J_get h inX4 rfl 3 1 (by decide) rfl rfl nf_X8_200 dX8_spoil_71 ?_
            refine J_isub h dX8_spoil_74 ?_
            refine J.wld [7, 0, 1, 2, 4, 5, 6, 3] (ws' := [(z0, .inr (8, [.ref g0, .ref a0, .ref f0, .ref s0, .ref k0, .ref v0, .ref d0, .ref y0, .ref m0, .ref o0])), (a0, .inr (0, [.ref a1, .ref a2, .int (nI co), .int (nI ro), .int sl])), (a1, .inl (cI, 48, .inl th)), (a2, .inl (cI, 48, .inl ow)), (d0, .inr (3, [.ref d1, .ref d2, .int ln2_42, .int en2_42])), (d1, .inl (cI, 8, .inl ce2_42)), (d2, .inl (cI, 8, .inl se2_42)), (y0, .inr (4, [.int cd2_42, .int tk2_42]))]) rfl rfl ?_
            exact hR ((nI (cntP (fun k => decide (ow k = p1)) (ro * co))) - tk2_42) (cd2_42, tk2_42, ce2_42, se2_42, ln2_42, en2_42) (⟨(by (try dsimp only); unfold fSpoil; rw [if_pos ⟨by omega, by omega, by assumption, by omega⟩]; first | exact (fBest_c hc0 f0_42).1 (by omega) | exact (fBest_c hc0 f0_42).2.2 rfl (by omega)), trivial⟩) 75 _ dX8_spoil_75
          · skip
            refine J_aload_n h (i := 0) dX8_spoil_49 rfl 0 rfl ?_
            refine J_get h inX8 rfl 7 7 (by decide) rfl rfl nf_X8_55 dX8_spoil_50 ?_
            refine J_get h inX4 rfl 0 0 (by decide) rfl rfl nf_X8_197 dX8_spoil_53 ?_
            refine J_goto h 75 dX8_spoil_56 (by decide) ?_
            refine J.wld [7, 1, 2, 3, 4, 5, 6, 0] (ws' := [(z0, .inr (8, [.ref g0, .ref a0, .ref f0, .ref s0, .ref k0, .ref v0, .ref d0, .ref y0, .ref m0, .ref o0])), (a0, .inr (0, [.ref a1, .ref a2, .int (nI co), .int (nI ro), .int sl])), (a1, .inl (cI, 48, .inl th)), (a2, .inl (cI, 48, .inl ow)), (d0, .inr (3, [.ref d1, .ref d2, .int ln2_42, .int en2_42])), (d1, .inl (cI, 8, .inl ce2_42)), (d2, .inl (cI, 8, .inl se2_42)), (y0, .inr (4, [.int cd2_42, .int tk2_42]))]) rfl rfl ?_
            exact hR cd2_42 (cd2_42, tk2_42, ce2_42, se2_42, ln2_42, en2_42) (⟨(by (try dsimp only); unfold fSpoil; rw [if_pos ⟨by omega, by omega, by assumption, by omega⟩]; first | exact (fBest_c hc0 f0_42).1 (by omega) | exact (fBest_c hc0 f0_42).2.2 rfl (by omega)), trivial⟩) 75 _ dX8_spoil_75
        · obtain ⟨rfl, f0_20, -⟩ := p_20
          show J X 4 0 0 23 [(0, .ref z0), (1, .int p0), (2, .int p1), (3, .int p2)] [.int (nI 0)] [(z0, .inr (8, [.ref g0, .ref a0, .ref f0, .ref s0, .ref k0, .ref v0, .ref d0, .ref y0, .ref m0, .ref o0])), (a0, .inr (0, [.ref a1, .ref a2, .int (nI co), .int (nI ro), .int sl])), (a1, .inl (cI, 48, .inl th)), (a2, .inl (cI, 48, .inl ow)), (d0, .inr (3, [.ref d1, .ref d2, .int len, .int en])), (d1, .inl (cI, 8, .inl ce)), (d2, .inl (cI, 8, .inl se)), (y0, .inr (4, [.int cd, .int tk]))]
          refine J_if_ne h 28 dX8_spoil_23 (by decide) (fun z => absurd z (by decide)) (fun _ => ?_)
          refine J_iconst h (v := (-1)) dX8_spoil_26 (by decide) ?_
          exact hR ((-1)) (cd, tk, ce, se, len, en) (⟨(by (try dsimp only); unfold fSpoil; rw [if_neg (fun q => by have q1 := q.1; have q2 := q.2.1; have q3 := q.2.2.1; have q4 := q.2.2.2; first | exact absurd c_16 q3 | omega)]), trivial⟩) 27 _ dX8_spoil_27
    · obtain ⟨rfl, f0_8, -⟩ := p_8
      show J X 4 0 0 11 [(0, .ref z0), (1, .int p0), (2, .int p1), (3, .int p2)] [.int (nI 0)] [(z0, .inr (8, [.ref g0, .ref a0, .ref f0, .ref s0, .ref k0, .ref v0, .ref d0, .ref y0, .ref m0, .ref o0])), (a0, .inr (0, [.ref a1, .ref a2, .int (nI co), .int (nI ro), .int sl])), (a1, .inl (cI, 48, .inl th)), (a2, .inl (cI, 48, .inl ow)), (d0, .inr (3, [.ref d1, .ref d2, .int len, .int en])), (d1, .inl (cI, 8, .inl ce)), (d2, .inl (cI, 8, .inl se)), (y0, .inr (4, [.int cd, .int tk]))]
      refine J_if_eq h 26 dX8_spoil_11 (by decide) (fun _ => ?_) (fun z => absurd z (by decide))
      refine J_iconst h (v := (-1)) dX8_spoil_26 (by decide) ?_
      exact hR ((-1)) (cd, tk, ce, se, len, en) (⟨(by (try dsimp only); unfold fSpoil; rw [if_neg (fun q => by have q1 := q.1; have q2 := q.2.1; have q3 := q.2.2.1; have q4 := q.2.2.2; first | exact absurd c_16 q3 | omega)]), trivial⟩) 27 _ dX8_spoil_27
  · obtain ⟨rfl, f0_1, -⟩ := p_1
    show J X 4 0 0 4 [(0, .ref z0), (1, .int p0), (2, .int p1), (3, .int p2)] [.int (nI 0)] [(z0, .inr (8, [.ref g0, .ref a0, .ref f0, .ref s0, .ref k0, .ref v0, .ref d0, .ref y0, .ref m0, .ref o0])), (a0, .inr (0, [.ref a1, .ref a2, .int (nI co), .int (nI ro), .int sl])), (a1, .inl (cI, 48, .inl th)), (a2, .inl (cI, 48, .inl ow)), (d0, .inr (3, [.ref d1, .ref d2, .int len, .int en])), (d1, .inl (cI, 8, .inl ce)), (d2, .inl (cI, 8, .inl se)), (y0, .inr (4, [.int cd, .int tk]))]
    refine J_if_eq h 26 dX8_spoil_4 (by decide) (fun _ => ?_) (fun z => absurd z (by decide))
    refine J_iconst h (v := (-1)) dX8_spoil_26 (by decide) ?_
    exact hR ((-1)) (cd, tk, ce, se, len, en) (⟨(by (try dsimp only); unfold fSpoil; rw [if_neg (fun q => by have q1 := q.1; have q2 := q.2.1; have q3 := q.2.2.1; have q4 := q.2.2.2; first | exact absurd c_16 q3 | omega)]), trivial⟩) 27 _ dX8_spoil_27
theorem c_X8_spoilS (l : Launch) (D : va_G) (cI cE : ClassId) (z0 : Nat) (g0 : Nat) (a0 : Nat) (f0 : Nat) (s0 : Nat) (k0 : Nat) (v0 : Nat) (d0 : Nat) (y0 : Nat) (m0 : Nat) (o0 : Nat) (a1 : Nat) (a2 : Nat) (th : Nat → Int32) (ow : Nat → Int32) (co : Nat) (ro : Nat) (sl : Int32) (d1 : Nat) (d2 : Nat) (ce : Nat → Int32) (se : Nat → Int32) (len : Int32) (en : Int32) (cd : Int32) (tk : Int32) (p0 : Int32) (p1 : Int32) (p2 : Int32) (hrc : ro * co ≤ 48) (hco : co ≤ 6) (hro : ro ≤ 8) (hc0 : 0 < co) : Ci l D cI cE yX8_spoil cX8_spoil 4 (some .int) 4 0 0 [.ref z0, .int p0, .int p1, .int p2] [(z0, .inr (8, [.ref g0, .ref a0, .ref f0, .ref s0, .ref k0, .ref v0, .ref d0, .ref y0, .ref m0, .ref o0])), (a0, .inr (0, [.ref a1, .ref a2, .int (nI co), .int (nI ro), .int sl])), (a1, .inl (cI, 48, .inl th)), (a2, .inl (cI, 48, .inl ow)), (d0, .inr (3, [.ref d1, .ref d2, .int len, .int en])), (d1, .inl (cI, 8, .inl ce)), (d2, .inl (cI, 8, .inl se)), (y0, .inr (4, [.int cd, .int tk]))] (fun (r : Int32) (u : (Int32) × (Int32) × (Nat → Int32) × (Nat → Int32) × (Int32) × (Int32)) => ((fSpoil th ow co ro p0 p1 p2 = r) ∧ (True))) (fun (u : (Int32) × (Int32) × (Nat → Int32) × (Nat → Int32) × (Int32) × (Int32)) => ([(z0, .inr (8, [.ref g0, .ref a0, .ref f0, .ref s0, .ref k0, .ref v0, .ref d0, .ref y0, .ref m0, .ref o0])), (a0, .inr (0, [.ref a1, .ref a2, .int (nI co), .int (nI ro), .int sl])), (a1, .inl (cI, 48, .inl th)), (a2, .inl (cI, 48, .inl ow)), (d0, .inr (3, [.ref d1, .ref d2, .int u.2.2.2.2.1, .int u.2.2.2.2.2])), (d1, .inl (cI, 8, .inl u.2.2.1)), (d2, .inl (cI, 8, .inl u.2.2.2.1)), (y0, .inr (4, [.int u.1, .int u.2.1]))] : va_W)) :=
  Ci.of (by decide) (Nat.le_of_ble_eq_true rfl) (fun _ _ _ => rfl) (fun X h hR => w_X8_spoilS X h z0 g0 a0 f0 s0 k0 v0 d0 y0 m0 o0 a1 a2 th ow co ro sl d1 d2 ce se len en cd tk p0 p1 p2 hrc hco hro hc0 hR)
set_option maxRecDepth 100000 in
set_option maxHeartbeats 4000000 in
theorem w_X9_ownedThenS_9 (X : Cx) {cI cE : ClassId} (h : Ok X cX9_ownedThen RX9 6 cI cE 2 0 0) (q0 : Nat) (q3 : Nat) (q4 : Nat) (q6 : Nat) (q7 : Nat) (q8 : Nat) (q9 : Nat) (q14 : Nat) (q15 : Nat) (q17 : Nat) (q18 : Nat) (q19 : Nat) (q23 : Nat) (q24 : Nat) (q25 : Nat) (ro : Nat) (co : Nat) (sl : Int32) (sn : Int32) (ts : Int32) (ra : Int32) (rr : Int32) (rw : Int32) (rn : Int32) (um : Int32) (bs : Int32) (bh : Int32) (km : Int32) (th : Nat → Int32) (mo : Nat → Int32) (ce : Nat → Int32) (se : Nat → Int32) (cth : Nat → Int32) (cow : Nat → Int32) (p0 : Int32) (p1 : Int32) (cl : Nat → Nat) (len : Nat) (its : Nat) (hrc : ro * co ≤ 48) (hco : co ≤ 6) (hro : ro ≤ 8) (hrel : rel (ro * co) th mo cth cow) (hc : ∀ k, k < len → ce k = nI (cl k) ∧ cl k < ro * co) (hcn : ∀ k, len ≤ k → k < 8 → ce k = (-4)) (hl : len ≤ ro) (hs : 0 ≤ p0.toInt ∧ p0.toInt < 4) (hby : (its = 0 ∧ p0 = p1) ∨ (its = 1 ∧ ¬ p0 = p1)) (hR : ∀ (r : Int32) (u : Unit), ((valI its (ownN cow (ro * co) p0) (cntP (fun k => decide (cow (cl k) = p0 ↔ its = 1)) len) = r) ∧ (True)) → RetI X cX9_ownedThen 6 0 0 r [(q0, .inr (9, [.int (nI ro), .int (nI co), .int sl, .ref q3, .ref q4, .int sn, .ref q6, .ref q7, .ref q8, .ref q9, .int ts, .int ra, .int rr, .int rw, .ref q14, .ref q15, .int rn, .ref q17, .ref q18, .ref q19, .int um, .int bs, .int bh, .ref q23, .ref q24, .ref q25, .int km])), (q3, .inl (cI, 48, .inl th)), (q4, .inl (cI, 48, .inl mo)), (q17, .inl (cI, 8, .inl ce)), (q18, .inl (cI, 8, .inl se))]) : ∀ (n_9 : Nat) (i : Nat) (n : Int32), (i ≤ ro) → (n = valI its (ownN cow (ro * co) p0) (cntP (fun k => decide (cow (cl k) = p0 ↔ its = 1)) (min i len))) → ro - i < n_9 → J X 6 0 0 9 [(0, .ref q0), (1, .int p0), (2, .int p1), (3, .int n), (4, .int (nI i))] [] [(q0, .inr (9, [.int (nI ro), .int (nI co), .int sl, .ref q3, .ref q4, .int sn, .ref q6, .ref q7, .ref q8, .ref q9, .int ts, .int ra, .int rr, .int rw, .ref q14, .ref q15, .int rn, .ref q17, .ref q18, .ref q19, .int um, .int bs, .int bh, .ref q23, .ref q24, .ref q25, .int km])), (q3, .inl (cI, 48, .inl th)), (q4, .inl (cI, 48, .inl mo)), (q17, .inl (cI, 8, .inl ce)), (q18, .inl (cI, 8, .inl se))] := by
  intro n_9
  induction n_9 with
  | zero => intro i n hi hn hn_; exact absurd hn_ (Nat.not_lt_zero _)
  | succ n_9 ih_9 =>
    intro i n hi hn hn_9
    refine J_iload h dX9_ownedThen_9 4 rfl ?_
    refine J_aload_n h (i := 0) dX9_ownedThen_11 rfl 0 rfl ?_
    refine J_get h inX9 rfl 0 0 (by decide) rfl rfl nf_X9_60 dX9_ownedThen_12 ?_
    refine N_icmp_ge h 103 dX9_ownedThen_15 (by decide) (by omega) (by omega) (fun c_15 => ?_) (fun c_15 => ?_)
    · skip
      refine J_iload_n h (i := 3) dX9_ownedThen_103 rfl 3 rfl ?_
      exact hR n () (⟨(by rw [hn, show min i len = len by omega]), trivial⟩) 104 _ dX9_ownedThen_104
    · skip
      refine J_aload_n h (i := 0) dX9_ownedThen_18 rfl 0 rfl ?_
      refine J_get h inX9 rfl 0 17 (by decide) rfl rfl nf_X9_34 dX9_ownedThen_19 ?_
      refine J_iload h dX9_ownedThen_22 4 rfl ?_
      refine N_iald h 3 rfl (by decide) (by omega) dX9_ownedThen_24 ?_
      refine J_bipush h (v := (-4)) dX9_ownedThen_25 (by decide) ?_
      refine T_icmp_eq h (A := (ce i).toInt) (B := (-4)) 50 dX9_ownedThen_27 (by decide) (rfl) (by decide) (fun c_27 => ?_) (fun c_27 => ?_)
      · skip
        refine J_iconst h (v := nI 0) dX9_ownedThen_50 (by decide) ?_
        refine J_istore h (lv' := [(5, .int (nI 0)), (0, .ref q0), (1, .int p0), (2, .int p1), (3, .int n), (4, .int (nI i))]) dX9_ownedThen_51 (by decide) rfl ?_
        refine J_iload_n h (i := 3) dX9_ownedThen_53 rfl 4 rfl ?_
        refine J_aload_n h (i := 0) dX9_ownedThen_54 rfl 1 rfl ?_
        refine J_get h inX9 rfl 0 17 (by decide) rfl rfl nf_X9_34 dX9_ownedThen_55 ?_
        refine J_iload h dX9_ownedThen_58 5 rfl ?_
        refine N_iald h 3 rfl (by decide) (by omega) dX9_ownedThen_60 ?_
        refine J_bipush h (v := (-4)) dX9_ownedThen_61 (by decide) ?_
        refine T_icmp_eq h (A := (ce i).toInt) (B := (-4)) 81 dX9_ownedThen_63 (by decide) (rfl) (by decide) (fun c_63 => ?_) (fun c_63 => ?_)
        · skip
          refine J_iconst h (v := nI 0) dX9_ownedThen_81 (by decide) ?_
          refine J_goto h 95 dX9_ownedThen_82 (by decide) ?_
          refine J_iadd h dX9_ownedThen_95 ?_
          refine J_istore_n h (i := 3) (lv' := [(3, .int (n + (nI 0))), (5, .int (nI 0)), (0, .ref q0), (1, .int p0), (2, .int p1), (4, .int (nI i))]) dX9_ownedThen_96 rfl (by decide) rfl ?_
          refine J_iinc h (v := nI (i + 1)) (lv' := [(4, .int (nI (i + 1))), (3, .int (n + (nI 0))), (5, .int (nI 0)), (0, .ref q0), (1, .int p0), (2, .int p1)]) dX9_ownedThen_97 5 rfl (inc_ok _ 1) (by decide) rfl ?_
          refine J_goto h 9 dX9_ownedThen_100 (by decide) ?_
          refine J.loc [3, 4, 5, 1, 0] (lv' := [(0, .ref q0), (1, .int p0), (2, .int p1), (3, .int (n + (nI 0))), (4, .int (nI (i + 1)))]) rfl ?_
          exact ih_9 (i + 1) (n + (nI 0)) (by first | exact hi |  assumption | omega | rfl) (by first | exact ot_out hn (gv_ge hrc hc c_27) | exact absurd c_27 c_63 | exact absurd c_63 c_27 | exact absurd c_70 c_87 | exact absurd c_87 c_70 | (rcases hby with ⟨h0, hb⟩ | ⟨h1, hb⟩; (first | exact absurd hb c_70 | exact ot_0 hn hil (fun q => by have z := (of_decide_eq_true q).mp (hmw.mp c_43); omega)); (first | exact absurd c_70 hb | exact ot_0 hn hil (fun q => c_43 (hmw.mpr ((of_decide_eq_true q).mpr h1)))))) (by omega)
        · skip
          refine J_iload h dX9_ownedThen_66 0 rfl ?_
          refine J_iload_n h (i := 1) dX9_ownedThen_68 rfl 2 rfl ?_
          refine J_iload_n h (i := 2) dX9_ownedThen_69 rfl 3 rfl ?_
          refine J_icmp_ne h 77 dX9_ownedThen_70 (by decide) (fun c_70 => ?_) (fun c_70 => ?_)
          · skip
            refine J_iconst h (v := nI 0) dX9_ownedThen_77 (by decide) ?_
            refine J_icmp_ne h 85 dX9_ownedThen_78 (by decide) (fun z => absurd z (by decide)) (fun _ => ?_)
            refine J_iconst h (v := nI 0) dX9_ownedThen_81 (by decide) ?_
            refine J_goto h 95 dX9_ownedThen_82 (by decide) ?_
            refine J_iadd h dX9_ownedThen_95 ?_
            refine J_istore_n h (i := 3) (lv' := [(3, .int (n + (nI 0))), (5, .int (nI 0)), (0, .ref q0), (1, .int p0), (2, .int p1), (4, .int (nI i))]) dX9_ownedThen_96 rfl (by decide) rfl ?_
            refine J_iinc h (v := nI (i + 1)) (lv' := [(4, .int (nI (i + 1))), (3, .int (n + (nI 0))), (5, .int (nI 0)), (0, .ref q0), (1, .int p0), (2, .int p1)]) dX9_ownedThen_97 5 rfl (inc_ok _ 1) (by decide) rfl ?_
            refine J_goto h 9 dX9_ownedThen_100 (by decide) ?_
            refine J.loc [3, 4, 5, 1, 0] (lv' := [(0, .ref q0), (1, .int p0), (2, .int p1), (3, .int (n + (nI 0))), (4, .int (nI (i + 1)))]) rfl ?_
            exact ih_9 (i + 1) (n + (nI 0)) (by first | exact hi |  assumption | omega | rfl) (by first | exact ot_out hn (gv_ge hrc hc c_27) | exact absurd c_27 c_63 | exact absurd c_63 c_27 | exact absurd c_70 c_87 | exact absurd c_87 c_70 | (rcases hby with ⟨h0, hb⟩ | ⟨h1, hb⟩; (first | exact absurd hb c_70 | exact ot_0 hn hil (fun q => by have z := (of_decide_eq_true q).mp (hmw.mp c_43); omega)); (first | exact absurd c_70 hb | exact ot_0 hn hil (fun q => c_43 (hmw.mpr ((of_decide_eq_true q).mpr h1)))))) (by omega)
          · skip
            refine J_iconst h (v := nI 1) dX9_ownedThen_73 (by decide) ?_
            refine J_goto h 78 dX9_ownedThen_74 (by decide) ?_
            refine J_icmp_ne h 85 dX9_ownedThen_78 (by decide) (fun _ => ?_) (fun z => absurd z (by decide))
            refine J_iload_n h (i := 1) dX9_ownedThen_85 rfl 2 rfl ?_
            refine J_iload_n h (i := 2) dX9_ownedThen_86 rfl 3 rfl ?_
            refine J_icmp_ne h 94 dX9_ownedThen_87 (by decide) (fun c_87 => ?_) (fun c_87 => ?_)
            · skip
              refine J_iconst h (v := (-1)) dX9_ownedThen_94 (by decide) ?_
              refine J_iadd h dX9_ownedThen_95 ?_
              refine J_istore_n h (i := 3) (lv' := [(3, .int (n + ((-1)))), (5, .int (nI 0)), (0, .ref q0), (1, .int p0), (2, .int p1), (4, .int (nI i))]) dX9_ownedThen_96 rfl (by decide) rfl ?_
              refine J_iinc h (v := nI (i + 1)) (lv' := [(4, .int (nI (i + 1))), (3, .int (n + ((-1)))), (5, .int (nI 0)), (0, .ref q0), (1, .int p0), (2, .int p1)]) dX9_ownedThen_97 5 rfl (inc_ok _ 1) (by decide) rfl ?_
              refine J_goto h 9 dX9_ownedThen_100 (by decide) ?_
              refine J.loc [3, 4, 5, 1, 0] (lv' := [(0, .ref q0), (1, .int p0), (2, .int p1), (3, .int (n + ((-1)))), (4, .int (nI (i + 1)))]) rfl ?_
              exact ih_9 (i + 1) (n + ((-1))) (by first | exact hi |  assumption | omega | rfl) (by first | exact absurd c_27 c_63 | exact absurd c_63 c_27 | exact absurd c_70 c_87 | exact absurd c_87 c_70 | (rcases hby with ⟨h0, hb⟩ | ⟨h1, hb⟩; (first | exact absurd hb c_70 | exact absurd hb c_70); (first | exact absurd c_70 hb | exact ot_m hn hil h1 (decide_eq_true ⟨fun _ => h1, fun _ => hmw.mp c_43⟩)))) (by omega)
            · skip
              refine J_iconst h (v := nI 1) dX9_ownedThen_90 (by decide) ?_
              refine J_goto h 95 dX9_ownedThen_91 (by decide) ?_
              refine J_iadd h dX9_ownedThen_95 ?_
              refine J_istore_n h (i := 3) (lv' := [(3, .int (n + (nI 1))), (5, .int (nI 0)), (0, .ref q0), (1, .int p0), (2, .int p1), (4, .int (nI i))]) dX9_ownedThen_96 rfl (by decide) rfl ?_
              refine J_iinc h (v := nI (i + 1)) (lv' := [(4, .int (nI (i + 1))), (3, .int (n + (nI 1))), (5, .int (nI 0)), (0, .ref q0), (1, .int p0), (2, .int p1)]) dX9_ownedThen_97 5 rfl (inc_ok _ 1) (by decide) rfl ?_
              refine J_goto h 9 dX9_ownedThen_100 (by decide) ?_
              refine J.loc [3, 4, 5, 1, 0] (lv' := [(0, .ref q0), (1, .int p0), (2, .int p1), (3, .int (n + (nI 1))), (4, .int (nI (i + 1)))]) rfl ?_
              exact ih_9 (i + 1) (n + (nI 1)) (by first | exact hi |  assumption | omega | rfl) (by first | exact absurd c_27 c_63 | exact absurd c_63 c_27 | exact absurd c_70 c_87 | exact absurd c_87 c_70 | (rcases hby with ⟨h0, hb⟩ | ⟨h1, hb⟩; (first | exact absurd hb c_70 | exact ot_1 hn hil h0 (decide_eq_true ⟨fun q => absurd (hmw.mpr q) c_43, fun q => absurd q (by omega)⟩)); (first | exact absurd c_70 hb | exact absurd c_70 hb))) (by omega)
      · skip
        have hil := gv_lt hcn (show i < 8 by omega) c_27
        obtain ⟨hc1, hc2⟩ := hc i hil
        have hmw := rel_own hrel hc2 hs
        refine J_aload_n h (i := 0) dX9_ownedThen_30 rfl 0 rfl ?_
        refine J_get h inX9 rfl 0 4 (by decide) rfl rfl nf_X9_13 dX9_ownedThen_31 ?_
        refine J_aload_n h (i := 0) dX9_ownedThen_34 rfl 0 rfl ?_
        refine J_get h inX9 rfl 0 17 (by decide) rfl rfl nf_X9_34 dX9_ownedThen_35 ?_
        refine J_iload h dX9_ownedThen_38 4 rfl ?_
        refine N_iald h 3 rfl (by decide) (by omega) dX9_ownedThen_40 ?_
        refine J_eqs (st' := [.int (nI (cl i)), .ref q4]) (by rw [hc1]) ?_
        refine N_iald h 2 rfl (by decide) (by omega) dX9_ownedThen_41 ?_
        refine J_iload_n h (i := 1) dX9_ownedThen_42 rfl 1 rfl ?_
        refine J_icmp_ne h 50 dX9_ownedThen_43 (by decide) (fun c_43 => ?_) (fun c_43 => ?_)
        · skip
          refine J_iconst h (v := nI 0) dX9_ownedThen_50 (by decide) ?_
          refine J_istore h (lv' := [(5, .int (nI 0)), (0, .ref q0), (1, .int p0), (2, .int p1), (3, .int n), (4, .int (nI i))]) dX9_ownedThen_51 (by decide) rfl ?_
          refine J_iload_n h (i := 3) dX9_ownedThen_53 rfl 4 rfl ?_
          refine J_aload_n h (i := 0) dX9_ownedThen_54 rfl 1 rfl ?_
          refine J_get h inX9 rfl 0 17 (by decide) rfl rfl nf_X9_34 dX9_ownedThen_55 ?_
          refine J_iload h dX9_ownedThen_58 5 rfl ?_
          refine N_iald h 3 rfl (by decide) (by omega) dX9_ownedThen_60 ?_
          refine J_bipush h (v := (-4)) dX9_ownedThen_61 (by decide) ?_
          refine T_icmp_eq h (A := (ce i).toInt) (B := (-4)) 81 dX9_ownedThen_63 (by decide) (rfl) (by decide) (fun c_63 => ?_) (fun c_63 => ?_)
          · skip
            refine J_iconst h (v := nI 0) dX9_ownedThen_81 (by decide) ?_
            refine J_goto h 95 dX9_ownedThen_82 (by decide) ?_
            refine J_iadd h dX9_ownedThen_95 ?_
            refine J_istore_n h (i := 3) (lv' := [(3, .int (n + (nI 0))), (5, .int (nI 0)), (0, .ref q0), (1, .int p0), (2, .int p1), (4, .int (nI i))]) dX9_ownedThen_96 rfl (by decide) rfl ?_
            refine J_iinc h (v := nI (i + 1)) (lv' := [(4, .int (nI (i + 1))), (3, .int (n + (nI 0))), (5, .int (nI 0)), (0, .ref q0), (1, .int p0), (2, .int p1)]) dX9_ownedThen_97 5 rfl (inc_ok _ 1) (by decide) rfl ?_
            refine J_goto h 9 dX9_ownedThen_100 (by decide) ?_
            refine J.loc [3, 4, 5, 1, 0] (lv' := [(0, .ref q0), (1, .int p0), (2, .int p1), (3, .int (n + (nI 0))), (4, .int (nI (i + 1)))]) rfl ?_
            exact ih_9 (i + 1) (n + (nI 0)) (by first | exact hi |  assumption | omega | rfl) (by first | exact ot_out hn (gv_ge hrc hc c_27) | exact absurd c_27 c_63 | exact absurd c_63 c_27 | exact absurd c_70 c_87 | exact absurd c_87 c_70 | (rcases hby with ⟨h0, hb⟩ | ⟨h1, hb⟩; (first | exact absurd hb c_70 | exact ot_0 hn hil (fun q => by have z := (of_decide_eq_true q).mp (hmw.mp c_43); omega)); (first | exact absurd c_70 hb | exact ot_0 hn hil (fun q => c_43 (hmw.mpr ((of_decide_eq_true q).mpr h1)))))) (by omega)
          · skip
            refine J_iload h dX9_ownedThen_66 0 rfl ?_
            refine J_iload_n h (i := 1) dX9_ownedThen_68 rfl 2 rfl ?_
            refine J_iload_n h (i := 2) dX9_ownedThen_69 rfl 3 rfl ?_
            refine J_icmp_ne h 77 dX9_ownedThen_70 (by decide) (fun c_70 => ?_) (fun c_70 => ?_)
            · skip
              refine J_iconst h (v := nI 0) dX9_ownedThen_77 (by decide) ?_
              refine J_icmp_ne h 85 dX9_ownedThen_78 (by decide) (fun z => absurd z (by decide)) (fun _ => ?_)
              refine J_iconst h (v := nI 0) dX9_ownedThen_81 (by decide) ?_
              refine J_goto h 95 dX9_ownedThen_82 (by decide) ?_
              refine J_iadd h dX9_ownedThen_95 ?_
              refine J_istore_n h (i := 3) (lv' := [(3, .int (n + (nI 0))), (5, .int (nI 0)), (0, .ref q0), (1, .int p0), (2, .int p1), (4, .int (nI i))]) dX9_ownedThen_96 rfl (by decide) rfl ?_
              refine J_iinc h (v := nI (i + 1)) (lv' := [(4, .int (nI (i + 1))), (3, .int (n + (nI 0))), (5, .int (nI 0)), (0, .ref q0), (1, .int p0), (2, .int p1)]) dX9_ownedThen_97 5 rfl (inc_ok _ 1) (by decide) rfl ?_
              refine J_goto h 9 dX9_ownedThen_100 (by decide) ?_
              refine J.loc [3, 4, 5, 1, 0] (lv' := [(0, .ref q0), (1, .int p0), (2, .int p1), (3, .int (n + (nI 0))), (4, .int (nI (i + 1)))]) rfl ?_
              exact ih_9 (i + 1) (n + (nI 0)) (by first | exact hi |  assumption | omega | rfl) (by first | exact ot_out hn (gv_ge hrc hc c_27) | exact absurd c_27 c_63 | exact absurd c_63 c_27 | exact absurd c_70 c_87 | exact absurd c_87 c_70 | (rcases hby with ⟨h0, hb⟩ | ⟨h1, hb⟩; (first | exact absurd hb c_70 | exact ot_0 hn hil (fun q => by have z := (of_decide_eq_true q).mp (hmw.mp c_43); omega)); (first | exact absurd c_70 hb | exact ot_0 hn hil (fun q => c_43 (hmw.mpr ((of_decide_eq_true q).mpr h1)))))) (by omega)
            · skip
              refine J_iconst h (v := nI 1) dX9_ownedThen_73 (by decide) ?_
              refine J_goto h 78 dX9_ownedThen_74 (by decide) ?_
              refine J_icmp_ne h 85 dX9_ownedThen_78 (by decide) (fun _ => ?_) (fun z => absurd z (by decide))
              refine J_iload_n h (i := 1) dX9_ownedThen_85 rfl 2 rfl ?_
              refine J_iload_n h (i := 2) dX9_ownedThen_86 rfl 3 rfl ?_
              refine J_icmp_ne h 94 dX9_ownedThen_87 (by decide) (fun c_87 => ?_) (fun c_87 => ?_)
              · skip
                refine J_iconst h (v := (-1)) dX9_ownedThen_94 (by decide) ?_
                refine J_iadd h dX9_ownedThen_95 ?_
                refine J_istore_n h (i := 3) (lv' := [(3, .int (n + ((-1)))), (5, .int (nI 0)), (0, .ref q0), (1, .int p0), (2, .int p1), (4, .int (nI i))]) dX9_ownedThen_96 rfl (by decide) rfl ?_
                refine J_iinc h (v := nI (i + 1)) (lv' := [(4, .int (nI (i + 1))), (3, .int (n + ((-1)))), (5, .int (nI 0)), (0, .ref q0), (1, .int p0), (2, .int p1)]) dX9_ownedThen_97 5 rfl (inc_ok _ 1) (by decide) rfl ?_
                refine J_goto h 9 dX9_ownedThen_100 (by decide) ?_
                refine J.loc [3, 4, 5, 1, 0] (lv' := [(0, .ref q0), (1, .int p0), (2, .int p1), (3, .int (n + ((-1)))), (4, .int (nI (i + 1)))]) rfl ?_
                exact ih_9 (i + 1) (n + ((-1))) (by first | exact hi |  assumption | omega | rfl) (by first | exact absurd c_27 c_63 | exact absurd c_63 c_27 | exact absurd c_70 c_87 | exact absurd c_87 c_70 | (rcases hby with ⟨h0, hb⟩ | ⟨h1, hb⟩; (first | exact absurd hb c_70 | exact absurd hb c_70); (first | exact absurd c_70 hb | exact ot_m hn hil h1 (decide_eq_true ⟨fun _ => h1, fun _ => hmw.mp c_43⟩)))) (by omega)
              · skip
                refine J_iconst h (v := nI 1) dX9_ownedThen_90 (by decide) ?_
                refine J_goto h 95 dX9_ownedThen_91 (by decide) ?_
                refine J_iadd h dX9_ownedThen_95 ?_
                refine J_istore_n h (i := 3) (lv' := [(3, .int (n + (nI 1))), (5, .int (nI 0)), (0, .ref q0), (1, .int p0), (2, .int p1), (4, .int (nI i))]) dX9_ownedThen_96 rfl (by decide) rfl ?_
                refine J_iinc h (v := nI (i + 1)) (lv' := [(4, .int (nI (i + 1))), (3, .int (n + (nI 1))), (5, .int (nI 0)), (0, .ref q0), (1, .int p0), (2, .int p1)]) dX9_ownedThen_97 5 rfl (inc_ok _ 1) (by decide) rfl ?_
                refine J_goto h 9 dX9_ownedThen_100 (by decide) ?_
                refine J.loc [3, 4, 5, 1, 0] (lv' := [(0, .ref q0), (1, .int p0), (2, .int p1), (3, .int (n + (nI 1))), (4, .int (nI (i + 1)))]) rfl ?_
                exact ih_9 (i + 1) (n + (nI 1)) (by first | exact hi |  assumption | omega | rfl) (by first | exact absurd c_27 c_63 | exact absurd c_63 c_27 | exact absurd c_70 c_87 | exact absurd c_87 c_70 | (rcases hby with ⟨h0, hb⟩ | ⟨h1, hb⟩; (first | exact absurd hb c_70 | exact ot_1 hn hil h0 (decide_eq_true ⟨fun q => absurd (hmw.mpr q) c_43, fun q => absurd q (by omega)⟩)); (first | exact absurd c_70 hb | exact absurd c_70 hb))) (by omega)
        · skip
          refine J_iconst h (v := nI 1) dX9_ownedThen_46 (by decide) ?_
          refine J_goto h 51 dX9_ownedThen_47 (by decide) ?_
          refine J_istore h (lv' := [(5, .int (nI 1)), (0, .ref q0), (1, .int p0), (2, .int p1), (3, .int n), (4, .int (nI i))]) dX9_ownedThen_51 (by decide) rfl ?_
          refine J_iload_n h (i := 3) dX9_ownedThen_53 rfl 4 rfl ?_
          refine J_aload_n h (i := 0) dX9_ownedThen_54 rfl 1 rfl ?_
          refine J_get h inX9 rfl 0 17 (by decide) rfl rfl nf_X9_34 dX9_ownedThen_55 ?_
          refine J_iload h dX9_ownedThen_58 5 rfl ?_
          refine N_iald h 3 rfl (by decide) (by omega) dX9_ownedThen_60 ?_
          refine J_bipush h (v := (-4)) dX9_ownedThen_61 (by decide) ?_
          refine T_icmp_eq h (A := (ce i).toInt) (B := (-4)) 81 dX9_ownedThen_63 (by decide) (rfl) (by decide) (fun c_63 => ?_) (fun c_63 => ?_)
          · skip
            refine J_iconst h (v := nI 0) dX9_ownedThen_81 (by decide) ?_
            refine J_goto h 95 dX9_ownedThen_82 (by decide) ?_
            refine J_iadd h dX9_ownedThen_95 ?_
            refine J_istore_n h (i := 3) (lv' := [(3, .int (n + (nI 0))), (5, .int (nI 1)), (0, .ref q0), (1, .int p0), (2, .int p1), (4, .int (nI i))]) dX9_ownedThen_96 rfl (by decide) rfl ?_
            refine J_iinc h (v := nI (i + 1)) (lv' := [(4, .int (nI (i + 1))), (3, .int (n + (nI 0))), (5, .int (nI 1)), (0, .ref q0), (1, .int p0), (2, .int p1)]) dX9_ownedThen_97 5 rfl (inc_ok _ 1) (by decide) rfl ?_
            refine J_goto h 9 dX9_ownedThen_100 (by decide) ?_
            refine J.loc [3, 4, 5, 1, 0] (lv' := [(0, .ref q0), (1, .int p0), (2, .int p1), (3, .int (n + (nI 0))), (4, .int (nI (i + 1)))]) rfl ?_
            exact ih_9 (i + 1) (n + (nI 0)) (by first | exact hi |  assumption | omega | rfl) (by first | exact ot_out hn (gv_ge hrc hc c_27) | exact absurd c_27 c_63 | exact absurd c_63 c_27 | exact absurd c_70 c_87 | exact absurd c_87 c_70 | (rcases hby with ⟨h0, hb⟩ | ⟨h1, hb⟩; (first | exact absurd hb c_70 | exact ot_0 hn hil (fun q => by have z := (of_decide_eq_true q).mp (hmw.mp c_43); omega)); (first | exact absurd c_70 hb | exact ot_0 hn hil (fun q => c_43 (hmw.mpr ((of_decide_eq_true q).mpr h1)))))) (by omega)
          · skip
            refine J_iload h dX9_ownedThen_66 0 rfl ?_
            refine J_iload_n h (i := 1) dX9_ownedThen_68 rfl 2 rfl ?_
            refine J_iload_n h (i := 2) dX9_ownedThen_69 rfl 3 rfl ?_
            refine J_icmp_ne h 77 dX9_ownedThen_70 (by decide) (fun c_70 => ?_) (fun c_70 => ?_)
            · skip
              refine J_iconst h (v := nI 0) dX9_ownedThen_77 (by decide) ?_
              refine J_icmp_ne h 85 dX9_ownedThen_78 (by decide) (fun _ => ?_) (fun z => absurd z (by decide))
              refine J_iload_n h (i := 1) dX9_ownedThen_85 rfl 2 rfl ?_
              refine J_iload_n h (i := 2) dX9_ownedThen_86 rfl 3 rfl ?_
              refine J_icmp_ne h 94 dX9_ownedThen_87 (by decide) (fun c_87 => ?_) (fun c_87 => ?_)
              · skip
                refine J_iconst h (v := (-1)) dX9_ownedThen_94 (by decide) ?_
                refine J_iadd h dX9_ownedThen_95 ?_
                refine J_istore_n h (i := 3) (lv' := [(3, .int (n + ((-1)))), (5, .int (nI 1)), (0, .ref q0), (1, .int p0), (2, .int p1), (4, .int (nI i))]) dX9_ownedThen_96 rfl (by decide) rfl ?_
                refine J_iinc h (v := nI (i + 1)) (lv' := [(4, .int (nI (i + 1))), (3, .int (n + ((-1)))), (5, .int (nI 1)), (0, .ref q0), (1, .int p0), (2, .int p1)]) dX9_ownedThen_97 5 rfl (inc_ok _ 1) (by decide) rfl ?_
                refine J_goto h 9 dX9_ownedThen_100 (by decide) ?_
                refine J.loc [3, 4, 5, 1, 0] (lv' := [(0, .ref q0), (1, .int p0), (2, .int p1), (3, .int (n + ((-1)))), (4, .int (nI (i + 1)))]) rfl ?_
                exact ih_9 (i + 1) (n + ((-1))) (by first | exact hi |  assumption | omega | rfl) (by first | exact absurd c_27 c_63 | exact absurd c_63 c_27 | exact absurd c_70 c_87 | exact absurd c_87 c_70 | (rcases hby with ⟨h0, hb⟩ | ⟨h1, hb⟩; (first | exact absurd hb c_70 | exact absurd hb c_70); (first | exact absurd c_70 hb | exact ot_m hn hil h1 (decide_eq_true ⟨fun _ => h1, fun _ => hmw.mp c_43⟩)))) (by omega)
              · skip
                refine J_iconst h (v := nI 1) dX9_ownedThen_90 (by decide) ?_
                refine J_goto h 95 dX9_ownedThen_91 (by decide) ?_
                refine J_iadd h dX9_ownedThen_95 ?_
                refine J_istore_n h (i := 3) (lv' := [(3, .int (n + (nI 1))), (5, .int (nI 1)), (0, .ref q0), (1, .int p0), (2, .int p1), (4, .int (nI i))]) dX9_ownedThen_96 rfl (by decide) rfl ?_
                refine J_iinc h (v := nI (i + 1)) (lv' := [(4, .int (nI (i + 1))), (3, .int (n + (nI 1))), (5, .int (nI 1)), (0, .ref q0), (1, .int p0), (2, .int p1)]) dX9_ownedThen_97 5 rfl (inc_ok _ 1) (by decide) rfl ?_
                refine J_goto h 9 dX9_ownedThen_100 (by decide) ?_
                refine J.loc [3, 4, 5, 1, 0] (lv' := [(0, .ref q0), (1, .int p0), (2, .int p1), (3, .int (n + (nI 1))), (4, .int (nI (i + 1)))]) rfl ?_
                exact ih_9 (i + 1) (n + (nI 1)) (by first | exact hi |  assumption | omega | rfl) (by first | exact absurd c_27 c_63 | exact absurd c_63 c_27 | exact absurd c_70 c_87 | exact absurd c_87 c_70 | (rcases hby with ⟨h0, hb⟩ | ⟨h1, hb⟩; (first | exact absurd hb c_70 | exact ot_1 hn hil h0 (decide_eq_true ⟨fun q => absurd (hmw.mpr q) c_43, fun q => absurd q (by omega)⟩)); (first | exact absurd c_70 hb | exact absurd c_70 hb))) (by omega)
            · skip
              refine J_iconst h (v := nI 1) dX9_ownedThen_73 (by decide) ?_
              refine J_goto h 78 dX9_ownedThen_74 (by decide) ?_
              refine J_icmp_ne h 85 dX9_ownedThen_78 (by decide) (fun z => absurd z (by decide)) (fun _ => ?_)
              refine J_iconst h (v := nI 0) dX9_ownedThen_81 (by decide) ?_
              refine J_goto h 95 dX9_ownedThen_82 (by decide) ?_
              refine J_iadd h dX9_ownedThen_95 ?_
              refine J_istore_n h (i := 3) (lv' := [(3, .int (n + (nI 0))), (5, .int (nI 1)), (0, .ref q0), (1, .int p0), (2, .int p1), (4, .int (nI i))]) dX9_ownedThen_96 rfl (by decide) rfl ?_
              refine J_iinc h (v := nI (i + 1)) (lv' := [(4, .int (nI (i + 1))), (3, .int (n + (nI 0))), (5, .int (nI 1)), (0, .ref q0), (1, .int p0), (2, .int p1)]) dX9_ownedThen_97 5 rfl (inc_ok _ 1) (by decide) rfl ?_
              refine J_goto h 9 dX9_ownedThen_100 (by decide) ?_
              refine J.loc [3, 4, 5, 1, 0] (lv' := [(0, .ref q0), (1, .int p0), (2, .int p1), (3, .int (n + (nI 0))), (4, .int (nI (i + 1)))]) rfl ?_
              exact ih_9 (i + 1) (n + (nI 0)) (by first | exact hi |  assumption | omega | rfl) (by first | exact ot_out hn (gv_ge hrc hc c_27) | exact absurd c_27 c_63 | exact absurd c_63 c_27 | exact absurd c_70 c_87 | exact absurd c_87 c_70 | (rcases hby with ⟨h0, hb⟩ | ⟨h1, hb⟩; (first | exact absurd hb c_70 | exact ot_0 hn hil (fun q => by have z := (of_decide_eq_true q).mp (hmw.mp c_43); omega)); (first | exact absurd c_70 hb | exact ot_0 hn hil (fun q => c_43 (hmw.mpr ((of_decide_eq_true q).mpr h1)))))) (by omega)
set_option maxRecDepth 100000 in
set_option maxHeartbeats 4000000 in
theorem w_X9_ownedThenS (X : Cx) {cI cE : ClassId} (h : Ok X cX9_ownedThen RX9 6 cI cE 2 0 0) (q0 : Nat) (q3 : Nat) (q4 : Nat) (q6 : Nat) (q7 : Nat) (q8 : Nat) (q9 : Nat) (q14 : Nat) (q15 : Nat) (q17 : Nat) (q18 : Nat) (q19 : Nat) (q23 : Nat) (q24 : Nat) (q25 : Nat) (ro : Nat) (co : Nat) (sl : Int32) (sn : Int32) (ts : Int32) (ra : Int32) (rr : Int32) (rw : Int32) (rn : Int32) (um : Int32) (bs : Int32) (bh : Int32) (km : Int32) (th : Nat → Int32) (mo : Nat → Int32) (ce : Nat → Int32) (se : Nat → Int32) (cth : Nat → Int32) (cow : Nat → Int32) (p0 : Int32) (p1 : Int32) (cl : Nat → Nat) (len : Nat) (its : Nat) (hrc : ro * co ≤ 48) (hco : co ≤ 6) (hro : ro ≤ 8) (hrel : rel (ro * co) th mo cth cow) (hc : ∀ k, k < len → ce k = nI (cl k) ∧ cl k < ro * co) (hcn : ∀ k, len ≤ k → k < 8 → ce k = (-4)) (hl : len ≤ ro) (hs : 0 ≤ p0.toInt ∧ p0.toInt < 4) (hby : (its = 0 ∧ p0 = p1) ∨ (its = 1 ∧ ¬ p0 = p1)) (hR : ∀ (r : Int32) (u : Unit), ((valI its (ownN cow (ro * co) p0) (cntP (fun k => decide (cow (cl k) = p0 ↔ its = 1)) len) = r) ∧ (True)) → RetI X cX9_ownedThen 6 0 0 r [(q0, .inr (9, [.int (nI ro), .int (nI co), .int sl, .ref q3, .ref q4, .int sn, .ref q6, .ref q7, .ref q8, .ref q9, .int ts, .int ra, .int rr, .int rw, .ref q14, .ref q15, .int rn, .ref q17, .ref q18, .ref q19, .int um, .int bs, .int bh, .ref q23, .ref q24, .ref q25, .int km])), (q3, .inl (cI, 48, .inl th)), (q4, .inl (cI, 48, .inl mo)), (q17, .inl (cI, 8, .inl ce)), (q18, .inl (cI, 8, .inl se))]) : J X 6 0 0 0 [(0, .ref q0), (1, .int p0), (2, .int p1)] [] [(q0, .inr (9, [.int (nI ro), .int (nI co), .int sl, .ref q3, .ref q4, .int sn, .ref q6, .ref q7, .ref q8, .ref q9, .int ts, .int ra, .int rr, .int rw, .ref q14, .ref q15, .int rn, .ref q17, .ref q18, .ref q19, .int um, .int bs, .int bh, .ref q23, .ref q24, .ref q25, .int km])), (q3, .inl (cI, 48, .inl th)), (q4, .inl (cI, 48, .inl mo)), (q17, .inl (cI, 8, .inl ce)), (q18, .inl (cI, 8, .inl se))] := by
  refine J_aload_n h (i := 0) dX9_ownedThen_0 rfl 0 rfl ?_
  refine J_iload_n h (i := 1) dX9_ownedThen_1 rfl 1 rfl ?_
  refine K_vi h (wr := [(q17, .inl (cI, 8, .inl ce)), (q18, .inl (cI, 8, .inl se))]) (c_X9_owned (xl X) (xD X) cI cE q0 q3 q4 q6 q7 q8 q9 q14 q15 q17 q18 q19 q23 q24 q25 ro co sl sn ts ra rr rw rn um bs bh km th mo cth cow p0 (by first | exact hrc |  assumption | omega | rfl) (by first | exact hco |  assumption | omega | rfl) (by first | exact hro |  assumption | omega | rfl) (by first | exact hrel |  assumption | omega | rfl) (by first | exact hs |  assumption | omega | rfl)) yv_X9_owned nm_X9_144 (by decide) (by decide) rfl rfl 0 rfl rfl rfl rfl (Nat.le_of_ble_eq_true rfl) (Nat.le_refl _) (Nat.le_refl _) dX9_ownedThen_2 (fun r_2 u_2 p_2 => ?_)
  obtain ⟨rfl, -⟩ := p_2
  show J X 6 0 0 5 [(0, .ref q0), (1, .int p0), (2, .int p1)] [.int (nI (cntP (fun k => decide (cow k = p0)) (ro * co)))] [(q0, .inr (9, [.int (nI ro), .int (nI co), .int sl, .ref q3, .ref q4, .int sn, .ref q6, .ref q7, .ref q8, .ref q9, .int ts, .int ra, .int rr, .int rw, .ref q14, .ref q15, .int rn, .ref q17, .ref q18, .ref q19, .int um, .int bs, .int bh, .ref q23, .ref q24, .ref q25, .int km])), (q3, .inl (cI, 48, .inl th)), (q4, .inl (cI, 48, .inl mo)), (q17, .inl (cI, 8, .inl ce)), (q18, .inl (cI, 8, .inl se))]
  refine J_istore_n h (i := 3) (lv' := [(3, .int (nI (cntP (fun k => decide (cow k = p0)) (ro * co)))), (0, .ref q0), (1, .int p0), (2, .int p1)]) dX9_ownedThen_5 rfl (by decide) rfl ?_
  refine J_iconst h (v := nI 0) dX9_ownedThen_6 (by decide) ?_
  refine J_istore h (lv' := [(4, .int (nI 0)), (3, .int (nI (cntP (fun k => decide (cow k = p0)) (ro * co)))), (0, .ref q0), (1, .int p0), (2, .int p1)]) dX9_ownedThen_7 (by decide) rfl ?_
  refine J.loc [2, 3, 4, 1, 0] (lv' := [(0, .ref q0), (1, .int p0), (2, .int p1), (3, .int (nI (cntP (fun k => decide (cow k = p0)) (ro * co)))), (4, .int (nI 0))]) rfl ?_
  exact w_X9_ownedThenS_9 X h q0 q3 q4 q6 q7 q8 q9 q14 q15 q17 q18 q19 q23 q24 q25 ro co sl sn ts ra rr rw rn um bs bh km th mo ce se cth cow p0 p1 cl len its hrc hco hro hrel hc hcn hl hs hby hR  (ro - 0 + 1) 0 (nI (cntP (fun k => decide (cow k = p0)) (ro * co))) (by first | assumption | omega | rfl) (by rw [Nat.zero_min]; unfold valI; split; exact (Int32.add_zero _).symm; exact (Int32.sub_zero _).symm) (by omega)
theorem c_X9_ownedThenS (l : Launch) (D : va_G) (cI cE : ClassId) (q0 : Nat) (q3 : Nat) (q4 : Nat) (q6 : Nat) (q7 : Nat) (q8 : Nat) (q9 : Nat) (q14 : Nat) (q15 : Nat) (q17 : Nat) (q18 : Nat) (q19 : Nat) (q23 : Nat) (q24 : Nat) (q25 : Nat) (ro : Nat) (co : Nat) (sl : Int32) (sn : Int32) (ts : Int32) (ra : Int32) (rr : Int32) (rw : Int32) (rn : Int32) (um : Int32) (bs : Int32) (bh : Int32) (km : Int32) (th : Nat → Int32) (mo : Nat → Int32) (ce : Nat → Int32) (se : Nat → Int32) (cth : Nat → Int32) (cow : Nat → Int32) (p0 : Int32) (p1 : Int32) (cl : Nat → Nat) (len : Nat) (its : Nat) (hrc : ro * co ≤ 48) (hco : co ≤ 6) (hro : ro ≤ 8) (hrel : rel (ro * co) th mo cth cow) (hc : ∀ k, k < len → ce k = nI (cl k) ∧ cl k < ro * co) (hcn : ∀ k, len ≤ k → k < 8 → ce k = (-4)) (hl : len ≤ ro) (hs : 0 ≤ p0.toInt ∧ p0.toInt < 4) (hby : (its = 0 ∧ p0 = p1) ∨ (its = 1 ∧ ¬ p0 = p1)) : Ci l D cI cE yX9_ownedThen cX9_ownedThen 6 (some .int) 2 0 0 [.ref q0, .int p0, .int p1] [(q0, .inr (9, [.int (nI ro), .int (nI co), .int sl, .ref q3, .ref q4, .int sn, .ref q6, .ref q7, .ref q8, .ref q9, .int ts, .int ra, .int rr, .int rw, .ref q14, .ref q15, .int rn, .ref q17, .ref q18, .ref q19, .int um, .int bs, .int bh, .ref q23, .ref q24, .ref q25, .int km])), (q3, .inl (cI, 48, .inl th)), (q4, .inl (cI, 48, .inl mo)), (q17, .inl (cI, 8, .inl ce)), (q18, .inl (cI, 8, .inl se))] (fun (r : Int32) (u : Unit) => ((valI its (ownN cow (ro * co) p0) (cntP (fun k => decide (cow (cl k) = p0 ↔ its = 1)) len) = r) ∧ (True))) (fun (u : Unit) => ([(q0, .inr (9, [.int (nI ro), .int (nI co), .int sl, .ref q3, .ref q4, .int sn, .ref q6, .ref q7, .ref q8, .ref q9, .int ts, .int ra, .int rr, .int rw, .ref q14, .ref q15, .int rn, .ref q17, .ref q18, .ref q19, .int um, .int bs, .int bh, .ref q23, .ref q24, .ref q25, .int km])), (q3, .inl (cI, 48, .inl th)), (q4, .inl (cI, 48, .inl mo)), (q17, .inl (cI, 8, .inl ce)), (q18, .inl (cI, 8, .inl se))] : va_W)) :=
  Ci.of (by decide) (Nat.le_of_ble_eq_true rfl) (fun _ _ _ => rfl) (fun X h hR => w_X9_ownedThenS X h q0 q3 q4 q6 q7 q8 q9 q14 q15 q17 q18 q19 q23 q24 q25 ro co sl sn ts ra rr rw rn um bs bh km th mo ce se cth cow p0 p1 cl len its hrc hco hro hrel hc hcn hl hs hby hR)
theorem sb_100 {th ow : Nat → Int32} {co ro : Nat} {f : Int32} {its : Nat} : gnB th ow co ro f its 100 = none := by
  have h := bst_skip (V := vcB co) (M := tkC th ow co ro f its) (a := 0) 100 (fun k h1 h2 hv => by have h3 := (of_decide_eq_true hv).2.1.1; omega)
  rw [Nat.zero_add] at h
  exact h
theorem stm_no {th ow : Nat → Int32} {co ro own : Nat} {f bs bh : Int32} {its c : Nat} (hs : StM its own (gnB th ow co ro f its c) bs bh) (hv : ¬ vCode co c) : StM its own (gnB th ow co ro f its (c + 1)) bs bh := by
  rw [show gnB th ow co ro f its (c + 1) = gnB th ow co ro f its c from bst_no (decide_eq_false hv)]; exact hs
theorem sb_none {th ow : Nat → Int32} {co ro own : Nat} {f bs bh vv : Int32} {its c : Nat} (hs : StM its own (gnB th ow co ro f its c) bs bh) (hv : vCode co c) (hro : ro ≤ 8) (hn : c < 100000) (hb : bs = (-4)) (hm : vv = valI its own (tkC th ow co ro f its c)) : StM its own (gnB th ow co ro f its (c + 1)) (nI c) vv := by
  rw [hm]; exact stm_none hs (decide_eq_true hv) hb hn (tkC_le hro)
theorem sb_go {th ow : Nat → Int32} {co ro : Nat} {f g bs bh vv : Int32} {its c : Nat} (hs : StM its (ownN ow (ro * co) g) (gnB th ow co ro f its c) bs bh) (hv : vCode co c) (hro : ro ≤ 8) (hrc : ro * co ≤ 48) (hn : c < 100000) (hb : ¬ bs = (-4)) (hc : (its = 0 ∧ bh.toInt < vv.toInt) ∨ (its = 1 ∧ vv.toInt < bh.toInt)) (hm : vv = valI its (ownN ow (ro * co) g) (tkC th ow co ro f its c)) : StM its (ownN ow (ro * co) g) (gnB th ow co ro f its (c + 1)) (nI c) vv := by
  subst hm; exact stm_go hs (decide_eq_true hv) hb (Nat.le_trans (ownN_le _ _ _) hrc) hn (tkC_le hro) hc
theorem sb_stay {th ow : Nat → Int32} {co ro : Nat} {f g bs bh vv : Int32} {its c : Nat} (hs : StM its (ownN ow (ro * co) g) (gnB th ow co ro f its c) bs bh) (hv : vCode co c) (hro : ro ≤ 8) (hrc : ro * co ≤ 48) (hb : ¬ bs = (-4)) (hc : (its = 0 ∧ vv.toInt ≤ bh.toInt) ∨ (its = 1 ∧ bh.toInt ≤ vv.toInt)) (hm : vv = valI its (ownN ow (ro * co) g) (tkC th ow co ro f its c)) : StM its (ownN ow (ro * co) g) (gnB th ow co ro f its (c + 1)) bs bh := by
  subst hm; exact stm_stay hs (decide_eq_true hv) hb (Nat.le_trans (ownN_le _ _ _) hrc) (tkC_le hro) hc
set_option maxRecDepth 100000 in
set_option maxHeartbeats 4000000 in
theorem w_X9_setBestS_9 (X : Cx) {cI cE : ClassId} (h : Ok X cX9_setBest RX9 9 cI cE 3 0 0) (q0 : Nat) (q3 : Nat) (q4 : Nat) (q6 : Nat) (q7 : Nat) (q8 : Nat) (q9 : Nat) (q14 : Nat) (q15 : Nat) (q17 : Nat) (q18 : Nat) (q19 : Nat) (q23 : Nat) (q24 : Nat) (q25 : Nat) (ro : Nat) (co : Nat) (sl : Int32) (sn : Int32) (ts : Int32) (ra : Int32) (rr : Int32) (rw : Int32) (rn : Int32) (um : Int32) (bs : Int32) (bh : Int32) (km : Int32) (th : Nat → Int32) (mo : Nat → Int32) (ce : Nat → Int32) (se : Nat → Int32) (cth : Nat → Int32) (cow : Nat → Int32) (p0 : Int32) (p1 : Int32) (its : Nat) (hrc : ro * co ≤ 48) (hco : co ≤ 6) (hro : ro ≤ 8) (hrel : rel (ro * co) th mo cth cow) (hc0 : 0 < co) (hs1 : 0 ≤ p1.toInt ∧ p1.toInt < 4) (hby : (its = 0 ∧ p1 = p0) ∨ (its = 1 ∧ ¬ p1 = p0)) (hR : ∀ (u : (Nat → Int32) × (Nat → Int32) × (Int32) × (Int32)), ((StM its (ownN cow (ro * co) p1) (gnB cth cow co ro p1 its (10000 * co)) u.2.2.1 u.2.2.2) ∧ (True)) → RetV X cX9_setBest 9 0 0 [(q0, .inr (9, [.int (nI ro), .int (nI co), .int sl, .ref q3, .ref q4, .int sn, .ref q6, .ref q7, .ref q8, .ref q9, .int ts, .int ra, .int rr, .int rw, .ref q14, .ref q15, .int rn, .ref q17, .ref q18, .ref q19, .int um, .int u.2.2.1, .int u.2.2.2, .ref q23, .ref q24, .ref q25, .int km])), (q3, .inl (cI, 48, .inl th)), (q4, .inl (cI, 48, .inl mo)), (q17, .inl (cI, 8, .inl u.1)), (q18, .inl (cI, 8, .inl u.2.1))]) : ∀ (n_9 : Nat) (c : Nat) (bs1 : Int32) (bh1 : Int32) (ce1 : Nat → Int32) (se1 : Nat → Int32), (100 ≤ c ∧ c ≤ 60000) → (c ≤ 10000 * co) → (StM its (ownN cow (ro * co) p1) (gnB cth cow co ro p1 its (c)) bs1 bh1) → 60000 - c < n_9 → J X 9 0 0 9 [(0, .ref q0), (1, .int p0), (2, .int p1), (3, .int (nI c))] [] [(q0, .inr (9, [.int (nI ro), .int (nI co), .int sl, .ref q3, .ref q4, .int sn, .ref q6, .ref q7, .ref q8, .ref q9, .int ts, .int ra, .int rr, .int rw, .ref q14, .ref q15, .int rn, .ref q17, .ref q18, .ref q19, .int um, .int bs1, .int bh1, .ref q23, .ref q24, .ref q25, .int km])), (q3, .inl (cI, 48, .inl th)), (q4, .inl (cI, 48, .inl mo)), (q17, .inl (cI, 8, .inl ce1)), (q18, .inl (cI, 8, .inl se1))] := by
  intro n_9
  induction n_9 with
  | zero => intro c bs1 bh1 ce1 se1 hc hce hst hn_; exact absurd hn_ (Nat.not_lt_zero _)
  | succ n_9 ih_9 =>
    intro c bs1 bh1 ce1 se1 hc hce hst hn_9
    refine J_iload_n h (i := 3) dX9_setBest_9 rfl 3 rfl ?_
    refine J_sipush h (v := nI 10000) dX9_setBest_10 (by decide) ?_
    refine J_aload_n h (i := 0) dX9_setBest_13 rfl 0 rfl ?_
    refine J_get h inX9 rfl 0 1 (by decide) rfl rfl nf_X9_52 dX9_setBest_14 ?_
    refine N_imul h dX9_setBest_17 ?_
    refine N_icmp_ge h 158 dX9_setBest_18 (by decide) (by omega) (by omega) (fun c_18 => ?_) (fun c_18 => ?_)
    · skip
      exact hR (ce1, se1, bs1, bh1) (⟨(by (try dsimp only); rw [show 10000 * co = c by omega]; exact hst), trivial⟩) 158 _ dX9_setBest_158
    · skip
      refine J_iload_n h (i := 3) dX9_setBest_21 rfl 3 rfl ?_
      refine J_sipush h (v := nI 10000) dX9_setBest_22 (by decide) ?_
      refine N_idiv h (by omega) (by omega) (by omega) dX9_setBest_25 ?_
      refine J_istore h (lv' := [(4, .int (nI (c / 10000))), (0, .ref q0), (1, .int p0), (2, .int p1), (3, .int (nI c))]) dX9_setBest_26 (by decide) rfl ?_
      refine J_iload_n h (i := 3) dX9_setBest_28 rfl 4 rfl ?_
      refine J_bipush h (v := nI 100) dX9_setBest_29 (by decide) ?_
      refine N_idiv h (by omega) (by omega) (by omega) dX9_setBest_31 ?_
      refine J_bipush h (v := nI 100) dX9_setBest_32 (by decide) ?_
      refine N_irem h (by omega) (by omega) (by omega) dX9_setBest_34 ?_
      refine J_istore h (lv' := [(5, .int (nI ((c / 100) % 100))), (4, .int (nI (c / 10000))), (0, .ref q0), (1, .int p0), (2, .int p1), (3, .int (nI c))]) dX9_setBest_35 (by decide) rfl ?_
      refine J_iload_n h (i := 3) dX9_setBest_37 rfl 5 rfl ?_
      refine J_bipush h (v := nI 100) dX9_setBest_38 (by decide) ?_
      refine N_irem h (by omega) (by omega) (by omega) dX9_setBest_40 ?_
      refine J_istore h (lv' := [(6, .int (nI (c % 100))), (5, .int (nI ((c / 100) % 100))), (4, .int (nI (c / 10000))), (0, .ref q0), (1, .int p0), (2, .int p1), (3, .int (nI c))]) dX9_setBest_41 (by decide) rfl ?_
      refine J_aload_n h (i := 0) dX9_setBest_43 rfl 3 rfl ?_
      refine J_iload h dX9_setBest_44 2 rfl ?_
      refine J_iload h dX9_setBest_46 1 rfl ?_
      refine J_iload h dX9_setBest_48 0 rfl ?_
      refine K_vi h (wr := [(q3, .inl (cI, 48, .inl th)), (q4, .inl (cI, 48, .inl mo)), (q17, .inl (cI, 8, .inl ce1)), (q18, .inl (cI, 8, .inl se1))]) (c_X9_isSlideN (xl X) (xD X) cI cE q0 q3 q4 q6 q7 q8 q9 q14 q15 q17 q18 q19 q23 q24 q25 ro co sl sn ts ra rr rw rn um bs1 bh1 km (c / 10000) ((c / 100) % 100) (c % 100) (by first | exact hco |  assumption | omega | rfl) (by first | assumption | omega | rfl) (by first | assumption | omega | rfl) (by first | assumption | omega | rfl)) yv_X9_isSlide nm_X9_134 (by decide) (by decide) rfl rfl 0 rfl rfl rfl rfl (Nat.le_of_ble_eq_true rfl) (Nat.le_refl _) (Nat.le_refl _) dX9_setBest_50 (fun r_50 u_50 p_50 => ?_)
      rcases p_50 with p_50 | p_50
      · obtain ⟨rfl, f0_50, -⟩ := p_50
        show J X 9 0 0 53 [(6, .int (nI (c % 100))), (5, .int (nI ((c / 100) % 100))), (4, .int (nI (c / 10000))), (0, .ref q0), (1, .int p0), (2, .int p1), (3, .int (nI c))] [.int (nI 1)] [(q0, .inr (9, [.int (nI ro), .int (nI co), .int sl, .ref q3, .ref q4, .int sn, .ref q6, .ref q7, .ref q8, .ref q9, .int ts, .int ra, .int rr, .int rw, .ref q14, .ref q15, .int rn, .ref q17, .ref q18, .ref q19, .int um, .int bs1, .int bh1, .ref q23, .ref q24, .ref q25, .int km])), (q3, .inl (cI, 48, .inl th)), (q4, .inl (cI, 48, .inl mo)), (q17, .inl (cI, 8, .inl ce1)), (q18, .inl (cI, 8, .inl se1))]
        refine J_if_eq h 152 dX9_setBest_53 (by decide) (fun z => absurd z (by decide)) (fun _ => ?_)
        refine J_aload_n h (i := 0) dX9_setBest_56 rfl 3 rfl ?_
        refine J_iload h dX9_setBest_57 2 rfl ?_
        refine J_iload h dX9_setBest_59 1 rfl ?_
        refine J_iload h dX9_setBest_61 0 rfl ?_
        refine J.wld [0, 1, 3, 4, 2] (ws' := [(q0, .inr (9, [.int (nI ro), .int (nI co), .int sl, .ref q3, .ref q4, .int sn, .ref q6, .ref q7, .ref q8, .ref q9, .int ts, .int ra, .int rr, .int rw, .ref q14, .ref q15, .int rn, .ref q17, .ref q18, .ref q19, .int um, .int bs1, .int bh1, .ref q23, .ref q24, .ref q25, .int km])), (q3, .inl (cI, 48, .inl th)), (q17, .inl (cI, 8, .inl ce1)), (q18, .inl (cI, 8, .inl se1)), (q4, .inl (cI, 48, .inl mo))]) rfl rfl ?_
        refine K_vi h (wr := [(q4, .inl (cI, 48, .inl mo))]) (c_X9_goes (xl X) (xD X) cI cE q0 q3 q4 q6 q7 q8 q9 q14 q15 q17 q18 q19 q23 q24 q25 ro co sl sn ts ra rr rw rn um bs1 bh1 km th ce1 se1 cth (c / 10000) ((c / 100) % 100) (c % 100) (by first | exact hrc |  assumption | omega | rfl) (by first | exact hco |  assumption | omega | rfl) (by first | exact hro |  assumption | omega | rfl) (by first | assumption | omega | rfl) (by first | assumption | omega | rfl) (by first | assumption | omega | rfl) (by exact rel_T hrel)) yv_X9_goes nm_X9_137 (by decide) (by decide) rfl rfl 0 rfl rfl rfl rfl (Nat.le_of_ble_eq_true rfl) (Nat.le_refl _) (Nat.le_refl _) dX9_setBest_63 (fun r_63 u_63 p_63 => ?_)
        obtain ⟨ce2_63, se2_63⟩ := u_63
        try dsimp only at p_63
        obtain ⟨rfl, f0_63, f1_63, f2_63, f3_63, -⟩ := p_63
        show J X 9 0 0 66 [(6, .int (nI (c % 100))), (5, .int (nI ((c / 100) % 100))), (4, .int (nI (c / 10000))), (0, .ref q0), (1, .int p0), (2, .int p1), (3, .int (nI c))] [.int (nI (ren cth co ro (c % 100) (c / 10000) ((c / 100) % 100)))] [(q0, .inr (9, [.int (nI ro), .int (nI co), .int sl, .ref q3, .ref q4, .int sn, .ref q6, .ref q7, .ref q8, .ref q9, .int ts, .int ra, .int rr, .int rw, .ref q14, .ref q15, .int rn, .ref q17, .ref q18, .ref q19, .int um, .int bs1, .int bh1, .ref q23, .ref q24, .ref q25, .int km])), (q3, .inl (cI, 48, .inl th)), (q17, .inl (cI, 8, .inl ce2_63)), (q18, .inl (cI, 8, .inl se2_63)), (q4, .inl (cI, 48, .inl mo))]
        refine J_pop h dX9_setBest_66 rfl ?_
        refine J_aload_n h (i := 0) dX9_setBest_67 rfl 3 rfl ?_
        refine J_iload_n h (i := 2) dX9_setBest_68 rfl 5 rfl ?_
        refine J_iload_n h (i := 1) dX9_setBest_69 rfl 4 rfl ?_
        refine J.wld [0, 1, 4, 2, 3] (ws' := [(q0, .inr (9, [.int (nI ro), .int (nI co), .int sl, .ref q3, .ref q4, .int sn, .ref q6, .ref q7, .ref q8, .ref q9, .int ts, .int ra, .int rr, .int rw, .ref q14, .ref q15, .int rn, .ref q17, .ref q18, .ref q19, .int um, .int bs1, .int bh1, .ref q23, .ref q24, .ref q25, .int km])), (q3, .inl (cI, 48, .inl th)), (q4, .inl (cI, 48, .inl mo)), (q17, .inl (cI, 8, .inl ce2_63)), (q18, .inl (cI, 8, .inl se2_63))]) rfl rfl ?_
        refine K_vi h (wr := []) (c_X9_ownedThenS (xl X) (xD X) cI cE q0 q3 q4 q6 q7 q8 q9 q14 q15 q17 q18 q19 q23 q24 q25 ro co sl sn ts ra rr rw rn um bs1 bh1 km th mo ce2_63 se2_63 cth cow p1 p0 (rcl cth co (c % 100) (c / 10000) (c / 100 % 100)) (rln cth co ro (c % 100) (c / 10000) (c / 100 % 100)) its (by first | exact hrc |  assumption | omega | rfl) (by first | exact hco |  assumption | omega | rfl) (by first | exact hro |  assumption | omega | rfl) (by first | exact hrel |  assumption | omega | rfl) (by intro k hk; exact ⟨f0_63 k hk, rcl_lt cth (by omega) (by omega) (Nat.lt_of_lt_of_le hk (rln_le _ _ _ _ _ _))⟩) (by exact f2_63) (by exact rln_le _ _ _ _ _ _) (by exact hs1) (by exact hby)) yv_X9_ownedThen nm_X9_173 (by decide) (by decide) rfl rfl 0 rfl rfl rfl rfl (Nat.le_of_ble_eq_true rfl) (Nat.le_refl _) (Nat.le_refl _) dX9_setBest_70 (fun r_70 u_70 p_70 => ?_)
        obtain ⟨rfl, -⟩ := p_70
        show J X 9 0 0 73 [(6, .int (nI (c % 100))), (5, .int (nI ((c / 100) % 100))), (4, .int (nI (c / 10000))), (0, .ref q0), (1, .int p0), (2, .int p1), (3, .int (nI c))] [.int (valI its (ownN cow (ro * co) p1) (cntP (fun k => decide (cow ((rcl cth co (c % 100) (c / 10000) (c / 100 % 100)) k) = p1 ↔ its = 1)) (rln cth co ro (c % 100) (c / 10000) (c / 100 % 100))))] [(q0, .inr (9, [.int (nI ro), .int (nI co), .int sl, .ref q3, .ref q4, .int sn, .ref q6, .ref q7, .ref q8, .ref q9, .int ts, .int ra, .int rr, .int rw, .ref q14, .ref q15, .int rn, .ref q17, .ref q18, .ref q19, .int um, .int bs1, .int bh1, .ref q23, .ref q24, .ref q25, .int km])), (q3, .inl (cI, 48, .inl th)), (q4, .inl (cI, 48, .inl mo)), (q17, .inl (cI, 8, .inl ce2_63)), (q18, .inl (cI, 8, .inl se2_63))]
        obtain ⟨vv, hmv⟩ : ∃ z, z = valI its (ownN cow (ro * co) p1) (tkC cth cow co ro p1 its c) := ⟨_, rfl⟩
        refine J_eqs (st' := [.int vv]) (by rw [hmv]; rfl) ?_
        refine J_istore h (lv' := [(7, .int vv), (6, .int (nI (c % 100))), (5, .int (nI ((c / 100) % 100))), (4, .int (nI (c / 10000))), (0, .ref q0), (1, .int p0), (2, .int p1), (3, .int (nI c))]) dX9_setBest_73 (by decide) rfl ?_
        refine J_aload_n h (i := 0) dX9_setBest_75 rfl 4 rfl ?_
        refine J_get h inX9 rfl 0 21 (by decide) rfl rfl nf_X9_170 dX9_setBest_76 ?_
        refine J_bipush h (v := (-4)) dX9_setBest_79 (by decide) ?_
        refine J_icmp_eq h 110 dX9_setBest_81 (by decide) (fun c_81 => ?_) (fun c_81 => ?_)
        · skip
          refine J_iconst h (v := nI 1) dX9_setBest_110 (by decide) ?_
          refine J_goto h 115 dX9_setBest_111 (by decide) ?_
          refine J_istore h (lv' := [(8, .int (nI 1)), (7, .int vv), (6, .int (nI (c % 100))), (5, .int (nI ((c / 100) % 100))), (4, .int (nI (c / 10000))), (0, .ref q0), (1, .int p0), (2, .int p1), (3, .int (nI c))]) dX9_setBest_115 (by decide) rfl ?_
          refine J_aload_n h (i := 0) dX9_setBest_117 rfl 5 rfl ?_
          refine J_iload h dX9_setBest_118 0 rfl ?_
          refine J_if_eq h 127 dX9_setBest_120 (by decide) (fun z => absurd z (by decide)) (fun _ => ?_)
          refine J_iload_n h (i := 3) dX9_setBest_123 rfl 8 rfl ?_
          refine J_goto h 131 dX9_setBest_124 (by decide) ?_
          refine J_put h (ws' := [(q0, .inr (9, [.int (nI ro), .int (nI co), .int sl, .ref q3, .ref q4, .int sn, .ref q6, .ref q7, .ref q8, .ref q9, .int ts, .int ra, .int rr, .int rw, .ref q14, .ref q15, .int rn, .ref q17, .ref q18, .ref q19, .int um, .int (nI c), .int bh1, .ref q23, .ref q24, .ref q25, .int km])), (q3, .inl (cI, 48, .inl th)), (q4, .inl (cI, 48, .inl mo)), (q17, .inl (cI, 8, .inl ce2_63)), (q18, .inl (cI, 8, .inl se2_63))]) inX9 tyX9 tyX9_ok nmX9 rfl 0 21 (by decide) rfl nf_X9_170 rfl rfl rfl rfl (Nat.le_of_ble_eq_true rfl) dX9_setBest_131 rfl ?_
          refine J_aload_n h (i := 0) dX9_setBest_134 rfl 5 rfl ?_
          refine J_iload h dX9_setBest_135 0 rfl ?_
          refine J_if_eq h 145 dX9_setBest_137 (by decide) (fun z => absurd z (by decide)) (fun _ => ?_)
          refine J_iload h dX9_setBest_140 1 rfl ?_
          refine J_goto h 149 dX9_setBest_142 (by decide) ?_
          refine J_put h (ws' := [(q0, .inr (9, [.int (nI ro), .int (nI co), .int sl, .ref q3, .ref q4, .int sn, .ref q6, .ref q7, .ref q8, .ref q9, .int ts, .int ra, .int rr, .int rw, .ref q14, .ref q15, .int rn, .ref q17, .ref q18, .ref q19, .int um, .int (nI c), .int vv, .ref q23, .ref q24, .ref q25, .int km])), (q3, .inl (cI, 48, .inl th)), (q4, .inl (cI, 48, .inl mo)), (q17, .inl (cI, 8, .inl ce2_63)), (q18, .inl (cI, 8, .inl se2_63))]) inX9 tyX9 tyX9_ok nmX9 rfl 0 22 (by decide) rfl nf_X9_176 rfl rfl rfl rfl (Nat.le_of_ble_eq_true rfl) dX9_setBest_149 rfl ?_
          refine J_iinc h (v := nI (c + 1)) (lv' := [(3, .int (nI (c + 1))), (8, .int (nI 1)), (7, .int vv), (6, .int (nI (c % 100))), (5, .int (nI ((c / 100) % 100))), (4, .int (nI (c / 10000))), (0, .ref q0), (1, .int p0), (2, .int p1)]) dX9_setBest_152 8 rfl (inc_ok _ 1) (by decide) rfl ?_
          refine J_goto h 9 dX9_setBest_155 (by decide) ?_
          refine J.loc [6, 7, 8, 0] (lv' := [(0, .ref q0), (1, .int p0), (2, .int p1), (3, .int (nI (c + 1)))]) rfl ?_
          exact ih_9 (c + 1) (nI c) vv ce2_63 se2_63 (by first | exact hc |  assumption | omega | rfl) (by first | exact hce |  assumption | omega | rfl) (by first
      | exact stm_no hst f0_50
      | exact sb_none hst f0_50 hro (by omega) c_81 hmv
      | exact sb_go hst f0_50 hro hrc (by omega) c_81 (Or.inl ⟨(hby.resolve_right (fun q => q.2 c_86)).1, c_95⟩) hmv
      | exact sb_go hst f0_50 hro hrc (by omega) c_81 (Or.inr ⟨(hby.resolve_left (fun q => c_86 q.2)).1, c_107⟩) hmv
      | exact sb_stay hst f0_50 hro hrc c_81 (Or.inl ⟨(hby.resolve_right (fun q => q.2 c_86)).1, c_95⟩) hmv
      | exact sb_stay hst f0_50 hro hrc c_81 (Or.inr ⟨(hby.resolve_left (fun q => c_86 q.2)).1, c_107⟩) hmv) (by omega)
        · skip
          refine J_iload_n h (i := 2) dX9_setBest_84 rfl 6 rfl ?_
          refine J_iload_n h (i := 1) dX9_setBest_85 rfl 5 rfl ?_
          refine J_icmp_ne h 101 dX9_setBest_86 (by decide) (fun c_86 => ?_) (fun c_86 => ?_)
          · skip
            refine J_iload h dX9_setBest_101 0 rfl ?_
            refine J_aload_n h (i := 0) dX9_setBest_103 rfl 4 rfl ?_
            refine J_get h inX9 rfl 0 22 (by decide) rfl rfl nf_X9_176 dX9_setBest_104 ?_
            refine T_icmp_ge h (A := (vv).toInt) (B := (bh1).toInt) 114 dX9_setBest_107 (by decide) (rfl) (rfl) (fun c_107 => ?_) (fun c_107 => ?_)
            · skip
              refine J_iconst h (v := nI 0) dX9_setBest_114 (by decide) ?_
              refine J_istore h (lv' := [(8, .int (nI 0)), (7, .int vv), (6, .int (nI (c % 100))), (5, .int (nI ((c / 100) % 100))), (4, .int (nI (c / 10000))), (0, .ref q0), (1, .int p0), (2, .int p1), (3, .int (nI c))]) dX9_setBest_115 (by decide) rfl ?_
              refine J_aload_n h (i := 0) dX9_setBest_117 rfl 5 rfl ?_
              refine J_iload h dX9_setBest_118 0 rfl ?_
              refine J_if_eq h 127 dX9_setBest_120 (by decide) (fun _ => ?_) (fun z => absurd z (by decide))
              refine J_aload_n h (i := 0) dX9_setBest_127 rfl 5 rfl ?_
              refine J_get h inX9 rfl 0 21 (by decide) rfl rfl nf_X9_170 dX9_setBest_128 ?_
              refine J_put h (ws' := [(q0, .inr (9, [.int (nI ro), .int (nI co), .int sl, .ref q3, .ref q4, .int sn, .ref q6, .ref q7, .ref q8, .ref q9, .int ts, .int ra, .int rr, .int rw, .ref q14, .ref q15, .int rn, .ref q17, .ref q18, .ref q19, .int um, .int bs1, .int bh1, .ref q23, .ref q24, .ref q25, .int km])), (q3, .inl (cI, 48, .inl th)), (q4, .inl (cI, 48, .inl mo)), (q17, .inl (cI, 8, .inl ce2_63)), (q18, .inl (cI, 8, .inl se2_63))]) inX9 tyX9 tyX9_ok nmX9 rfl 0 21 (by decide) rfl nf_X9_170 rfl rfl rfl rfl (Nat.le_of_ble_eq_true rfl) dX9_setBest_131 rfl ?_
              refine J_aload_n h (i := 0) dX9_setBest_134 rfl 5 rfl ?_
              refine J_iload h dX9_setBest_135 0 rfl ?_
              refine J_if_eq h 145 dX9_setBest_137 (by decide) (fun _ => ?_) (fun z => absurd z (by decide))
              refine J_aload_n h (i := 0) dX9_setBest_145 rfl 5 rfl ?_
              refine J_get h inX9 rfl 0 22 (by decide) rfl rfl nf_X9_176 dX9_setBest_146 ?_
              refine J_put h (ws' := [(q0, .inr (9, [.int (nI ro), .int (nI co), .int sl, .ref q3, .ref q4, .int sn, .ref q6, .ref q7, .ref q8, .ref q9, .int ts, .int ra, .int rr, .int rw, .ref q14, .ref q15, .int rn, .ref q17, .ref q18, .ref q19, .int um, .int bs1, .int bh1, .ref q23, .ref q24, .ref q25, .int km])), (q3, .inl (cI, 48, .inl th)), (q4, .inl (cI, 48, .inl mo)), (q17, .inl (cI, 8, .inl ce2_63)), (q18, .inl (cI, 8, .inl se2_63))]) inX9 tyX9 tyX9_ok nmX9 rfl 0 22 (by decide) rfl nf_X9_176 rfl rfl rfl rfl (Nat.le_of_ble_eq_true rfl) dX9_setBest_149 rfl ?_
              refine J_iinc h (v := nI (c + 1)) (lv' := [(3, .int (nI (c + 1))), (8, .int (nI 0)), (7, .int vv), (6, .int (nI (c % 100))), (5, .int (nI ((c / 100) % 100))), (4, .int (nI (c / 10000))), (0, .ref q0), (1, .int p0), (2, .int p1)]) dX9_setBest_152 8 rfl (inc_ok _ 1) (by decide) rfl ?_
              refine J_goto h 9 dX9_setBest_155 (by decide) ?_
              refine J.loc [6, 7, 8, 0] (lv' := [(0, .ref q0), (1, .int p0), (2, .int p1), (3, .int (nI (c + 1)))]) rfl ?_
              exact ih_9 (c + 1) bs1 bh1 ce2_63 se2_63 (by first | exact hc |  assumption | omega | rfl) (by first | exact hce |  assumption | omega | rfl) (by first
      | exact stm_no hst f0_50
      | exact sb_none hst f0_50 hro (by omega) c_81 hmv
      | exact sb_go hst f0_50 hro hrc (by omega) c_81 (Or.inl ⟨(hby.resolve_right (fun q => q.2 c_86)).1, c_95⟩) hmv
      | exact sb_go hst f0_50 hro hrc (by omega) c_81 (Or.inr ⟨(hby.resolve_left (fun q => c_86 q.2)).1, c_107⟩) hmv
      | exact sb_stay hst f0_50 hro hrc c_81 (Or.inl ⟨(hby.resolve_right (fun q => q.2 c_86)).1, c_95⟩) hmv
      | exact sb_stay hst f0_50 hro hrc c_81 (Or.inr ⟨(hby.resolve_left (fun q => c_86 q.2)).1, c_107⟩) hmv) (by omega)
            · skip
              refine J_iconst h (v := nI 1) dX9_setBest_110 (by decide) ?_
              refine J_goto h 115 dX9_setBest_111 (by decide) ?_
              refine J_istore h (lv' := [(8, .int (nI 1)), (7, .int vv), (6, .int (nI (c % 100))), (5, .int (nI ((c / 100) % 100))), (4, .int (nI (c / 10000))), (0, .ref q0), (1, .int p0), (2, .int p1), (3, .int (nI c))]) dX9_setBest_115 (by decide) rfl ?_
              refine J_aload_n h (i := 0) dX9_setBest_117 rfl 5 rfl ?_
              refine J_iload h dX9_setBest_118 0 rfl ?_
              refine J_if_eq h 127 dX9_setBest_120 (by decide) (fun z => absurd z (by decide)) (fun _ => ?_)
              refine J_iload_n h (i := 3) dX9_setBest_123 rfl 8 rfl ?_
              refine J_goto h 131 dX9_setBest_124 (by decide) ?_
              refine J_put h (ws' := [(q0, .inr (9, [.int (nI ro), .int (nI co), .int sl, .ref q3, .ref q4, .int sn, .ref q6, .ref q7, .ref q8, .ref q9, .int ts, .int ra, .int rr, .int rw, .ref q14, .ref q15, .int rn, .ref q17, .ref q18, .ref q19, .int um, .int (nI c), .int bh1, .ref q23, .ref q24, .ref q25, .int km])), (q3, .inl (cI, 48, .inl th)), (q4, .inl (cI, 48, .inl mo)), (q17, .inl (cI, 8, .inl ce2_63)), (q18, .inl (cI, 8, .inl se2_63))]) inX9 tyX9 tyX9_ok nmX9 rfl 0 21 (by decide) rfl nf_X9_170 rfl rfl rfl rfl (Nat.le_of_ble_eq_true rfl) dX9_setBest_131 rfl ?_
              refine J_aload_n h (i := 0) dX9_setBest_134 rfl 5 rfl ?_
              refine J_iload h dX9_setBest_135 0 rfl ?_
              refine J_if_eq h 145 dX9_setBest_137 (by decide) (fun z => absurd z (by decide)) (fun _ => ?_)
              refine J_iload h dX9_setBest_140 1 rfl ?_
              refine J_goto h 149 dX9_setBest_142 (by decide) ?_
              refine J_put h (ws' := [(q0, .inr (9, [.int (nI ro), .int (nI co), .int sl, .ref q3, .ref q4, .int sn, .ref q6, .ref q7, .ref q8, .ref q9, .int ts, .int ra, .int rr, .int rw, .ref q14, .ref q15, .int rn, .ref q17, .ref q18, .ref q19, .int um, .int (nI c), .int vv, .ref q23, .ref q24, .ref q25, .int km])), (q3, .inl (cI, 48, .inl th)), (q4, .inl (cI, 48, .inl mo)), (q17, .inl (cI, 8, .inl ce2_63)), (q18, .inl (cI, 8, .inl se2_63))]) inX9 tyX9 tyX9_ok nmX9 rfl 0 22 (by decide) rfl nf_X9_176 rfl rfl rfl rfl (Nat.le_of_ble_eq_true rfl) dX9_setBest_149 rfl ?_
              refine J_iinc h (v := nI (c + 1)) (lv' := [(3, .int (nI (c + 1))), (8, .int (nI 1)), (7, .int vv), (6, .int (nI (c % 100))), (5, .int (nI ((c / 100) % 100))), (4, .int (nI (c / 10000))), (0, .ref q0), (1, .int p0), (2, .int p1)]) dX9_setBest_152 8 rfl (inc_ok _ 1) (by decide) rfl ?_
              refine J_goto h 9 dX9_setBest_155 (by decide) ?_
              refine J.loc [6, 7, 8, 0] (lv' := [(0, .ref q0), (1, .int p0), (2, .int p1), (3, .int (nI (c + 1)))]) rfl ?_
              exact ih_9 (c + 1) (nI c) vv ce2_63 se2_63 (by first | exact hc |  assumption | omega | rfl) (by first | exact hce |  assumption | omega | rfl) (by first
      | exact stm_no hst f0_50
      | exact sb_none hst f0_50 hro (by omega) c_81 hmv
      | exact sb_go hst f0_50 hro hrc (by omega) c_81 (Or.inl ⟨(hby.resolve_right (fun q => q.2 c_86)).1, c_95⟩) hmv
      | exact sb_go hst f0_50 hro hrc (by omega) c_81 (Or.inr ⟨(hby.resolve_left (fun q => c_86 q.2)).1, c_107⟩) hmv
      | exact sb_stay hst f0_50 hro hrc c_81 (Or.inl ⟨(hby.resolve_right (fun q => q.2 c_86)).1, c_95⟩) hmv
      | exact sb_stay hst f0_50 hro hrc c_81 (Or.inr ⟨(hby.resolve_left (fun q => c_86 q.2)).1, c_107⟩) hmv) (by omega)
          · skip
            refine J_iload h dX9_setBest_89 0 rfl ?_
            refine J_aload_n h (i := 0) dX9_setBest_91 rfl 4 rfl ?_
            refine J_get h inX9 rfl 0 22 (by decide) rfl rfl nf_X9_176 dX9_setBest_92 ?_
            refine T_icmp_le h (A := (vv).toInt) (B := (bh1).toInt) 114 dX9_setBest_95 (by decide) (rfl) (rfl) (fun c_95 => ?_) (fun c_95 => ?_)
            · skip
              refine J_iconst h (v := nI 0) dX9_setBest_114 (by decide) ?_
              refine J_istore h (lv' := [(8, .int (nI 0)), (7, .int vv), (6, .int (nI (c % 100))), (5, .int (nI ((c / 100) % 100))), (4, .int (nI (c / 10000))), (0, .ref q0), (1, .int p0), (2, .int p1), (3, .int (nI c))]) dX9_setBest_115 (by decide) rfl ?_
              refine J_aload_n h (i := 0) dX9_setBest_117 rfl 5 rfl ?_
              refine J_iload h dX9_setBest_118 0 rfl ?_
              refine J_if_eq h 127 dX9_setBest_120 (by decide) (fun _ => ?_) (fun z => absurd z (by decide))
              refine J_aload_n h (i := 0) dX9_setBest_127 rfl 5 rfl ?_
              refine J_get h inX9 rfl 0 21 (by decide) rfl rfl nf_X9_170 dX9_setBest_128 ?_
              refine J_put h (ws' := [(q0, .inr (9, [.int (nI ro), .int (nI co), .int sl, .ref q3, .ref q4, .int sn, .ref q6, .ref q7, .ref q8, .ref q9, .int ts, .int ra, .int rr, .int rw, .ref q14, .ref q15, .int rn, .ref q17, .ref q18, .ref q19, .int um, .int bs1, .int bh1, .ref q23, .ref q24, .ref q25, .int km])), (q3, .inl (cI, 48, .inl th)), (q4, .inl (cI, 48, .inl mo)), (q17, .inl (cI, 8, .inl ce2_63)), (q18, .inl (cI, 8, .inl se2_63))]) inX9 tyX9 tyX9_ok nmX9 rfl 0 21 (by decide) rfl nf_X9_170 rfl rfl rfl rfl (Nat.le_of_ble_eq_true rfl) dX9_setBest_131 rfl ?_
              refine J_aload_n h (i := 0) dX9_setBest_134 rfl 5 rfl ?_
              refine J_iload h dX9_setBest_135 0 rfl ?_
              refine J_if_eq h 145 dX9_setBest_137 (by decide) (fun _ => ?_) (fun z => absurd z (by decide))
              refine J_aload_n h (i := 0) dX9_setBest_145 rfl 5 rfl ?_
              refine J_get h inX9 rfl 0 22 (by decide) rfl rfl nf_X9_176 dX9_setBest_146 ?_
              refine J_put h (ws' := [(q0, .inr (9, [.int (nI ro), .int (nI co), .int sl, .ref q3, .ref q4, .int sn, .ref q6, .ref q7, .ref q8, .ref q9, .int ts, .int ra, .int rr, .int rw, .ref q14, .ref q15, .int rn, .ref q17, .ref q18, .ref q19, .int um, .int bs1, .int bh1, .ref q23, .ref q24, .ref q25, .int km])), (q3, .inl (cI, 48, .inl th)), (q4, .inl (cI, 48, .inl mo)), (q17, .inl (cI, 8, .inl ce2_63)), (q18, .inl (cI, 8, .inl se2_63))]) inX9 tyX9 tyX9_ok nmX9 rfl 0 22 (by decide) rfl nf_X9_176 rfl rfl rfl rfl (Nat.le_of_ble_eq_true rfl) dX9_setBest_149 rfl ?_
              refine J_iinc h (v := nI (c + 1)) (lv' := [(3, .int (nI (c + 1))), (8, .int (nI 0)), (7, .int vv), (6, .int (nI (c % 100))), (5, .int (nI ((c / 100) % 100))), (4, .int (nI (c / 10000))), (0, .ref q0), (1, .int p0), (2, .int p1)]) dX9_setBest_152 8 rfl (inc_ok _ 1) (by decide) rfl ?_
              refine J_goto h 9 dX9_setBest_155 (by decide) ?_
              refine J.loc [6, 7, 8, 0] (lv' := [(0, .ref q0), (1, .int p0), (2, .int p1), (3, .int (nI (c + 1)))]) rfl ?_
              exact ih_9 (c + 1) bs1 bh1 ce2_63 se2_63 (by first | exact hc |  assumption | omega | rfl) (by first | exact hce |  assumption | omega | rfl) (by first
      | exact stm_no hst f0_50
      | exact sb_none hst f0_50 hro (by omega) c_81 hmv
      | exact sb_go hst f0_50 hro hrc (by omega) c_81 (Or.inl ⟨(hby.resolve_right (fun q => q.2 c_86)).1, c_95⟩) hmv
      | exact sb_go hst f0_50 hro hrc (by omega) c_81 (Or.inr ⟨(hby.resolve_left (fun q => c_86 q.2)).1, c_107⟩) hmv
      | exact sb_stay hst f0_50 hro hrc c_81 (Or.inl ⟨(hby.resolve_right (fun q => q.2 c_86)).1, c_95⟩) hmv
      | exact sb_stay hst f0_50 hro hrc c_81 (Or.inr ⟨(hby.resolve_left (fun q => c_86 q.2)).1, c_107⟩) hmv) (by omega)
            · skip
              refine J_goto h 110 dX9_setBest_98 (by decide) ?_
              refine J_iconst h (v := nI 1) dX9_setBest_110 (by decide) ?_
              refine J_goto h 115 dX9_setBest_111 (by decide) ?_
              refine J_istore h (lv' := [(8, .int (nI 1)), (7, .int vv), (6, .int (nI (c % 100))), (5, .int (nI ((c / 100) % 100))), (4, .int (nI (c / 10000))), (0, .ref q0), (1, .int p0), (2, .int p1), (3, .int (nI c))]) dX9_setBest_115 (by decide) rfl ?_
              refine J_aload_n h (i := 0) dX9_setBest_117 rfl 5 rfl ?_
              refine J_iload h dX9_setBest_118 0 rfl ?_
              refine J_if_eq h 127 dX9_setBest_120 (by decide) (fun z => absurd z (by decide)) (fun _ => ?_)
              refine J_iload_n h (i := 3) dX9_setBest_123 rfl 8 rfl ?_
              refine J_goto h 131 dX9_setBest_124 (by decide) ?_
              refine J_put h (ws' := [(q0, .inr (9, [.int (nI ro), .int (nI co), .int sl, .ref q3, .ref q4, .int sn, .ref q6, .ref q7, .ref q8, .ref q9, .int ts, .int ra, .int rr, .int rw, .ref q14, .ref q15, .int rn, .ref q17, .ref q18, .ref q19, .int um, .int (nI c), .int bh1, .ref q23, .ref q24, .ref q25, .int km])), (q3, .inl (cI, 48, .inl th)), (q4, .inl (cI, 48, .inl mo)), (q17, .inl (cI, 8, .inl ce2_63)), (q18, .inl (cI, 8, .inl se2_63))]) inX9 tyX9 tyX9_ok nmX9 rfl 0 21 (by decide) rfl nf_X9_170 rfl rfl rfl rfl (Nat.le_of_ble_eq_true rfl) dX9_setBest_131 rfl ?_
              refine J_aload_n h (i := 0) dX9_setBest_134 rfl 5 rfl ?_
              refine J_iload h dX9_setBest_135 0 rfl ?_
              refine J_if_eq h 145 dX9_setBest_137 (by decide) (fun z => absurd z (by decide)) (fun _ => ?_)
              refine J_iload h dX9_setBest_140 1 rfl ?_
              refine J_goto h 149 dX9_setBest_142 (by decide) ?_
              refine J_put h (ws' := [(q0, .inr (9, [.int (nI ro), .int (nI co), .int sl, .ref q3, .ref q4, .int sn, .ref q6, .ref q7, .ref q8, .ref q9, .int ts, .int ra, .int rr, .int rw, .ref q14, .ref q15, .int rn, .ref q17, .ref q18, .ref q19, .int um, .int (nI c), .int vv, .ref q23, .ref q24, .ref q25, .int km])), (q3, .inl (cI, 48, .inl th)), (q4, .inl (cI, 48, .inl mo)), (q17, .inl (cI, 8, .inl ce2_63)), (q18, .inl (cI, 8, .inl se2_63))]) inX9 tyX9 tyX9_ok nmX9 rfl 0 22 (by decide) rfl nf_X9_176 rfl rfl rfl rfl (Nat.le_of_ble_eq_true rfl) dX9_setBest_149 rfl ?_
              refine J_iinc h (v := nI (c + 1)) (lv' := [(3, .int (nI (c + 1))), (8, .int (nI 1)), (7, .int vv), (6, .int (nI (c % 100))), (5, .int (nI ((c / 100) % 100))), (4, .int (nI (c / 10000))), (0, .ref q0), (1, .int p0), (2, .int p1)]) dX9_setBest_152 8 rfl (inc_ok _ 1) (by decide) rfl ?_
              refine J_goto h 9 dX9_setBest_155 (by decide) ?_
              refine J.loc [6, 7, 8, 0] (lv' := [(0, .ref q0), (1, .int p0), (2, .int p1), (3, .int (nI (c + 1)))]) rfl ?_
              exact ih_9 (c + 1) (nI c) vv ce2_63 se2_63 (by first | exact hc |  assumption | omega | rfl) (by first | exact hce |  assumption | omega | rfl) (by first
      | exact stm_no hst f0_50
      | exact sb_none hst f0_50 hro (by omega) c_81 hmv
      | exact sb_go hst f0_50 hro hrc (by omega) c_81 (Or.inl ⟨(hby.resolve_right (fun q => q.2 c_86)).1, c_95⟩) hmv
      | exact sb_go hst f0_50 hro hrc (by omega) c_81 (Or.inr ⟨(hby.resolve_left (fun q => c_86 q.2)).1, c_107⟩) hmv
      | exact sb_stay hst f0_50 hro hrc c_81 (Or.inl ⟨(hby.resolve_right (fun q => q.2 c_86)).1, c_95⟩) hmv
      | exact sb_stay hst f0_50 hro hrc c_81 (Or.inr ⟨(hby.resolve_left (fun q => c_86 q.2)).1, c_107⟩) hmv) (by omega)
      · obtain ⟨rfl, f0_50, -⟩ := p_50
        show J X 9 0 0 53 [(6, .int (nI (c % 100))), (5, .int (nI ((c / 100) % 100))), (4, .int (nI (c / 10000))), (0, .ref q0), (1, .int p0), (2, .int p1), (3, .int (nI c))] [.int (nI 0)] [(q0, .inr (9, [.int (nI ro), .int (nI co), .int sl, .ref q3, .ref q4, .int sn, .ref q6, .ref q7, .ref q8, .ref q9, .int ts, .int ra, .int rr, .int rw, .ref q14, .ref q15, .int rn, .ref q17, .ref q18, .ref q19, .int um, .int bs1, .int bh1, .ref q23, .ref q24, .ref q25, .int km])), (q3, .inl (cI, 48, .inl th)), (q4, .inl (cI, 48, .inl mo)), (q17, .inl (cI, 8, .inl ce1)), (q18, .inl (cI, 8, .inl se1))]
        refine J_if_eq h 152 dX9_setBest_53 (by decide) (fun _ => ?_) (fun z => absurd z (by decide))
        refine J_iinc h (v := nI (c + 1)) (lv' := [(3, .int (nI (c + 1))), (6, .int (nI (c % 100))), (5, .int (nI ((c / 100) % 100))), (4, .int (nI (c / 10000))), (0, .ref q0), (1, .int p0), (2, .int p1)]) dX9_setBest_152 6 rfl (inc_ok _ 1) (by decide) rfl ?_
        refine J_goto h 9 dX9_setBest_155 (by decide) ?_
        refine J.loc [4, 5, 6, 0] (lv' := [(0, .ref q0), (1, .int p0), (2, .int p1), (3, .int (nI (c + 1)))]) rfl ?_
        exact ih_9 (c + 1) bs1 bh1 ce1 se1 (by first | exact hc |  assumption | omega | rfl) (by first | exact hce |  assumption | omega | rfl) (by first
      | exact stm_no hst f0_50
      | exact sb_none hst f0_50 hro (by omega) c_81 hmv
      | exact sb_go hst f0_50 hro hrc (by omega) c_81 (Or.inl ⟨(hby.resolve_right (fun q => q.2 c_86)).1, c_95⟩) hmv
      | exact sb_go hst f0_50 hro hrc (by omega) c_81 (Or.inr ⟨(hby.resolve_left (fun q => c_86 q.2)).1, c_107⟩) hmv
      | exact sb_stay hst f0_50 hro hrc c_81 (Or.inl ⟨(hby.resolve_right (fun q => q.2 c_86)).1, c_95⟩) hmv
      | exact sb_stay hst f0_50 hro hrc c_81 (Or.inr ⟨(hby.resolve_left (fun q => c_86 q.2)).1, c_107⟩) hmv) (by omega)
set_option maxRecDepth 100000 in
set_option maxHeartbeats 4000000 in
theorem w_X9_setBestS (X : Cx) {cI cE : ClassId} (h : Ok X cX9_setBest RX9 9 cI cE 3 0 0) (q0 : Nat) (q3 : Nat) (q4 : Nat) (q6 : Nat) (q7 : Nat) (q8 : Nat) (q9 : Nat) (q14 : Nat) (q15 : Nat) (q17 : Nat) (q18 : Nat) (q19 : Nat) (q23 : Nat) (q24 : Nat) (q25 : Nat) (ro : Nat) (co : Nat) (sl : Int32) (sn : Int32) (ts : Int32) (ra : Int32) (rr : Int32) (rw : Int32) (rn : Int32) (um : Int32) (bs : Int32) (bh : Int32) (km : Int32) (th : Nat → Int32) (mo : Nat → Int32) (ce : Nat → Int32) (se : Nat → Int32) (cth : Nat → Int32) (cow : Nat → Int32) (p0 : Int32) (p1 : Int32) (its : Nat) (hrc : ro * co ≤ 48) (hco : co ≤ 6) (hro : ro ≤ 8) (hrel : rel (ro * co) th mo cth cow) (hc0 : 0 < co) (hs1 : 0 ≤ p1.toInt ∧ p1.toInt < 4) (hby : (its = 0 ∧ p1 = p0) ∨ (its = 1 ∧ ¬ p1 = p0)) (hR : ∀ (u : (Nat → Int32) × (Nat → Int32) × (Int32) × (Int32)), ((StM its (ownN cow (ro * co) p1) (gnB cth cow co ro p1 its (10000 * co)) u.2.2.1 u.2.2.2) ∧ (True)) → RetV X cX9_setBest 9 0 0 [(q0, .inr (9, [.int (nI ro), .int (nI co), .int sl, .ref q3, .ref q4, .int sn, .ref q6, .ref q7, .ref q8, .ref q9, .int ts, .int ra, .int rr, .int rw, .ref q14, .ref q15, .int rn, .ref q17, .ref q18, .ref q19, .int um, .int u.2.2.1, .int u.2.2.2, .ref q23, .ref q24, .ref q25, .int km])), (q3, .inl (cI, 48, .inl th)), (q4, .inl (cI, 48, .inl mo)), (q17, .inl (cI, 8, .inl u.1)), (q18, .inl (cI, 8, .inl u.2.1))]) : J X 9 0 0 0 [(0, .ref q0), (1, .int p0), (2, .int p1)] [] [(q0, .inr (9, [.int (nI ro), .int (nI co), .int sl, .ref q3, .ref q4, .int sn, .ref q6, .ref q7, .ref q8, .ref q9, .int ts, .int ra, .int rr, .int rw, .ref q14, .ref q15, .int rn, .ref q17, .ref q18, .ref q19, .int um, .int bs, .int bh, .ref q23, .ref q24, .ref q25, .int km])), (q3, .inl (cI, 48, .inl th)), (q4, .inl (cI, 48, .inl mo)), (q17, .inl (cI, 8, .inl ce)), (q18, .inl (cI, 8, .inl se))] := by
  refine J_aload_n h (i := 0) dX9_setBest_0 rfl 0 rfl ?_
  refine J_bipush h (v := (-4)) dX9_setBest_1 (by decide) ?_
  refine J_put h (ws' := [(q0, .inr (9, [.int (nI ro), .int (nI co), .int sl, .ref q3, .ref q4, .int sn, .ref q6, .ref q7, .ref q8, .ref q9, .int ts, .int ra, .int rr, .int rw, .ref q14, .ref q15, .int rn, .ref q17, .ref q18, .ref q19, .int um, .int ((-4)), .int bh, .ref q23, .ref q24, .ref q25, .int km])), (q3, .inl (cI, 48, .inl th)), (q4, .inl (cI, 48, .inl mo)), (q17, .inl (cI, 8, .inl ce)), (q18, .inl (cI, 8, .inl se))]) inX9 tyX9 tyX9_ok nmX9 rfl 0 21 (by decide) rfl nf_X9_170 rfl rfl rfl rfl (Nat.le_of_ble_eq_true rfl) dX9_setBest_3 rfl ?_
  refine J_bipush h (v := nI 100) dX9_setBest_6 (by decide) ?_
  refine J_istore_n h (i := 3) (lv' := [(3, .int (nI 100)), (0, .ref q0), (1, .int p0), (2, .int p1)]) dX9_setBest_8 rfl (by decide) rfl ?_
  refine J.loc [1, 2, 3, 0] (lv' := [(0, .ref q0), (1, .int p0), (2, .int p1), (3, .int (nI 100))]) rfl ?_
  exact w_X9_setBestS_9 X h q0 q3 q4 q6 q7 q8 q9 q14 q15 q17 q18 q19 q23 q24 q25 ro co sl sn ts ra rr rw rn um bs bh km th mo ce se cth cow p0 p1 its hrc hco hro hrel hc0 hs1 hby hR  (60000 - 100 + 1) 100 (-4) bh ce se (by first | assumption | omega | rfl) (by first | assumption | omega | rfl) (by exact Or.inl ⟨sb_100, rfl⟩) (by omega)
theorem c_X9_setBestS (l : Launch) (D : va_G) (cI cE : ClassId) (q0 : Nat) (q3 : Nat) (q4 : Nat) (q6 : Nat) (q7 : Nat) (q8 : Nat) (q9 : Nat) (q14 : Nat) (q15 : Nat) (q17 : Nat) (q18 : Nat) (q19 : Nat) (q23 : Nat) (q24 : Nat) (q25 : Nat) (ro : Nat) (co : Nat) (sl : Int32) (sn : Int32) (ts : Int32) (ra : Int32) (rr : Int32) (rw : Int32) (rn : Int32) (um : Int32) (bs : Int32) (bh : Int32) (km : Int32) (th : Nat → Int32) (mo : Nat → Int32) (ce : Nat → Int32) (se : Nat → Int32) (cth : Nat → Int32) (cow : Nat → Int32) (p0 : Int32) (p1 : Int32) (its : Nat) (hrc : ro * co ≤ 48) (hco : co ≤ 6) (hro : ro ≤ 8) (hrel : rel (ro * co) th mo cth cow) (hc0 : 0 < co) (hs1 : 0 ≤ p1.toInt ∧ p1.toInt < 4) (hby : (its = 0 ∧ p1 = p0) ∨ (its = 1 ∧ ¬ p1 = p0)) : Cv l D cI cE yX9_setBest cX9_setBest 9 none 3 0 0 [.ref q0, .int p0, .int p1] [(q0, .inr (9, [.int (nI ro), .int (nI co), .int sl, .ref q3, .ref q4, .int sn, .ref q6, .ref q7, .ref q8, .ref q9, .int ts, .int ra, .int rr, .int rw, .ref q14, .ref q15, .int rn, .ref q17, .ref q18, .ref q19, .int um, .int bs, .int bh, .ref q23, .ref q24, .ref q25, .int km])), (q3, .inl (cI, 48, .inl th)), (q4, .inl (cI, 48, .inl mo)), (q17, .inl (cI, 8, .inl ce)), (q18, .inl (cI, 8, .inl se))] (fun (u : (Nat → Int32) × (Nat → Int32) × (Int32) × (Int32)) => ((StM its (ownN cow (ro * co) p1) (gnB cth cow co ro p1 its (10000 * co)) u.2.2.1 u.2.2.2) ∧ (True))) (fun (u : (Nat → Int32) × (Nat → Int32) × (Int32) × (Int32)) => ([(q0, .inr (9, [.int (nI ro), .int (nI co), .int sl, .ref q3, .ref q4, .int sn, .ref q6, .ref q7, .ref q8, .ref q9, .int ts, .int ra, .int rr, .int rw, .ref q14, .ref q15, .int rn, .ref q17, .ref q18, .ref q19, .int um, .int u.2.2.1, .int u.2.2.2, .ref q23, .ref q24, .ref q25, .int km])), (q3, .inl (cI, 48, .inl th)), (q4, .inl (cI, 48, .inl mo)), (q17, .inl (cI, 8, .inl u.1)), (q18, .inl (cI, 8, .inl u.2.1))] : va_W)) :=
  Cv.of (by decide) (Nat.le_of_ble_eq_true rfl) (fun X h hR _ => w_X9_setBestS X h q0 q3 q4 q6 q7 q8 q9 q14 q15 q17 q18 q19 q23 q24 q25 ro co sl sn ts ra rr rw rn um bs bh km th mo ce se cth cow p0 p1 its hrc hco hro hrel hc0 hs1 hby hR)
set_option maxRecDepth 100000 in
set_option maxHeartbeats 4000000 in
theorem w_X9_gainS (X : Cx) {cI cE : ClassId} (h : Ok X cX9_gain RX9 3 cI cE 4 0 0) (q0 : Nat) (q3 : Nat) (q4 : Nat) (q6 : Nat) (q7 : Nat) (q8 : Nat) (q9 : Nat) (q14 : Nat) (q15 : Nat) (q17 : Nat) (q18 : Nat) (q19 : Nat) (q23 : Nat) (q24 : Nat) (q25 : Nat) (ro : Nat) (co : Nat) (sl : Int32) (sn : Int32) (ts : Int32) (ra : Int32) (rr : Int32) (rw : Int32) (rn : Int32) (um : Int32) (bs : Int32) (bh : Int32) (km : Int32) (th : Nat → Int32) (mo : Nat → Int32) (ce : Nat → Int32) (se : Nat → Int32) (cth : Nat → Int32) (cow : Nat → Int32) (p0 : Int32) (p1 : Int32) (hrc : ro * co ≤ 48) (hco : co ≤ 6) (hro : ro ≤ 8) (hrel : rel (ro * co) th mo cth cow) (hc0 : 0 < co) (hR : ∀ (r : Int32) (u : (Nat → Int32) × (Nat → Int32) × (Int32) × (Int32)), ((fGain cth cow co ro p0 p1 = r) ∧ (True)) → RetI X cX9_gain 3 0 0 r [(q0, .inr (9, [.int (nI ro), .int (nI co), .int sl, .ref q3, .ref q4, .int sn, .ref q6, .ref q7, .ref q8, .ref q9, .int ts, .int ra, .int rr, .int rw, .ref q14, .ref q15, .int rn, .ref q17, .ref q18, .ref q19, .int um, .int u.2.2.1, .int u.2.2.2, .ref q23, .ref q24, .ref q25, .int km])), (q3, .inl (cI, 48, .inl th)), (q4, .inl (cI, 48, .inl mo)), (q17, .inl (cI, 8, .inl u.1)), (q18, .inl (cI, 8, .inl u.2.1))]) : J X 3 0 0 0 [(0, .ref q0), (1, .int p0), (2, .int p1)] [] [(q0, .inr (9, [.int (nI ro), .int (nI co), .int sl, .ref q3, .ref q4, .int sn, .ref q6, .ref q7, .ref q8, .ref q9, .int ts, .int ra, .int rr, .int rw, .ref q14, .ref q15, .int rn, .ref q17, .ref q18, .ref q19, .int um, .int bs, .int bh, .ref q23, .ref q24, .ref q25, .int km])), (q3, .inl (cI, 48, .inl th)), (q4, .inl (cI, 48, .inl mo)), (q17, .inl (cI, 8, .inl ce)), (q18, .inl (cI, 8, .inl se))] := by
  refine J_iload_n h (i := 1) dX9_gain_0 rfl 1 rfl ?_
  refine K_si h (wr := [(q0, .inr (9, [.int (nI ro), .int (nI co), .int sl, .ref q3, .ref q4, .int sn, .ref q6, .ref q7, .ref q8, .ref q9, .int ts, .int ra, .int rr, .int rw, .ref q14, .ref q15, .int rn, .ref q17, .ref q18, .ref q19, .int um, .int bs, .int bh, .ref q23, .ref q24, .ref q25, .int km])), (q3, .inl (cI, 48, .inl th)), (q4, .inl (cI, 48, .inl mo)), (q17, .inl (cI, 8, .inl ce)), (q18, .inl (cI, 8, .inl se))]) (c_X9_isSide (xl X) (xD X) cI cE p0 ((p0).toInt) (by exact rfl)) yv_X9_isSide nm_X9_141 (by decide) (by decide) rfl rfl rfl (Nat.le_of_ble_eq_true rfl) (Nat.le_refl _) (Nat.le_refl _) dX9_gain_1 (fun r_1 u_1 p_1 => ?_)
  rcases p_1 with p_1 | p_1
  · obtain ⟨rfl, f0_1, -⟩ := p_1
    show J X 3 0 0 4 [(0, .ref q0), (1, .int p0), (2, .int p1)] [.int (nI 1)] [(q0, .inr (9, [.int (nI ro), .int (nI co), .int sl, .ref q3, .ref q4, .int sn, .ref q6, .ref q7, .ref q8, .ref q9, .int ts, .int ra, .int rr, .int rw, .ref q14, .ref q15, .int rn, .ref q17, .ref q18, .ref q19, .int um, .int bs, .int bh, .ref q23, .ref q24, .ref q25, .int km])), (q3, .inl (cI, 48, .inl th)), (q4, .inl (cI, 48, .inl mo)), (q17, .inl (cI, 8, .inl ce)), (q18, .inl (cI, 8, .inl se))]
    refine J_if_eq h 16 dX9_gain_4 (by decide) (fun z => absurd z (by decide)) (fun _ => ?_)
    refine J_iload_n h (i := 2) dX9_gain_7 rfl 2 rfl ?_
    refine J_iconst h (v := nI 0) dX9_gain_8 (by decide) ?_
    refine J_iconst h (v := nI 1) dX9_gain_9 (by decide) ?_
    refine K_si h (wr := [(q0, .inr (9, [.int (nI ro), .int (nI co), .int sl, .ref q3, .ref q4, .int sn, .ref q6, .ref q7, .ref q8, .ref q9, .int ts, .int ra, .int rr, .int rw, .ref q14, .ref q15, .int rn, .ref q17, .ref q18, .ref q19, .int um, .int bs, .int bh, .ref q23, .ref q24, .ref q25, .int km])), (q3, .inl (cI, 48, .inl th)), (q4, .inl (cI, 48, .inl mo)), (q17, .inl (cI, 8, .inl ce)), (q18, .inl (cI, 8, .inl se))]) (c_X9_in (xl X) (xD X) cI cE p1 (nI 0) (nI 1) ((p1).toInt) 0 1 (by exact rfl) (by exact nI_toInt (by omega)) (by exact nI_toInt (by omega))) yv_X9_in nm_X9_67 (by decide) (by decide) rfl rfl rfl (Nat.le_of_ble_eq_true rfl) (Nat.le_refl _) (Nat.le_refl _) dX9_gain_10 (fun r_10 u_10 p_10 => ?_)
    rcases p_10 with p_10 | p_10
    · obtain ⟨rfl, f0_10, -⟩ := p_10
      show J X 3 0 0 13 [(0, .ref q0), (1, .int p0), (2, .int p1)] [.int (nI 1)] [(q0, .inr (9, [.int (nI ro), .int (nI co), .int sl, .ref q3, .ref q4, .int sn, .ref q6, .ref q7, .ref q8, .ref q9, .int ts, .int ra, .int rr, .int rw, .ref q14, .ref q15, .int rn, .ref q17, .ref q18, .ref q19, .int um, .int bs, .int bh, .ref q23, .ref q24, .ref q25, .int km])), (q3, .inl (cI, 48, .inl th)), (q4, .inl (cI, 48, .inl mo)), (q17, .inl (cI, 8, .inl ce)), (q18, .inl (cI, 8, .inl se))]
      refine J_if_ne h 18 dX9_gain_13 (by decide) (fun _ => ?_) (fun z => absurd z (by decide))
      refine J_aload_n h (i := 0) dX9_gain_18 rfl 0 rfl ?_
      refine J_iload_n h (i := 1) dX9_gain_19 rfl 1 rfl ?_
      refine J_iload_n h (i := 1) dX9_gain_20 rfl 1 rfl ?_
      refine K_vv h (wr := []) (c_X9_setBestS (xl X) (xD X) cI cE q0 q3 q4 q6 q7 q8 q9 q14 q15 q17 q18 q19 q23 q24 q25 ro co sl sn ts ra rr rw rn um bs bh km th mo ce se cth cow p0 p0 0 (by first | exact hrc |  assumption | omega | rfl) (by first | exact hco |  assumption | omega | rfl) (by first | exact hro |  assumption | omega | rfl) (by first | exact hrel |  assumption | omega | rfl) (by first | exact hc0 |  assumption | omega | rfl) (by omega) (by exact Or.inl ⟨rfl, rfl⟩)) yv_X9_setBest nm_X9_179 (by decide) (by decide) rfl rfl 0 rfl rfl rfl rfl (Nat.le_of_ble_eq_true rfl) (Nat.le_refl _) (Nat.le_refl _) dX9_gain_21 (fun u_21 p_21 => ?_)
      obtain ⟨ce2_21, se2_21, bs2_21, bh2_21⟩ := u_21
      try dsimp only at p_21
      obtain ⟨f0_21, -⟩ := p_21
      show J X 3 0 0 24 [(0, .ref q0), (1, .int p0), (2, .int p1)] [] [(q0, .inr (9, [.int (nI ro), .int (nI co), .int sl, .ref q3, .ref q4, .int sn, .ref q6, .ref q7, .ref q8, .ref q9, .int ts, .int ra, .int rr, .int rw, .ref q14, .ref q15, .int rn, .ref q17, .ref q18, .ref q19, .int um, .int bs2_21, .int bh2_21, .ref q23, .ref q24, .ref q25, .int km])), (q3, .inl (cI, 48, .inl th)), (q4, .inl (cI, 48, .inl mo)), (q17, .inl (cI, 8, .inl ce2_21)), (q18, .inl (cI, 8, .inl se2_21))]
      refine J_iload_n h (i := 2) dX9_gain_24 rfl 2 rfl ?_
      refine T_if_ne h (A := (p1).toInt) 35 dX9_gain_25 (by decide) (rfl) (fun c_25 => ?_) (fun c_25 => ?_)
      · skip
        refine J_aload_n h (i := 0) dX9_gain_35 rfl 0 rfl ?_
        refine J_get h inX9 rfl 0 22 (by decide) rfl rfl nf_X9_176 dX9_gain_36 ?_
        exact hR bh2_21 (ce2_21, se2_21, bs2_21, bh2_21) (⟨(by (try dsimp only); unfold fGain; rw [if_pos ⟨by omega, by omega⟩]; first | exact (fBest_m hc0 f0_21).1 (by omega) | exact (fBest_m hc0 f0_21).2 (by omega)), trivial⟩) 39 _ dX9_gain_39
      · skip
        refine J_aload_n h (i := 0) dX9_gain_28 rfl 0 rfl ?_
        refine J_get h inX9 rfl 0 21 (by decide) rfl rfl nf_X9_170 dX9_gain_29 ?_
        refine J_goto h 39 dX9_gain_32 (by decide) ?_
        exact hR bs2_21 (ce2_21, se2_21, bs2_21, bh2_21) (⟨(by (try dsimp only); unfold fGain; rw [if_pos ⟨by omega, by omega⟩]; first | exact (fBest_m hc0 f0_21).1 (by omega) | exact (fBest_m hc0 f0_21).2 (by omega)), trivial⟩) 39 _ dX9_gain_39
    · obtain ⟨rfl, f0_10, -⟩ := p_10
      show J X 3 0 0 13 [(0, .ref q0), (1, .int p0), (2, .int p1)] [.int (nI 0)] [(q0, .inr (9, [.int (nI ro), .int (nI co), .int sl, .ref q3, .ref q4, .int sn, .ref q6, .ref q7, .ref q8, .ref q9, .int ts, .int ra, .int rr, .int rw, .ref q14, .ref q15, .int rn, .ref q17, .ref q18, .ref q19, .int um, .int bs, .int bh, .ref q23, .ref q24, .ref q25, .int km])), (q3, .inl (cI, 48, .inl th)), (q4, .inl (cI, 48, .inl mo)), (q17, .inl (cI, 8, .inl ce)), (q18, .inl (cI, 8, .inl se))]
      refine J_if_ne h 18 dX9_gain_13 (by decide) (fun z => absurd z (by decide)) (fun _ => ?_)
      refine J_iconst h (v := (-1)) dX9_gain_16 (by decide) ?_
      exact hR ((-1)) (ce, se, bs, bh) (⟨(by (try dsimp only); unfold fGain; rw [if_neg (fun q => by have q1 := q.1; have q2 := q.2; omega)]), trivial⟩) 17 _ dX9_gain_17
  · obtain ⟨rfl, f0_1, -⟩ := p_1
    show J X 3 0 0 4 [(0, .ref q0), (1, .int p0), (2, .int p1)] [.int (nI 0)] [(q0, .inr (9, [.int (nI ro), .int (nI co), .int sl, .ref q3, .ref q4, .int sn, .ref q6, .ref q7, .ref q8, .ref q9, .int ts, .int ra, .int rr, .int rw, .ref q14, .ref q15, .int rn, .ref q17, .ref q18, .ref q19, .int um, .int bs, .int bh, .ref q23, .ref q24, .ref q25, .int km])), (q3, .inl (cI, 48, .inl th)), (q4, .inl (cI, 48, .inl mo)), (q17, .inl (cI, 8, .inl ce)), (q18, .inl (cI, 8, .inl se))]
    refine J_if_eq h 16 dX9_gain_4 (by decide) (fun _ => ?_) (fun z => absurd z (by decide))
    refine J_iconst h (v := (-1)) dX9_gain_16 (by decide) ?_
    exact hR ((-1)) (ce, se, bs, bh) (⟨(by (try dsimp only); unfold fGain; rw [if_neg (fun q => by have q1 := q.1; have q2 := q.2; omega)]), trivial⟩) 17 _ dX9_gain_17
theorem c_X9_gainS (l : Launch) (D : va_G) (cI cE : ClassId) (q0 : Nat) (q3 : Nat) (q4 : Nat) (q6 : Nat) (q7 : Nat) (q8 : Nat) (q9 : Nat) (q14 : Nat) (q15 : Nat) (q17 : Nat) (q18 : Nat) (q19 : Nat) (q23 : Nat) (q24 : Nat) (q25 : Nat) (ro : Nat) (co : Nat) (sl : Int32) (sn : Int32) (ts : Int32) (ra : Int32) (rr : Int32) (rw : Int32) (rn : Int32) (um : Int32) (bs : Int32) (bh : Int32) (km : Int32) (th : Nat → Int32) (mo : Nat → Int32) (ce : Nat → Int32) (se : Nat → Int32) (cth : Nat → Int32) (cow : Nat → Int32) (p0 : Int32) (p1 : Int32) (hrc : ro * co ≤ 48) (hco : co ≤ 6) (hro : ro ≤ 8) (hrel : rel (ro * co) th mo cth cow) (hc0 : 0 < co) : Ci l D cI cE yX9_gain cX9_gain 3 (some .int) 4 0 0 [.ref q0, .int p0, .int p1] [(q0, .inr (9, [.int (nI ro), .int (nI co), .int sl, .ref q3, .ref q4, .int sn, .ref q6, .ref q7, .ref q8, .ref q9, .int ts, .int ra, .int rr, .int rw, .ref q14, .ref q15, .int rn, .ref q17, .ref q18, .ref q19, .int um, .int bs, .int bh, .ref q23, .ref q24, .ref q25, .int km])), (q3, .inl (cI, 48, .inl th)), (q4, .inl (cI, 48, .inl mo)), (q17, .inl (cI, 8, .inl ce)), (q18, .inl (cI, 8, .inl se))] (fun (r : Int32) (u : (Nat → Int32) × (Nat → Int32) × (Int32) × (Int32)) => ((fGain cth cow co ro p0 p1 = r) ∧ (True))) (fun (u : (Nat → Int32) × (Nat → Int32) × (Int32) × (Int32)) => ([(q0, .inr (9, [.int (nI ro), .int (nI co), .int sl, .ref q3, .ref q4, .int sn, .ref q6, .ref q7, .ref q8, .ref q9, .int ts, .int ra, .int rr, .int rw, .ref q14, .ref q15, .int rn, .ref q17, .ref q18, .ref q19, .int um, .int u.2.2.1, .int u.2.2.2, .ref q23, .ref q24, .ref q25, .int km])), (q3, .inl (cI, 48, .inl th)), (q4, .inl (cI, 48, .inl mo)), (q17, .inl (cI, 8, .inl u.1)), (q18, .inl (cI, 8, .inl u.2.1))] : va_W)) :=
  Ci.of (by decide) (Nat.le_of_ble_eq_true rfl) (fun _ _ _ => rfl) (fun X h hR => w_X9_gainS X h q0 q3 q4 q6 q7 q8 q9 q14 q15 q17 q18 q19 q23 q24 q25 ro co sl sn ts ra rr rw rn um bs bh km th mo ce se cth cow p0 p1 hrc hco hro hrel hc0 hR)
set_option maxRecDepth 100000 in
set_option maxHeartbeats 4000000 in
theorem w_X9_spoilS (X : Cx) {cI cE : ClassId} (h : Ok X cX9_spoil RX9 4 cI cE 4 0 0) (q0 : Nat) (q3 : Nat) (q4 : Nat) (q6 : Nat) (q7 : Nat) (q8 : Nat) (q9 : Nat) (q14 : Nat) (q15 : Nat) (q17 : Nat) (q18 : Nat) (q19 : Nat) (q23 : Nat) (q24 : Nat) (q25 : Nat) (ro : Nat) (co : Nat) (sl : Int32) (sn : Int32) (ts : Int32) (ra : Int32) (rr : Int32) (rw : Int32) (rn : Int32) (um : Int32) (bs : Int32) (bh : Int32) (km : Int32) (th : Nat → Int32) (mo : Nat → Int32) (ce : Nat → Int32) (se : Nat → Int32) (cth : Nat → Int32) (cow : Nat → Int32) (p0 : Int32) (p1 : Int32) (p2 : Int32) (hrc : ro * co ≤ 48) (hco : co ≤ 6) (hro : ro ≤ 8) (hrel : rel (ro * co) th mo cth cow) (hc0 : 0 < co) (hR : ∀ (r : Int32) (u : (Nat → Int32) × (Nat → Int32) × (Int32) × (Int32)), ((fSpoil cth cow co ro p0 p1 p2 = r) ∧ (True)) → RetI X cX9_spoil 4 0 0 r [(q0, .inr (9, [.int (nI ro), .int (nI co), .int sl, .ref q3, .ref q4, .int sn, .ref q6, .ref q7, .ref q8, .ref q9, .int ts, .int ra, .int rr, .int rw, .ref q14, .ref q15, .int rn, .ref q17, .ref q18, .ref q19, .int um, .int u.2.2.1, .int u.2.2.2, .ref q23, .ref q24, .ref q25, .int km])), (q3, .inl (cI, 48, .inl th)), (q4, .inl (cI, 48, .inl mo)), (q17, .inl (cI, 8, .inl u.1)), (q18, .inl (cI, 8, .inl u.2.1))]) : J X 4 0 0 0 [(0, .ref q0), (1, .int p0), (2, .int p1), (3, .int p2)] [] [(q0, .inr (9, [.int (nI ro), .int (nI co), .int sl, .ref q3, .ref q4, .int sn, .ref q6, .ref q7, .ref q8, .ref q9, .int ts, .int ra, .int rr, .int rw, .ref q14, .ref q15, .int rn, .ref q17, .ref q18, .ref q19, .int um, .int bs, .int bh, .ref q23, .ref q24, .ref q25, .int km])), (q3, .inl (cI, 48, .inl th)), (q4, .inl (cI, 48, .inl mo)), (q17, .inl (cI, 8, .inl ce)), (q18, .inl (cI, 8, .inl se))] := by
  refine J_iload_n h (i := 1) dX9_spoil_0 rfl 1 rfl ?_
  refine K_si h (wr := [(q0, .inr (9, [.int (nI ro), .int (nI co), .int sl, .ref q3, .ref q4, .int sn, .ref q6, .ref q7, .ref q8, .ref q9, .int ts, .int ra, .int rr, .int rw, .ref q14, .ref q15, .int rn, .ref q17, .ref q18, .ref q19, .int um, .int bs, .int bh, .ref q23, .ref q24, .ref q25, .int km])), (q3, .inl (cI, 48, .inl th)), (q4, .inl (cI, 48, .inl mo)), (q17, .inl (cI, 8, .inl ce)), (q18, .inl (cI, 8, .inl se))]) (c_X9_isSide (xl X) (xD X) cI cE p0 ((p0).toInt) (by exact rfl)) yv_X9_isSide nm_X9_141 (by decide) (by decide) rfl rfl rfl (Nat.le_of_ble_eq_true rfl) (Nat.le_refl _) (Nat.le_refl _) dX9_spoil_1 (fun r_1 u_1 p_1 => ?_)
  rcases p_1 with p_1 | p_1
  · obtain ⟨rfl, f0_1, -⟩ := p_1
    show J X 4 0 0 4 [(0, .ref q0), (1, .int p0), (2, .int p1), (3, .int p2)] [.int (nI 1)] [(q0, .inr (9, [.int (nI ro), .int (nI co), .int sl, .ref q3, .ref q4, .int sn, .ref q6, .ref q7, .ref q8, .ref q9, .int ts, .int ra, .int rr, .int rw, .ref q14, .ref q15, .int rn, .ref q17, .ref q18, .ref q19, .int um, .int bs, .int bh, .ref q23, .ref q24, .ref q25, .int km])), (q3, .inl (cI, 48, .inl th)), (q4, .inl (cI, 48, .inl mo)), (q17, .inl (cI, 8, .inl ce)), (q18, .inl (cI, 8, .inl se))]
    refine J_if_eq h 28 dX9_spoil_4 (by decide) (fun z => absurd z (by decide)) (fun _ => ?_)
    refine J_iload_n h (i := 2) dX9_spoil_7 rfl 2 rfl ?_
    refine K_si h (wr := [(q0, .inr (9, [.int (nI ro), .int (nI co), .int sl, .ref q3, .ref q4, .int sn, .ref q6, .ref q7, .ref q8, .ref q9, .int ts, .int ra, .int rr, .int rw, .ref q14, .ref q15, .int rn, .ref q17, .ref q18, .ref q19, .int um, .int bs, .int bh, .ref q23, .ref q24, .ref q25, .int km])), (q3, .inl (cI, 48, .inl th)), (q4, .inl (cI, 48, .inl mo)), (q17, .inl (cI, 8, .inl ce)), (q18, .inl (cI, 8, .inl se))]) (c_X9_isSide (xl X) (xD X) cI cE p1 ((p1).toInt) (by exact rfl)) yv_X9_isSide nm_X9_141 (by decide) (by decide) rfl rfl rfl (Nat.le_of_ble_eq_true rfl) (Nat.le_refl _) (Nat.le_refl _) dX9_spoil_8 (fun r_8 u_8 p_8 => ?_)
    rcases p_8 with p_8 | p_8
    · obtain ⟨rfl, f0_8, -⟩ := p_8
      show J X 4 0 0 11 [(0, .ref q0), (1, .int p0), (2, .int p1), (3, .int p2)] [.int (nI 1)] [(q0, .inr (9, [.int (nI ro), .int (nI co), .int sl, .ref q3, .ref q4, .int sn, .ref q6, .ref q7, .ref q8, .ref q9, .int ts, .int ra, .int rr, .int rw, .ref q14, .ref q15, .int rn, .ref q17, .ref q18, .ref q19, .int um, .int bs, .int bh, .ref q23, .ref q24, .ref q25, .int km])), (q3, .inl (cI, 48, .inl th)), (q4, .inl (cI, 48, .inl mo)), (q17, .inl (cI, 8, .inl ce)), (q18, .inl (cI, 8, .inl se))]
      refine J_if_eq h 28 dX9_spoil_11 (by decide) (fun z => absurd z (by decide)) (fun _ => ?_)
      refine J_iload_n h (i := 1) dX9_spoil_14 rfl 1 rfl ?_
      refine J_iload_n h (i := 2) dX9_spoil_15 rfl 2 rfl ?_
      refine J_icmp_eq h 28 dX9_spoil_16 (by decide) (fun c_16 => ?_) (fun c_16 => ?_)
      · skip
        refine J_iconst h (v := (-1)) dX9_spoil_28 (by decide) ?_
        exact hR ((-1)) (ce, se, bs, bh) (⟨(by (try dsimp only); unfold fSpoil; rw [if_neg (fun q => by have q1 := q.1; have q2 := q.2.1; have q3 := q.2.2.1; have q4 := q.2.2.2; first | exact absurd c_16 q3 | omega)]), trivial⟩) 29 _ dX9_spoil_29
      · skip
        refine J_iload_n h (i := 3) dX9_spoil_19 rfl 3 rfl ?_
        refine J_iconst h (v := nI 0) dX9_spoil_20 (by decide) ?_
        refine J_iconst h (v := nI 1) dX9_spoil_21 (by decide) ?_
        refine K_si h (wr := [(q0, .inr (9, [.int (nI ro), .int (nI co), .int sl, .ref q3, .ref q4, .int sn, .ref q6, .ref q7, .ref q8, .ref q9, .int ts, .int ra, .int rr, .int rw, .ref q14, .ref q15, .int rn, .ref q17, .ref q18, .ref q19, .int um, .int bs, .int bh, .ref q23, .ref q24, .ref q25, .int km])), (q3, .inl (cI, 48, .inl th)), (q4, .inl (cI, 48, .inl mo)), (q17, .inl (cI, 8, .inl ce)), (q18, .inl (cI, 8, .inl se))]) (c_X9_in (xl X) (xD X) cI cE p2 (nI 0) (nI 1) ((p2).toInt) 0 1 (by exact rfl) (by exact nI_toInt (by omega)) (by exact nI_toInt (by omega))) yv_X9_in nm_X9_67 (by decide) (by decide) rfl rfl rfl (Nat.le_of_ble_eq_true rfl) (Nat.le_refl _) (Nat.le_refl _) dX9_spoil_22 (fun r_22 u_22 p_22 => ?_)
        rcases p_22 with p_22 | p_22
        · obtain ⟨rfl, f0_22, -⟩ := p_22
          show J X 4 0 0 25 [(0, .ref q0), (1, .int p0), (2, .int p1), (3, .int p2)] [.int (nI 1)] [(q0, .inr (9, [.int (nI ro), .int (nI co), .int sl, .ref q3, .ref q4, .int sn, .ref q6, .ref q7, .ref q8, .ref q9, .int ts, .int ra, .int rr, .int rw, .ref q14, .ref q15, .int rn, .ref q17, .ref q18, .ref q19, .int um, .int bs, .int bh, .ref q23, .ref q24, .ref q25, .int km])), (q3, .inl (cI, 48, .inl th)), (q4, .inl (cI, 48, .inl mo)), (q17, .inl (cI, 8, .inl ce)), (q18, .inl (cI, 8, .inl se))]
          refine J_if_ne h 30 dX9_spoil_25 (by decide) (fun _ => ?_) (fun z => absurd z (by decide))
          refine J_aload_n h (i := 0) dX9_spoil_30 rfl 0 rfl ?_
          refine J_iload_n h (i := 1) dX9_spoil_31 rfl 1 rfl ?_
          refine J_iload_n h (i := 2) dX9_spoil_32 rfl 2 rfl ?_
          refine K_vv h (wr := []) (c_X9_setBestS (xl X) (xD X) cI cE q0 q3 q4 q6 q7 q8 q9 q14 q15 q17 q18 q19 q23 q24 q25 ro co sl sn ts ra rr rw rn um bs bh km th mo ce se cth cow p0 p1 1 (by first | exact hrc |  assumption | omega | rfl) (by first | exact hco |  assumption | omega | rfl) (by first | exact hro |  assumption | omega | rfl) (by first | exact hrel |  assumption | omega | rfl) (by first | exact hc0 |  assumption | omega | rfl) (by omega) (by exact Or.inr ⟨rfl, fun q => c_16 q.symm⟩)) yv_X9_setBest nm_X9_179 (by decide) (by decide) rfl rfl 0 rfl rfl rfl rfl (Nat.le_of_ble_eq_true rfl) (Nat.le_refl _) (Nat.le_refl _) dX9_spoil_33 (fun u_33 p_33 => ?_)
          obtain ⟨ce2_33, se2_33, bs2_33, bh2_33⟩ := u_33
          try dsimp only at p_33
          obtain ⟨f0_33, -⟩ := p_33
          show J X 4 0 0 36 [(0, .ref q0), (1, .int p0), (2, .int p1), (3, .int p2)] [] [(q0, .inr (9, [.int (nI ro), .int (nI co), .int sl, .ref q3, .ref q4, .int sn, .ref q6, .ref q7, .ref q8, .ref q9, .int ts, .int ra, .int rr, .int rw, .ref q14, .ref q15, .int rn, .ref q17, .ref q18, .ref q19, .int um, .int bs2_33, .int bh2_33, .ref q23, .ref q24, .ref q25, .int km])), (q3, .inl (cI, 48, .inl th)), (q4, .inl (cI, 48, .inl mo)), (q17, .inl (cI, 8, .inl ce2_33)), (q18, .inl (cI, 8, .inl se2_33))]
          refine J_iload_n h (i := 3) dX9_spoil_36 rfl 3 rfl ?_
          refine T_if_ne h (A := (p2).toInt) 47 dX9_spoil_37 (by decide) (rfl) (fun c_37 => ?_) (fun c_37 => ?_)
          · skip
            refine J_aload_n h (i := 0) dX9_spoil_47 rfl 0 rfl ?_
            refine J_get h inX9 rfl 0 22 (by decide) rfl rfl nf_X9_176 dX9_spoil_48 ?_
            exact hR bh2_33 (ce2_33, se2_33, bs2_33, bh2_33) (⟨(by (try dsimp only); unfold fSpoil; rw [if_pos ⟨by omega, by omega, by assumption, by omega⟩]; first | exact (fBest_m hc0 f0_33).1 (by omega) | exact (fBest_m hc0 f0_33).2 (by omega)), trivial⟩) 51 _ dX9_spoil_51
          · skip
            refine J_aload_n h (i := 0) dX9_spoil_40 rfl 0 rfl ?_
            refine J_get h inX9 rfl 0 21 (by decide) rfl rfl nf_X9_170 dX9_spoil_41 ?_
            refine J_goto h 51 dX9_spoil_44 (by decide) ?_
            exact hR bs2_33 (ce2_33, se2_33, bs2_33, bh2_33) (⟨(by (try dsimp only); unfold fSpoil; rw [if_pos ⟨by omega, by omega, by assumption, by omega⟩]; first | exact (fBest_m hc0 f0_33).1 (by omega) | exact (fBest_m hc0 f0_33).2 (by omega)), trivial⟩) 51 _ dX9_spoil_51
        · obtain ⟨rfl, f0_22, -⟩ := p_22
          show J X 4 0 0 25 [(0, .ref q0), (1, .int p0), (2, .int p1), (3, .int p2)] [.int (nI 0)] [(q0, .inr (9, [.int (nI ro), .int (nI co), .int sl, .ref q3, .ref q4, .int sn, .ref q6, .ref q7, .ref q8, .ref q9, .int ts, .int ra, .int rr, .int rw, .ref q14, .ref q15, .int rn, .ref q17, .ref q18, .ref q19, .int um, .int bs, .int bh, .ref q23, .ref q24, .ref q25, .int km])), (q3, .inl (cI, 48, .inl th)), (q4, .inl (cI, 48, .inl mo)), (q17, .inl (cI, 8, .inl ce)), (q18, .inl (cI, 8, .inl se))]
          refine J_if_ne h 30 dX9_spoil_25 (by decide) (fun z => absurd z (by decide)) (fun _ => ?_)
          refine J_iconst h (v := (-1)) dX9_spoil_28 (by decide) ?_
          exact hR ((-1)) (ce, se, bs, bh) (⟨(by (try dsimp only); unfold fSpoil; rw [if_neg (fun q => by have q1 := q.1; have q2 := q.2.1; have q3 := q.2.2.1; have q4 := q.2.2.2; first | exact absurd c_16 q3 | omega)]), trivial⟩) 29 _ dX9_spoil_29
    · obtain ⟨rfl, f0_8, -⟩ := p_8
      show J X 4 0 0 11 [(0, .ref q0), (1, .int p0), (2, .int p1), (3, .int p2)] [.int (nI 0)] [(q0, .inr (9, [.int (nI ro), .int (nI co), .int sl, .ref q3, .ref q4, .int sn, .ref q6, .ref q7, .ref q8, .ref q9, .int ts, .int ra, .int rr, .int rw, .ref q14, .ref q15, .int rn, .ref q17, .ref q18, .ref q19, .int um, .int bs, .int bh, .ref q23, .ref q24, .ref q25, .int km])), (q3, .inl (cI, 48, .inl th)), (q4, .inl (cI, 48, .inl mo)), (q17, .inl (cI, 8, .inl ce)), (q18, .inl (cI, 8, .inl se))]
      refine J_if_eq h 28 dX9_spoil_11 (by decide) (fun _ => ?_) (fun z => absurd z (by decide))
      refine J_iconst h (v := (-1)) dX9_spoil_28 (by decide) ?_
      exact hR ((-1)) (ce, se, bs, bh) (⟨(by (try dsimp only); unfold fSpoil; rw [if_neg (fun q => by have q1 := q.1; have q2 := q.2.1; have q3 := q.2.2.1; have q4 := q.2.2.2; first | exact absurd c_16 q3 | omega)]), trivial⟩) 29 _ dX9_spoil_29
  · obtain ⟨rfl, f0_1, -⟩ := p_1
    show J X 4 0 0 4 [(0, .ref q0), (1, .int p0), (2, .int p1), (3, .int p2)] [.int (nI 0)] [(q0, .inr (9, [.int (nI ro), .int (nI co), .int sl, .ref q3, .ref q4, .int sn, .ref q6, .ref q7, .ref q8, .ref q9, .int ts, .int ra, .int rr, .int rw, .ref q14, .ref q15, .int rn, .ref q17, .ref q18, .ref q19, .int um, .int bs, .int bh, .ref q23, .ref q24, .ref q25, .int km])), (q3, .inl (cI, 48, .inl th)), (q4, .inl (cI, 48, .inl mo)), (q17, .inl (cI, 8, .inl ce)), (q18, .inl (cI, 8, .inl se))]
    refine J_if_eq h 28 dX9_spoil_4 (by decide) (fun _ => ?_) (fun z => absurd z (by decide))
    refine J_iconst h (v := (-1)) dX9_spoil_28 (by decide) ?_
    exact hR ((-1)) (ce, se, bs, bh) (⟨(by (try dsimp only); unfold fSpoil; rw [if_neg (fun q => by have q1 := q.1; have q2 := q.2.1; have q3 := q.2.2.1; have q4 := q.2.2.2; first | exact absurd c_16 q3 | omega)]), trivial⟩) 29 _ dX9_spoil_29
theorem c_X9_spoilS (l : Launch) (D : va_G) (cI cE : ClassId) (q0 : Nat) (q3 : Nat) (q4 : Nat) (q6 : Nat) (q7 : Nat) (q8 : Nat) (q9 : Nat) (q14 : Nat) (q15 : Nat) (q17 : Nat) (q18 : Nat) (q19 : Nat) (q23 : Nat) (q24 : Nat) (q25 : Nat) (ro : Nat) (co : Nat) (sl : Int32) (sn : Int32) (ts : Int32) (ra : Int32) (rr : Int32) (rw : Int32) (rn : Int32) (um : Int32) (bs : Int32) (bh : Int32) (km : Int32) (th : Nat → Int32) (mo : Nat → Int32) (ce : Nat → Int32) (se : Nat → Int32) (cth : Nat → Int32) (cow : Nat → Int32) (p0 : Int32) (p1 : Int32) (p2 : Int32) (hrc : ro * co ≤ 48) (hco : co ≤ 6) (hro : ro ≤ 8) (hrel : rel (ro * co) th mo cth cow) (hc0 : 0 < co) : Ci l D cI cE yX9_spoil cX9_spoil 4 (some .int) 4 0 0 [.ref q0, .int p0, .int p1, .int p2] [(q0, .inr (9, [.int (nI ro), .int (nI co), .int sl, .ref q3, .ref q4, .int sn, .ref q6, .ref q7, .ref q8, .ref q9, .int ts, .int ra, .int rr, .int rw, .ref q14, .ref q15, .int rn, .ref q17, .ref q18, .ref q19, .int um, .int bs, .int bh, .ref q23, .ref q24, .ref q25, .int km])), (q3, .inl (cI, 48, .inl th)), (q4, .inl (cI, 48, .inl mo)), (q17, .inl (cI, 8, .inl ce)), (q18, .inl (cI, 8, .inl se))] (fun (r : Int32) (u : (Nat → Int32) × (Nat → Int32) × (Int32) × (Int32)) => ((fSpoil cth cow co ro p0 p1 p2 = r) ∧ (True))) (fun (u : (Nat → Int32) × (Nat → Int32) × (Int32) × (Int32)) => ([(q0, .inr (9, [.int (nI ro), .int (nI co), .int sl, .ref q3, .ref q4, .int sn, .ref q6, .ref q7, .ref q8, .ref q9, .int ts, .int ra, .int rr, .int rw, .ref q14, .ref q15, .int rn, .ref q17, .ref q18, .ref q19, .int um, .int u.2.2.1, .int u.2.2.2, .ref q23, .ref q24, .ref q25, .int km])), (q3, .inl (cI, 48, .inl th)), (q4, .inl (cI, 48, .inl mo)), (q17, .inl (cI, 8, .inl u.1)), (q18, .inl (cI, 8, .inl u.2.1))] : va_W)) :=
  Ci.of (by decide) (Nat.le_of_ble_eq_true rfl) (fun _ _ _ => rfl) (fun X h hR => w_X9_spoilS X h q0 q3 q4 q6 q7 q8 q9 q14 q15 q17 q18 q19 q23 q24 q25 ro co sl sn ts ra rr rw rn um bs bh km th mo ce se cth cow p0 p1 p2 hrc hco hro hrel hc0 hR)
