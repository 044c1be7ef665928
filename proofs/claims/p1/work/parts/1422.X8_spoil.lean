set_option maxRecDepth 100000 in
set_option maxHeartbeats 4000000 in
theorem w_X8_spoil (X : Cx) {cI cE : ClassId} (h : Ok X cX8_spoil RX8 4 cI cE 4 0 0) (z0 : Nat) (g0 : Nat) (a0 : Nat) (f0 : Nat) (s0 : Nat) (k0 : Nat) (v0 : Nat) (d0 : Nat) (y0 : Nat) (m0 : Nat) (o0 : Nat) (a1 : Nat) (a2 : Nat) (th : Nat → Int32) (ow : Nat → Int32) (co : Nat) (ro : Nat) (sl : Int32) (d1 : Nat) (d2 : Nat) (ce : Nat → Int32) (se : Nat → Int32) (len : Int32) (en : Int32) (cd : Int32) (tk : Int32) (p0 : Int32) (p1 : Int32) (p2 : Int32) (hrc : ro * co ≤ 48) (hco : co ≤ 6) (hro : ro ≤ 8) (hR : ∀ (r : Int32) (u : (Int32) × (Int32) × (Nat → Int32) × (Nat → Int32) × (Int32) × (Int32)), ((True)) → RetI X cX8_spoil 4 0 0 r [(z0, .inr (8, [.ref g0, .ref a0, .ref f0, .ref s0, .ref k0, .ref v0, .ref d0, .ref y0, .ref m0, .ref o0])), (a0, .inr (0, [.ref a1, .ref a2, .int (nI co), .int (nI ro), .int sl])), (a1, .inl (cI, 48, .inl th)), (a2, .inl (cI, 48, .inl ow)), (d0, .inr (3, [.ref d1, .ref d2, .int u.2.2.2.2.1, .int u.2.2.2.2.2])), (d1, .inl (cI, 8, .inl u.2.2.1)), (d2, .inl (cI, 8, .inl u.2.2.2.1)), (y0, .inr (4, [.int u.1, .int u.2.1]))]) : J X 4 0 0 0 [(0, .ref z0), (1, .int p0), (2, .int p1), (3, .int p2)] [] [(z0, .inr (8, [.ref g0, .ref a0, .ref f0, .ref s0, .ref k0, .ref v0, .ref d0, .ref y0, .ref m0, .ref o0])), (a0, .inr (0, [.ref a1, .ref a2, .int (nI co), .int (nI ro), .int sl])), (a1, .inl (cI, 48, .inl th)), (a2, .inl (cI, 48, .inl ow)), (d0, .inr (3, [.ref d1, .ref d2, .int len, .int en])), (d1, .inl (cI, 8, .inl ce)), (d2, .inl (cI, 8, .inl se)), (y0, .inr (4, [.int cd, .int tk]))] := by
  refine J_iload_n h (i := 1) dX8_spoil_0 rfl 1 rfl ?_
  refine K_si h (wr := [(z0, .inr (8, [.ref g0, .ref a0, .ref f0, .ref s0, .ref k0, .ref v0, .ref d0, .ref y0, .ref m0, .ref o0])), (a0, .inr (0, [.ref a1, .ref a2, .int (nI co), .int (nI ro), .int sl])), (a1, .inl (cI, 48, .inl th)), (a2, .inl (cI, 48, .inl ow)), (d0, .inr (3, [.ref d1, .ref d2, .int len, .int en])), (d1, .inl (cI, 8, .inl ce)), (d2, .inl (cI, 8, .inl se)), (y0, .inr (4, [.int cd, .int tk]))]) (c_X8_isSide (xl X) (xD X) cI cE p0 ((p0).toInt) (by exact rfl)) yv_X8_isSide nm_X8_153 (by decide) (by decide) rfl rfl rfl (Nat.le_of_ble_eq_true rfl) (Nat.le_refl _) (Nat.le_refl _) dX8_spoil_1 (fun r_1 u_1 p_1 => ?_)
  rcases p_1 with p_1 | p_1
  · obtain ⟨rfl, f0_1, -⟩ := p_1
    show J X 4 0 0 4 [(0, .ref z0), (1, .int p0), (2, .int p1), (3, .int p2)] [.int (nI 1)] [(z0, .inr (8, [.ref g0, .ref a0, .ref f0, .ref s0, .ref k0, .ref v0, .ref d0, .ref y0, .ref m0, .ref o0])), (a0, .inr (0, [.ref a1, .ref a2, .int (nI co), .int (nI ro), .int sl])), (a1, .inl (cI, 48, .inl th)), (a2, .inl (cI, 48, .inl ow)), (d0, .inr (3, [.ref d1, .ref d2, .int len, .int en])), (d1, .inl (cI, 8, .inl ce)), (d2, .inl (cI, 8, .inl se)), (y0, .inr (4, [.int cd, .int tk]))]
    refine J_if_eq h 26 dX8_spoil_4 (by decide) (fun z => absurd z (by decide)) (fun _ => ?_)
    refine J_iload_n h (i := 2) dX8_spoil_7 rfl 2 rfl ?_
    refine K_si h (wr := [(z0, .inr (8, [.ref g0, .ref a0, .ref f0, .ref s0, .ref k0, .ref v0, .ref d0, .ref y0, .ref m0, .ref o0])), (a0, .inr (0, [.ref a1, .ref a2, .int (nI co), .int (nI ro), .int sl])), (a1, .inl (cI, 48, .inl th)), (a2, .inl (cI, 48, .inl ow)), (d0, .inr (3, [.ref d1, .ref d2, .int len, .int en])), (d1, .inl (cI, 8, .inl ce)), (d2, .inl (cI, 8, .inl se)), (y0, .inr (4, [.int cd, .int tk]))]) (c_X8_isSide (xl X) (xD X) cI cE p1 ((p1).toInt) (by exact rfl)) yv_X8_isSide nm_X8_153 (by decide) (by decide) rfl rfl rfl (Nat.le_of_ble_eq_true rfl) (Nat.le_refl _) (Nat.le_refl _) dX8_spoil_8 (fun r_8 u_8 p_8 => ?_)
    rcases p_8 with p_8 | p_8
    · obtain ⟨rfl, f0_8, -⟩ := p_8
      show J X 4 0 0 11 [(0, .ref z0), (1, .int p0), (2, .int p1), (3, .int p2)] [.int (nI 1)] [(z0, .inr (8, [.ref g0, .ref a0, .ref f0, .ref s0, .ref k0, .ref v0, .ref d0, .ref y0, .ref m0, .ref o0])), (a0, .inr (0, [.ref a1, .ref a2, .int (nI co), .int (nI ro), .int sl])), (a1, .inl (cI, 48, .inl th)), (a2, .inl (cI, 48, .inl ow)), (d0, .inr (3, [.ref d1, .ref d2, .int len, .int en])), (d1, .inl (cI, 8, .inl ce)), (d2, .inl (cI, 8, .inl se)), (y0, .inr (4, [.int cd, .int tk]))]
      refine J_if_eq h 26 dX8_spoil_11 (by decide) (fun z => absurd z (by decide)) (fun _ => ?_)
      refine J_iload_n h (i := 1) dX8_spoil_14 rfl 1 rfl ?_
      refine J_iload_n h (i := 2) dX8_spoil_15 rfl 2 rfl ?_
      refine J_icmp_eq h 26 dX8_spoil_16 (by decide) (fun c_16 => ?_) (fun c_16 => ?_)
      · skip
        refine J_iconst h (v := (-1)) dX8_spoil_26 (by decide) ?_
        exact hR ((-1)) (cd, tk, ce, se, len, en) (by trivial) 27 _ dX8_spoil_27
      · skip
        refine J_iload_n h (i := 3) dX8_spoil_19 rfl 3 rfl ?_
        refine K_si h (wr := [(z0, .inr (8, [.ref g0, .ref a0, .ref f0, .ref s0, .ref k0, .ref v0, .ref d0, .ref y0, .ref m0, .ref o0])), (a0, .inr (0, [.ref a1, .ref a2, .int (nI co), .int (nI ro), .int sl])), (a1, .inl (cI, 48, .inl th)), (a2, .inl (cI, 48, .inl ow)), (d0, .inr (3, [.ref d1, .ref d2, .int len, .int en])), (d1, .inl (cI, 8, .inl ce)), (d2, .inl (cI, 8, .inl se)), (y0, .inr (4, [.int cd, .int tk]))]) (c_X8_isFlag (xl X) (xD X) cI cE p2 ) yv_X8_isFlag nm_X8_117 (by decide) (by decide) rfl rfl rfl (Nat.le_of_ble_eq_true rfl) (Nat.le_refl _) (Nat.le_refl _) dX8_spoil_20 (fun r_20 u_20 p_20 => ?_)
        rcases p_20 with p_20 | p_20
        · obtain ⟨rfl, f0_20, -⟩ := p_20
          show J X 4 0 0 23 [(0, .ref z0), (1, .int p0), (2, .int p1), (3, .int p2)] [.int (nI 1)] [(z0, .inr (8, [.ref g0, .ref a0, .ref f0, .ref s0, .ref k0, .ref v0, .ref d0, .ref y0, .ref m0, .ref o0])), (a0, .inr (0, [.ref a1, .ref a2, .int (nI co), .int (nI ro), .int sl])), (a1, .inl (cI, 48, .inl th)), (a2, .inl (cI, 48, .inl ow)), (d0, .inr (3, [.ref d1, .ref d2, .int len, .int en])), (d1, .inl (cI, 8, .inl ce)), (d2, .inl (cI, 8, .inl se)), (y0, .inr (4, [.int cd, .int tk]))]
          refine J_if_ne h 28 dX8_spoil_23 (by decide) (fun _ => ?_) (fun z => absurd z (by decide))
          refine J_aload_n h (i := 0) dX8_spoil_28 rfl 0 rfl ?_
          refine J_get h inX8 rfl 0 7 (by decide) rfl rfl nf_X8_55 dX8_spoil_29 ?_
          refine J_aload_n h (i := 0) dX8_spoil_32 rfl 0 rfl ?_
          refine J_get h inX8 rfl 0 1 (by decide) rfl rfl nf_X8_19 dX8_spoil_33 ?_
          refine J_aload_n h (i := 0) dX8_spoil_36 rfl 0 rfl ?_
          refine J_get h inX8 rfl 0 6 (by decide) rfl rfl nf_X8_48 dX8_spoil_37 ?_
          refine J_iload_n h (i := 2) dX8_spoil_40 rfl 2 rfl ?_
          refine J_iconst h (v := nI 1) dX8_spoil_41 (by decide) ?_
          refine J.wld [7, 1, 2, 3, 4, 5, 6, 0] (ws' := [(y0, .inr (4, [.int cd, .int tk])), (a0, .inr (0, [.ref a1, .ref a2, .int (nI co), .int (nI ro), .int sl])), (a1, .inl (cI, 48, .inl th)), (a2, .inl (cI, 48, .inl ow)), (d0, .inr (3, [.ref d1, .ref d2, .int len, .int en])), (d1, .inl (cI, 8, .inl ce)), (d2, .inl (cI, 8, .inl se)), (z0, .inr (8, [.ref g0, .ref a0, .ref f0, .ref s0, .ref k0, .ref v0, .ref d0, .ref y0, .ref m0, .ref o0]))]) rfl rfl ?_
          refine K_vv h (wr := [(z0, .inr (8, [.ref g0, .ref a0, .ref f0, .ref s0, .ref k0, .ref v0, .ref d0, .ref y0, .ref m0, .ref o0]))]) (c_X4_findMostTaken (xl X) (xD X) cI cE y0 cd tk a0 a1 a2 th ow co ro sl d0 d1 d2 ce se len en p1 1 (by first | exact hrc |  assumption | omega | rfl) (by first | exact hco |  assumption | omega | rfl) (by first | exact hro |  assumption | omega | rfl) (by first | assumption | omega | rfl)) yv_X4_findMostTaken nm_X8_193 (by decide) (by decide) rfl rfl 0 rfl rfl rfl rfl (Nat.le_of_ble_eq_true rfl) (Nat.le_refl _) (Nat.le_refl _) dX8_spoil_42 (fun u_42 p_42 => ?_)
          obtain ⟨cd2_42, tk2_42, ce2_42, se2_42, ln2_42, en2_42⟩ := u_42
          try dsimp only at p_42
          show J X 4 0 0 45 [(0, .ref z0), (1, .int p0), (2, .int p1), (3, .int p2)] [] [(y0, .inr (4, [.int cd2_42, .int tk2_42])), (a0, .inr (0, [.ref a1, .ref a2, .int (nI co), .int (nI ro), .int sl])), (a1, .inl (cI, 48, .inl th)), (a2, .inl (cI, 48, .inl ow)), (d0, .inr (3, [.ref d1, .ref d2, .int ln2_42, .int en2_42])), (d1, .inl (cI, 8, .inl ce2_42)), (d2, .inl (cI, 8, .inl se2_42)), (z0, .inr (8, [.ref g0, .ref a0, .ref f0, .ref s0, .ref k0, .ref v0, .ref d0, .ref y0, .ref m0, .ref o0]))]
          refine J_iload_n h (i := 3) dX8_spoil_45 rfl 3 rfl ?_
          refine T_if_ne h (A := (p2).toInt) 59 dX8_spoil_46 (by decide) (rfl) (fun c_46 => ?_) (fun c_46 => ?_)
          · skip
            refine J_aload_n h (i := 0) dX8_spoil_59 rfl 0 rfl ?_
            refine J_get h inX8 rfl 7 1 (by decide) rfl rfl nf_X8_19 dX8_spoil_60 ?_
            refine J_iload_n h (i := 2) dX8_spoil_63 rfl 2 rfl ?_
            refine J.wld [1, 2, 3, 0, 4, 5, 6, 7] (ws' := [(a0, .inr (0, [.ref a1, .ref a2, .int (nI co), .int (nI ro), .int sl])), (a1, .inl (cI, 48, .inl th)), (a2, .inl (cI, 48, .inl ow)), (y0, .inr (4, [.int cd2_42, .int tk2_42])), (d0, .inr (3, [.ref d1, .ref d2, .int ln2_42, .int en2_42])), (d1, .inl (cI, 8, .inl ce2_42)), (d2, .inl (cI, 8, .inl se2_42)), (z0, .inr (8, [.ref g0, .ref a0, .ref f0, .ref s0, .ref k0, .ref v0, .ref d0, .ref y0, .ref m0, .ref o0]))]) rfl rfl ?_
            refine K_vi h (wr := [(y0, .inr (4, [.int cd2_42, .int tk2_42])), (d0, .inr (3, [.ref d1, .ref d2, .int ln2_42, .int en2_42])), (d1, .inl (cI, 8, .inl ce2_42)), (d2, .inl (cI, 8, .inl se2_42)), (z0, .inr (8, [.ref g0, .ref a0, .ref f0, .ref s0, .ref k0, .ref v0, .ref d0, .ref y0, .ref m0, .ref o0]))]) (c_X0_cellsOf (xl X) (xD X) cI cE a0 a1 a2 th ow co ro sl p1 (by first | exact hrc |  assumption | omega | rfl)) yv_X0_cellsOf nm_X8_156 (by decide) (by decide) rfl rfl 0 rfl rfl rfl rfl (Nat.le_of_ble_eq_true rfl) (Nat.le_refl _) (Nat.le_refl _) dX8_spoil_64 (fun r_64 u_64 p_64 => ?_)
            obtain ⟨rfl, -⟩ := p_64
            show J X 4 0 0 67 [(0, .ref z0), (1, .int p0), (2, .int p1), (3, .int p2)] [.int (nI (cntP (fun k => decide (ow k = p1)) (ro * co)))] [(a0, .inr (0, [.ref a1, .ref a2, .int (nI co), .int (nI ro), .int sl])), (a1, .inl (cI, 48, .inl th)), (a2, .inl (cI, 48, .inl ow)), (y0, .inr (4, [.int cd2_42, .int tk2_42])), (d0, .inr (3, [.ref d1, .ref d2, .int ln2_42, .int en2_42])), (d1, .inl (cI, 8, .inl ce2_42)), (d2, .inl (cI, 8, .inl se2_42)), (z0, .inr (8, [.ref g0, .ref a0, .ref f0, .ref s0, .ref k0, .ref v0, .ref d0, .ref y0, .ref m0, .ref o0]))]
            refine J_aload_n h (i := 0) dX8_spoil_67 rfl 0 rfl ?_
            refine J_get h inX8 rfl 7 7 (by decide) rfl rfl nf_X8_55 dX8_spoil_68 ?_
            refine J_get h inX4 rfl 3 1 (by decide) rfl rfl nf_X8_200 dX8_spoil_71 ?_
            refine J_isub h dX8_spoil_74 ?_
            refine J.wld [7, 0, 1, 2, 4, 5, 6, 3] (ws' := [(z0, .inr (8, [.ref g0, .ref a0, .ref f0, .ref s0, .ref k0, .ref v0, .ref d0, .ref y0, .ref m0, .ref o0])), (a0, .inr (0, [.ref a1, .ref a2, .int (nI co), .int (nI ro), .int sl])), (a1, .inl (cI, 48, .inl th)), (a2, .inl (cI, 48, .inl ow)), (d0, .inr (3, [.ref d1, .ref d2, .int ln2_42, .int en2_42])), (d1, .inl (cI, 8, .inl ce2_42)), (d2, .inl (cI, 8, .inl se2_42)), (y0, .inr (4, [.int cd2_42, .int tk2_42]))]) rfl rfl ?_
            exact hR ((nI (cntP (fun k => decide (ow k = p1)) (ro * co))) - tk2_42) (cd2_42, tk2_42, ce2_42, se2_42, ln2_42, en2_42) (by trivial) 75 _ dX8_spoil_75
          · skip
            refine J_aload_n h (i := 0) dX8_spoil_49 rfl 0 rfl ?_
            refine J_get h inX8 rfl 7 7 (by decide) rfl rfl nf_X8_55 dX8_spoil_50 ?_
            refine J_get h inX4 rfl 0 0 (by decide) rfl rfl nf_X8_197 dX8_spoil_53 ?_
            refine J_goto h 75 dX8_spoil_56 (by decide) ?_
            refine J.wld [7, 1, 2, 3, 4, 5, 6, 0] (ws' := [(z0, .inr (8, [.ref g0, .ref a0, .ref f0, .ref s0, .ref k0, .ref v0, .ref d0, .ref y0, .ref m0, .ref o0])), (a0, .inr (0, [.ref a1, .ref a2, .int (nI co), .int (nI ro), .int sl])), (a1, .inl (cI, 48, .inl th)), (a2, .inl (cI, 48, .inl ow)), (d0, .inr (3, [.ref d1, .ref d2, .int ln2_42, .int en2_42])), (d1, .inl (cI, 8, .inl ce2_42)), (d2, .inl (cI, 8, .inl se2_42)), (y0, .inr (4, [.int cd2_42, .int tk2_42]))]) rfl rfl ?_
            exact hR cd2_42 (cd2_42, tk2_42, ce2_42, se2_42, ln2_42, en2_42) (by trivial) 75 _ dX8_spoil_75
        · obtain ⟨rfl, f0_20, -⟩ := p_20
          show J X 4 0 0 23 [(0, .ref z0), (1, .int p0), (2, .int p1), (3, .int p2)] [.int (nI 0)] [(z0, .inr (8, [.ref g0, .ref a0, .ref f0, .ref s0, .ref k0, .ref v0, .ref d0, .ref y0, .ref m0, .ref o0])), (a0, .inr (0, [.ref a1, .ref a2, .int (nI co), .int (nI ro), .int sl])), (a1, .inl (cI, 48, .inl th)), (a2, .inl (cI, 48, .inl ow)), (d0, .inr (3, [.ref d1, .ref d2, .int len, .int en])), (d1, .inl (cI, 8, .inl ce)), (d2, .inl (cI, 8, .inl se)), (y0, .inr (4, [.int cd, .int tk]))]
          refine J_if_ne h 28 dX8_spoil_23 (by decide) (fun z => absurd z (by decide)) (fun _ => ?_)
          refine J_iconst h (v := (-1)) dX8_spoil_26 (by decide) ?_
          exact hR ((-1)) (cd, tk, ce, se, len, en) (by trivial) 27 _ dX8_spoil_27
    · obtain ⟨rfl, f0_8, -⟩ := p_8
      show J X 4 0 0 11 [(0, .ref z0), (1, .int p0), (2, .int p1), (3, .int p2)] [.int (nI 0)] [(z0, .inr (8, [.ref g0, .ref a0, .ref f0, .ref s0, .ref k0, .ref v0, .ref d0, .ref y0, .ref m0, .ref o0])), (a0, .inr (0, [.ref a1, .ref a2, .int (nI co), .int (nI ro), .int sl])), (a1, .inl (cI, 48, .inl th)), (a2, .inl (cI, 48, .inl ow)), (d0, .inr (3, [.ref d1, .ref d2, .int len, .int en])), (d1, .inl (cI, 8, .inl ce)), (d2, .inl (cI, 8, .inl se)), (y0, .inr (4, [.int cd, .int tk]))]
      refine J_if_eq h 26 dX8_spoil_11 (by decide) (fun _ => ?_) (fun z => absurd z (by decide))
      refine J_iconst h (v := (-1)) dX8_spoil_26 (by decide) ?_
      exact hR ((-1)) (cd, tk, ce, se, len, en) (by trivial) 27 _ dX8_spoil_27
  · obtain ⟨rfl, f0_1, -⟩ := p_1
    show J X 4 0 0 4 [(0, .ref z0), (1, .int p0), (2, .int p1), (3, .int p2)] [.int (nI 0)] [(z0, .inr (8, [.ref g0, .ref a0, .ref f0, .ref s0, .ref k0, .ref v0, .ref d0, .ref y0, .ref m0, .ref o0])), (a0, .inr (0, [.ref a1, .ref a2, .int (nI co), .int (nI ro), .int sl])), (a1, .inl (cI, 48, .inl th)), (a2, .inl (cI, 48, .inl ow)), (d0, .inr (3, [.ref d1, .ref d2, .int len, .int en])), (d1, .inl (cI, 8, .inl ce)), (d2, .inl (cI, 8, .inl se)), (y0, .inr (4, [.int cd, .int tk]))]
    refine J_if_eq h 26 dX8_spoil_4 (by decide) (fun _ => ?_) (fun z => absurd z (by decide))
    refine J_iconst h (v := (-1)) dX8_spoil_26 (by decide) ?_
    exact hR ((-1)) (cd, tk, ce, se, len, en) (by trivial) 27 _ dX8_spoil_27
theorem c_X8_spoil (l : Launch) (D : va_G) (cI cE : ClassId) (z0 : Nat) (g0 : Nat) (a0 : Nat) (f0 : Nat) (s0 : Nat) (k0 : Nat) (v0 : Nat) (d0 : Nat) (y0 : Nat) (m0 : Nat) (o0 : Nat) (a1 : Nat) (a2 : Nat) (th : Nat → Int32) (ow : Nat → Int32) (co : Nat) (ro : Nat) (sl : Int32) (d1 : Nat) (d2 : Nat) (ce : Nat → Int32) (se : Nat → Int32) (len : Int32) (en : Int32) (cd : Int32) (tk : Int32) (p0 : Int32) (p1 : Int32) (p2 : Int32) (hrc : ro * co ≤ 48) (hco : co ≤ 6) (hro : ro ≤ 8) : Ci l D cI cE yX8_spoil cX8_spoil 4 (some .int) 4 0 0 [.ref z0, .int p0, .int p1, .int p2] [(z0, .inr (8, [.ref g0, .ref a0, .ref f0, .ref s0, .ref k0, .ref v0, .ref d0, .ref y0, .ref m0, .ref o0])), (a0, .inr (0, [.ref a1, .ref a2, .int (nI co), .int (nI ro), .int sl])), (a1, .inl (cI, 48, .inl th)), (a2, .inl (cI, 48, .inl ow)), (d0, .inr (3, [.ref d1, .ref d2, .int len, .int en])), (d1, .inl (cI, 8, .inl ce)), (d2, .inl (cI, 8, .inl se)), (y0, .inr (4, [.int cd, .int tk]))] (fun (r : Int32) (u : (Int32) × (Int32) × (Nat → Int32) × (Nat → Int32) × (Int32) × (Int32)) => ((True))) (fun (u : (Int32) × (Int32) × (Nat → Int32) × (Nat → Int32) × (Int32) × (Int32)) => ([(z0, .inr (8, [.ref g0, .ref a0, .ref f0, .ref s0, .ref k0, .ref v0, .ref d0, .ref y0, .ref m0, .ref o0])), (a0, .inr (0, [.ref a1, .ref a2, .int (nI co), .int (nI ro), .int sl])), (a1, .inl (cI, 48, .inl th)), (a2, .inl (cI, 48, .inl ow)), (d0, .inr (3, [.ref d1, .ref d2, .int u.2.2.2.2.1, .int u.2.2.2.2.2])), (d1, .inl (cI, 8, .inl u.2.2.1)), (d2, .inl (cI, 8, .inl u.2.2.2.1)), (y0, .inr (4, [.int u.1, .int u.2.1]))] : va_W)) :=
  Ci.of (by decide) (Nat.le_of_ble_eq_true rfl) (fun _ _ _ => rfl) (fun X h hR => w_X8_spoil X h z0 g0 a0 f0 s0 k0 v0 d0 y0 m0 o0 a1 a2 th ow co ro sl d1 d2 ce se len en cd tk p0 p1 p2 hrc hco hro hR)
theorem yv_X8_spoil : YV yX8_spoil cX8_spoil 4 (some .int) 3 := ⟨no_X8_spoil, nv_X8_spoil, ni_X8, nk_X8_spoil, by decide +kernel⟩
