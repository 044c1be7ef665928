set_option maxRecDepth 100000 in
set_option maxHeartbeats 4000000 in
theorem w_X8_likely (X : Cx) {cI cE : ClassId} (h : Ok X cX8_likely RX8 7 cI cE 4 0 0) (z0 : Nat) (g0 : Nat) (a0 : Nat) (f0 : Nat) (s0 : Nat) (k0 : Nat) (v0 : Nat) (d0 : Nat) (y0 : Nat) (m0 : Nat) (o0 : Nat) (a1 : Nat) (a2 : Nat) (th : Nat → Int32) (ow : Nat → Int32) (co : Nat) (ro : Nat) (sl : Int32) (o1 : Nat) (o2 : Nat) (wa : Nat → Int32) (nw : Nat → Int32) (ab : Int32) (be : Int32) (p0 : Int32) (p1 : Int32) (p2 : Int32) (p3 : Int32) (p4 : Int32) (hrc : ro * co ≤ 48) (hco : co ≤ 6) (hro : ro ≤ 8) (hR : ∀ (r : Int32) (u : (Nat → Int32) × (Nat → Int32) × (Int32) × (Int32)), ((True)) → RetI X cX8_likely 7 0 0 r [(z0, .inr (8, [.ref g0, .ref a0, .ref f0, .ref s0, .ref k0, .ref v0, .ref d0, .ref y0, .ref m0, .ref o0])), (a0, .inr (0, [.ref a1, .ref a2, .int (nI co), .int (nI ro), .int sl])), (a1, .inl (cI, 48, .inl th)), (a2, .inl (cI, 48, .inl ow)), (o0, .inr (2, [.ref o1, .ref o2, .int u.2.2.1, .int u.2.2.2])), (o1, .inl (cI, 21, .inl u.1)), (o2, .inl (cI, 21, .inl u.2.1))]) : J X 7 0 0 0 [(0, .ref z0), (1, .int p0), (2, .int p1), (3, .int p2), (4, .int p3), (5, .int p4)] [] [(z0, .inr (8, [.ref g0, .ref a0, .ref f0, .ref s0, .ref k0, .ref v0, .ref d0, .ref y0, .ref m0, .ref o0])), (a0, .inr (0, [.ref a1, .ref a2, .int (nI co), .int (nI ro), .int sl])), (a1, .inl (cI, 48, .inl th)), (a2, .inl (cI, 48, .inl ow)), (o0, .inr (2, [.ref o1, .ref o2, .int ab, .int be])), (o1, .inl (cI, 21, .inl wa)), (o2, .inl (cI, 21, .inl nw))] := by
  refine J_aload_n h (i := 0) dX8_likely_0 rfl 0 rfl ?_
  refine J_iload_n h (i := 1) dX8_likely_1 rfl 1 rfl ?_
  refine J_iload_n h (i := 2) dX8_likely_2 rfl 2 rfl ?_
  refine J_iconst h (v := nI 0) dX8_likely_3 (by decide) ?_
  refine K_vi h (wr := [(o0, .inr (2, [.ref o1, .ref o2, .int ab, .int be])), (o1, .inl (cI, 21, .inl wa)), (o2, .inl (cI, 21, .inl nw))]) (c_X8_isRide (xl X) (xD X) cI cE z0 g0 a0 f0 s0 k0 v0 d0 y0 m0 o0 a1 a2 th ow co ro sl p0 p1 (nI 0) (by first | exact hco |  assumption | omega | rfl)) yv_X8_isRide nm_X8_130 (by decide) (by decide) rfl rfl 0 rfl rfl rfl rfl (Nat.le_of_ble_eq_true rfl) (Nat.le_refl _) (Nat.le_refl _) dX8_likely_4 (fun r_4 u_4 p_4 => ?_)
  rcases p_4 with p_4 | p_4
  · obtain ⟨jx_4, jw_4, jh_4, rfl, f0_4, f1_4, f2_4, f3_4, f4_4, rfl, rfl, e2_4, -⟩ := p_4
    show J X 7 0 0 7 [(0, .ref z0), (1, .int (nI jx_4)), (2, .int (nI jw_4)), (3, .int p2), (4, .int p3), (5, .int p4)] [.int (nI 1)] [(z0, .inr (8, [.ref g0, .ref a0, .ref f0, .ref s0, .ref k0, .ref v0, .ref d0, .ref y0, .ref m0, .ref o0])), (a0, .inr (0, [.ref a1, .ref a2, .int (nI co), .int (nI ro), .int sl])), (a1, .inl (cI, 48, .inl th)), (a2, .inl (cI, 48, .inl ow)), (o0, .inr (2, [.ref o1, .ref o2, .int ab, .int be])), (o1, .inl (cI, 21, .inl wa)), (o2, .inl (cI, 21, .inl nw))]
    refine J_if_eq h 30 dX8_likely_7 (by decide) (fun z => absurd z (by decide)) (fun _ => ?_)
    refine J_aload_n h (i := 0) dX8_likely_10 rfl 0 rfl ?_
    refine J_iload_n h (i := 3) dX8_likely_11 rfl 3 rfl ?_
    refine K_vi h (wr := [(o0, .inr (2, [.ref o1, .ref o2, .int ab, .int be])), (o1, .inl (cI, 21, .inl wa)), (o2, .inl (cI, 21, .inl nw))]) (c_X8_isEnd (xl X) (xD X) cI cE z0 g0 a0 f0 s0 k0 v0 d0 y0 m0 o0 a1 a2 th ow co ro sl p2 (by first | exact hrc |  assumption | omega | rfl)) yv_X8_isEnd nm_X8_215 (by decide) (by decide) rfl rfl 0 rfl rfl rfl rfl (Nat.le_of_ble_eq_true rfl) (Nat.le_refl _) (Nat.le_refl _) dX8_likely_12 (fun r_12 u_12 p_12 => ?_)
    rcases p_12 with p_12 | p_12
    · obtain ⟨jc_12, rfl, f0_12, f1_12, rfl, -⟩ := p_12
      show J X 7 0 0 15 [(0, .ref z0), (1, .int (nI jx_4)), (2, .int (nI jw_4)), (3, .int (nI jc_12)), (4, .int p3), (5, .int p4)] [.int (nI 1)] [(z0, .inr (8, [.ref g0, .ref a0, .ref f0, .ref s0, .ref k0, .ref v0, .ref d0, .ref y0, .ref m0, .ref o0])), (a0, .inr (0, [.ref a1, .ref a2, .int (nI co), .int (nI ro), .int sl])), (a1, .inl (cI, 48, .inl th)), (a2, .inl (cI, 48, .inl ow)), (o0, .inr (2, [.ref o1, .ref o2, .int ab, .int be])), (o1, .inl (cI, 21, .inl wa)), (o2, .inl (cI, 21, .inl nw))]
      refine J_if_eq h 30 dX8_likely_15 (by decide) (fun z => absurd z (by decide)) (fun _ => ?_)
      refine J_iload h dX8_likely_18 5 rfl ?_
      refine K_si h (wr := [(z0, .inr (8, [.ref g0, .ref a0, .ref f0, .ref s0, .ref k0, .ref v0, .ref d0, .ref y0, .ref m0, .ref o0])), (a0, .inr (0, [.ref a1, .ref a2, .int (nI co), .int (nI ro), .int sl])), (a1, .inl (cI, 48, .inl th)), (a2, .inl (cI, 48, .inl ow)), (o0, .inr (2, [.ref o1, .ref o2, .int ab, .int be])), (o1, .inl (cI, 21, .inl wa)), (o2, .inl (cI, 21, .inl nw))]) (c_X8_isFlag (xl X) (xD X) cI cE p4 ) yv_X8_isFlag nm_X8_117 (by decide) (by decide) rfl rfl rfl (Nat.le_of_ble_eq_true rfl) (Nat.le_refl _) (Nat.le_refl _) dX8_likely_20 (fun r_20 u_20 p_20 => ?_)
      rcases p_20 with p_20 | p_20
      · obtain ⟨rfl, f0_20, -⟩ := p_20
        show J X 7 0 0 23 [(0, .ref z0), (1, .int (nI jx_4)), (2, .int (nI jw_4)), (3, .int (nI jc_12)), (4, .int p3), (5, .int p4)] [.int (nI 1)] [(z0, .inr (8, [.ref g0, .ref a0, .ref f0, .ref s0, .ref k0, .ref v0, .ref d0, .ref y0, .ref m0, .ref o0])), (a0, .inr (0, [.ref a1, .ref a2, .int (nI co), .int (nI ro), .int sl])), (a1, .inl (cI, 48, .inl th)), (a2, .inl (cI, 48, .inl ow)), (o0, .inr (2, [.ref o1, .ref o2, .int ab, .int be])), (o1, .inl (cI, 21, .inl wa)), (o2, .inl (cI, 21, .inl nw))]
        refine J_if_eq h 30 dX8_likely_23 (by decide) (fun z => absurd z (by decide)) (fun _ => ?_)
        refine J_iconst h (v := nI 1) dX8_likely_26 (by decide) ?_
        refine J_goto h 31 dX8_likely_27 (by decide) ?_
        refine J_istore h (lv' := [(6, .int (nI 1)), (0, .ref z0), (1, .int (nI jx_4)), (2, .int (nI jw_4)), (3, .int (nI jc_12)), (4, .int p3), (5, .int p4)]) dX8_likely_31 (by decide) rfl ?_
        refine J_iload h dX8_likely_33 0 rfl ?_
        refine J_if_eq h 50 dX8_likely_35 (by decide) (fun z => absurd z (by decide)) (fun _ => ?_)
        refine J_iload h dX8_likely_38 5 rfl ?_
        refine T_if_lt h (A := (p3).toInt) 50 dX8_likely_40 (by decide) (rfl) (fun c_40 => ?_) (fun c_40 => ?_)
        · skip
          refine J_iconst h (v := (-1)) dX8_likely_50 (by decide) ?_
          exact hR ((-1)) (wa, nw, ab, be) (by trivial) 51 _ dX8_likely_51
        · skip
          refine J_iload h dX8_likely_43 5 rfl ?_
          refine J_bipush h (v := nI 10) dX8_likely_45 (by decide) ?_
          refine T_icmp_le h (A := (p3).toInt) (B := 10) 52 dX8_likely_47 (by decide) (rfl) (nI_toInt (by omega)) (fun c_47 => ?_) (fun c_47 => ?_)
          · skip
            obtain ⟨jt, hjt, rfl⟩ := toNI (x := p3) (n := 11) (by omega) (by omega)
            refine J_aload_n h (i := 0) dX8_likely_52 rfl 1 rfl ?_
            refine J_get h inX8 rfl 0 9 (by decide) rfl rfl nf_X8_69 dX8_likely_53 ?_
            refine J_aload_n h (i := 0) dX8_likely_56 rfl 1 rfl ?_
            refine J_get h inX8 rfl 0 1 (by decide) rfl rfl nf_X8_19 dX8_likely_57 ?_
            refine J_iload_n h (i := 1) dX8_likely_60 rfl 2 rfl ?_
            refine J_iload_n h (i := 2) dX8_likely_61 rfl 3 rfl ?_
            refine J_iload_n h (i := 3) dX8_likely_62 rfl 4 rfl ?_
            refine J_iload h dX8_likely_63 5 rfl ?_
            refine J.wld [4, 5, 6, 1, 2, 3, 0] (ws' := [(o0, .inr (2, [.ref o1, .ref o2, .int ab, .int be])), (o1, .inl (cI, 21, .inl wa)), (o2, .inl (cI, 21, .inl nw)), (a0, .inr (0, [.ref a1, .ref a2, .int (nI co), .int (nI ro), .int sl])), (a1, .inl (cI, 48, .inl th)), (a2, .inl (cI, 48, .inl ow)), (z0, .inr (8, [.ref g0, .ref a0, .ref f0, .ref s0, .ref k0, .ref v0, .ref d0, .ref y0, .ref m0, .ref o0]))]) rfl rfl ?_
            refine K_vv h (wr := [(z0, .inr (8, [.ref g0, .ref a0, .ref f0, .ref s0, .ref k0, .ref v0, .ref d0, .ref y0, .ref m0, .ref o0]))]) (c_X2_find (xl X) (xD X) cI cE o0 o1 o2 wa nw ab be a0 a1 a2 th ow co ro sl jx_4 jw_4 jc_12 jt (by first | exact hrc |  assumption | omega | rfl) (by first | exact hco |  assumption | omega | rfl) (by first | exact hro |  assumption | omega | rfl) (by first | assumption | omega | rfl) (by first | assumption | omega | rfl) (by first | assumption | omega | rfl) (by first | assumption | omega | rfl)) yv_X2_find nm_X8_229 (by decide) (by decide) rfl rfl 0 rfl rfl rfl rfl (Nat.le_of_ble_eq_true rfl) (Nat.le_refl _) (Nat.le_refl _) dX8_likely_65 (fun u_65 p_65 => ?_)
            obtain ⟨wa2_65, nw2_65, ab2_65, be2_65⟩ := u_65
            try dsimp only at p_65
            show J X 7 0 0 68 [(6, .int (nI 1)), (0, .ref z0), (1, .int (nI jx_4)), (2, .int (nI jw_4)), (3, .int (nI jc_12)), (4, .int (nI jt)), (5, .int p4)] [] [(o0, .inr (2, [.ref o1, .ref o2, .int ab2_65, .int be2_65])), (o1, .inl (cI, 21, .inl wa2_65)), (o2, .inl (cI, 21, .inl nw2_65)), (a0, .inr (0, [.ref a1, .ref a2, .int (nI co), .int (nI ro), .int sl])), (a1, .inl (cI, 48, .inl th)), (a2, .inl (cI, 48, .inl ow)), (z0, .inr (8, [.ref g0, .ref a0, .ref f0, .ref s0, .ref k0, .ref v0, .ref d0, .ref y0, .ref m0, .ref o0]))]
            refine J_iload h dX8_likely_68 6 rfl ?_
            refine T_if_ne h (A := (p4).toInt) 83 dX8_likely_70 (by decide) (rfl) (fun c_70 => ?_) (fun c_70 => ?_)
            · skip
              refine J_aload_n h (i := 0) dX8_likely_83 rfl 1 rfl ?_
              refine J_get h inX8 rfl 6 9 (by decide) rfl rfl nf_X8_69 dX8_likely_84 ?_
              refine J_get h inX2 rfl 0 3 (by decide) rfl rfl nf_X8_236 dX8_likely_87 ?_
              refine J.wld [6, 3, 4, 5, 0, 1, 2] (ws' := [(z0, .inr (8, [.ref g0, .ref a0, .ref f0, .ref s0, .ref k0, .ref v0, .ref d0, .ref y0, .ref m0, .ref o0])), (a0, .inr (0, [.ref a1, .ref a2, .int (nI co), .int (nI ro), .int sl])), (a1, .inl (cI, 48, .inl th)), (a2, .inl (cI, 48, .inl ow)), (o0, .inr (2, [.ref o1, .ref o2, .int ab2_65, .int be2_65])), (o1, .inl (cI, 21, .inl wa2_65)), (o2, .inl (cI, 21, .inl nw2_65))]) rfl rfl ?_
              exact hR be2_65 (wa2_65, nw2_65, ab2_65, be2_65) (by trivial) 90 _ dX8_likely_90
            · skip
              refine J_aload_n h (i := 0) dX8_likely_73 rfl 1 rfl ?_
              refine J_get h inX8 rfl 6 9 (by decide) rfl rfl nf_X8_69 dX8_likely_74 ?_
              refine J_get h inX2 rfl 0 2 (by decide) rfl rfl nf_X8_233 dX8_likely_77 ?_
              refine J_goto h 90 dX8_likely_80 (by decide) ?_
              refine J.wld [6, 3, 4, 5, 0, 1, 2] (ws' := [(z0, .inr (8, [.ref g0, .ref a0, .ref f0, .ref s0, .ref k0, .ref v0, .ref d0, .ref y0, .ref m0, .ref o0])), (a0, .inr (0, [.ref a1, .ref a2, .int (nI co), .int (nI ro), .int sl])), (a1, .inl (cI, 48, .inl th)), (a2, .inl (cI, 48, .inl ow)), (o0, .inr (2, [.ref o1, .ref o2, .int ab2_65, .int be2_65])), (o1, .inl (cI, 21, .inl wa2_65)), (o2, .inl (cI, 21, .inl nw2_65))]) rfl rfl ?_
              exact hR ab2_65 (wa2_65, nw2_65, ab2_65, be2_65) (by trivial) 90 _ dX8_likely_90
          · skip
            refine J_iconst h (v := (-1)) dX8_likely_50 (by decide) ?_
            exact hR ((-1)) (wa, nw, ab, be) (by trivial) 51 _ dX8_likely_51
      · obtain ⟨rfl, f0_20, -⟩ := p_20
        show J X 7 0 0 23 [(0, .ref z0), (1, .int (nI jx_4)), (2, .int (nI jw_4)), (3, .int (nI jc_12)), (4, .int p3), (5, .int p4)] [.int (nI 0)] [(z0, .inr (8, [.ref g0, .ref a0, .ref f0, .ref s0, .ref k0, .ref v0, .ref d0, .ref y0, .ref m0, .ref o0])), (a0, .inr (0, [.ref a1, .ref a2, .int (nI co), .int (nI ro), .int sl])), (a1, .inl (cI, 48, .inl th)), (a2, .inl (cI, 48, .inl ow)), (o0, .inr (2, [.ref o1, .ref o2, .int ab, .int be])), (o1, .inl (cI, 21, .inl wa)), (o2, .inl (cI, 21, .inl nw))]
        refine J_if_eq h 30 dX8_likely_23 (by decide) (fun _ => ?_) (fun z => absurd z (by decide))
        refine J_iconst h (v := nI 0) dX8_likely_30 (by decide) ?_
        refine J_istore h (lv' := [(6, .int (nI 0)), (0, .ref z0), (1, .int (nI jx_4)), (2, .int (nI jw_4)), (3, .int (nI jc_12)), (4, .int p3), (5, .int p4)]) dX8_likely_31 (by decide) rfl ?_
        refine J_iload h dX8_likely_33 0 rfl ?_
        refine J_if_eq h 50 dX8_likely_35 (by decide) (fun _ => ?_) (fun z => absurd z (by decide))
        refine J_iconst h (v := (-1)) dX8_likely_50 (by decide) ?_
        exact hR ((-1)) (wa, nw, ab, be) (by trivial) 51 _ dX8_likely_51
    · obtain ⟨rfl, f0_12, -⟩ := p_12
      show J X 7 0 0 15 [(0, .ref z0), (1, .int (nI jx_4)), (2, .int (nI jw_4)), (3, .int p2), (4, .int p3), (5, .int p4)] [.int (nI 0)] [(z0, .inr (8, [.ref g0, .ref a0, .ref f0, .ref s0, .ref k0, .ref v0, .ref d0, .ref y0, .ref m0, .ref o0])), (a0, .inr (0, [.ref a1, .ref a2, .int (nI co), .int (nI ro), .int sl])), (a1, .inl (cI, 48, .inl th)), (a2, .inl (cI, 48, .inl ow)), (o0, .inr (2, [.ref o1, .ref o2, .int ab, .int be])), (o1, .inl (cI, 21, .inl wa)), (o2, .inl (cI, 21, .inl nw))]
      refine J_if_eq h 30 dX8_likely_15 (by decide) (fun _ => ?_) (fun z => absurd z (by decide))
      refine J_iconst h (v := nI 0) dX8_likely_30 (by decide) ?_
      refine J_istore h (lv' := [(6, .int (nI 0)), (0, .ref z0), (1, .int (nI jx_4)), (2, .int (nI jw_4)), (3, .int p2), (4, .int p3), (5, .int p4)]) dX8_likely_31 (by decide) rfl ?_
      refine J_iload h dX8_likely_33 0 rfl ?_
      refine J_if_eq h 50 dX8_likely_35 (by decide) (fun _ => ?_) (fun z => absurd z (by decide))
      refine J_iconst h (v := (-1)) dX8_likely_50 (by decide) ?_
      exact hR ((-1)) (wa, nw, ab, be) (by trivial) 51 _ dX8_likely_51
  · obtain ⟨rfl, f0_4, -⟩ := p_4
    show J X 7 0 0 7 [(0, .ref z0), (1, .int p0), (2, .int p1), (3, .int p2), (4, .int p3), (5, .int p4)] [.int (nI 0)] [(z0, .inr (8, [.ref g0, .ref a0, .ref f0, .ref s0, .ref k0, .ref v0, .ref d0, .ref y0, .ref m0, .ref o0])), (a0, .inr (0, [.ref a1, .ref a2, .int (nI co), .int (nI ro), .int sl])), (a1, .inl (cI, 48, .inl th)), (a2, .inl (cI, 48, .inl ow)), (o0, .inr (2, [.ref o1, .ref o2, .int ab, .int be])), (o1, .inl (cI, 21, .inl wa)), (o2, .inl (cI, 21, .inl nw))]
    refine J_if_eq h 30 dX8_likely_7 (by decide) (fun _ => ?_) (fun z => absurd z (by decide))
    refine J_iconst h (v := nI 0) dX8_likely_30 (by decide) ?_
    refine J_istore h (lv' := [(6, .int (nI 0)), (0, .ref z0), (1, .int p0), (2, .int p1), (3, .int p2), (4, .int p3), (5, .int p4)]) dX8_likely_31 (by decide) rfl ?_
    refine J_iload h dX8_likely_33 0 rfl ?_
    refine J_if_eq h 50 dX8_likely_35 (by decide) (fun _ => ?_) (fun z => absurd z (by decide))
    refine J_iconst h (v := (-1)) dX8_likely_50 (by decide) ?_
    exact hR ((-1)) (wa, nw, ab, be) (by trivial) 51 _ dX8_likely_51
theorem c_X8_likely (l : Launch) (D : va_G) (cI cE : ClassId) (z0 : Nat) (g0 : Nat) (a0 : Nat) (f0 : Nat) (s0 : Nat) (k0 : Nat) (v0 : Nat) (d0 : Nat) (y0 : Nat) (m0 : Nat) (o0 : Nat) (a1 : Nat) (a2 : Nat) (th : Nat → Int32) (ow : Nat → Int32) (co : Nat) (ro : Nat) (sl : Int32) (o1 : Nat) (o2 : Nat) (wa : Nat → Int32) (nw : Nat → Int32) (ab : Int32) (be : Int32) (p0 : Int32) (p1 : Int32) (p2 : Int32) (p3 : Int32) (p4 : Int32) (hrc : ro * co ≤ 48) (hco : co ≤ 6) (hro : ro ≤ 8) : Ci l D cI cE yX8_likely cX8_likely 7 (some .int) 4 0 0 [.ref z0, .int p0, .int p1, .int p2, .int p3, .int p4] [(z0, .inr (8, [.ref g0, .ref a0, .ref f0, .ref s0, .ref k0, .ref v0, .ref d0, .ref y0, .ref m0, .ref o0])), (a0, .inr (0, [.ref a1, .ref a2, .int (nI co), .int (nI ro), .int sl])), (a1, .inl (cI, 48, .inl th)), (a2, .inl (cI, 48, .inl ow)), (o0, .inr (2, [.ref o1, .ref o2, .int ab, .int be])), (o1, .inl (cI, 21, .inl wa)), (o2, .inl (cI, 21, .inl nw))] (fun (r : Int32) (u : (Nat → Int32) × (Nat → Int32) × (Int32) × (Int32)) => ((True))) (fun (u : (Nat → Int32) × (Nat → Int32) × (Int32) × (Int32)) => ([(z0, .inr (8, [.ref g0, .ref a0, .ref f0, .ref s0, .ref k0, .ref v0, .ref d0, .ref y0, .ref m0, .ref o0])), (a0, .inr (0, [.ref a1, .ref a2, .int (nI co), .int (nI ro), .int sl])), (a1, .inl (cI, 48, .inl th)), (a2, .inl (cI, 48, .inl ow)), (o0, .inr (2, [.ref o1, .ref o2, .int u.2.2.1, .int u.2.2.2])), (o1, .inl (cI, 21, .inl u.1)), (o2, .inl (cI, 21, .inl u.2.1))] : va_W)) :=
  Ci.of (by decide) (Nat.le_of_ble_eq_true rfl) (fun _ _ _ => rfl) (fun X h hR => w_X8_likely X h z0 g0 a0 f0 s0 k0 v0 d0 y0 m0 o0 a1 a2 th ow co ro sl o1 o2 wa nw ab be p0 p1 p2 p3 p4 hrc hco hro hR)
theorem yv_X8_likely : YV yX8_likely cX8_likely 7 (some .int) 5 := ⟨no_X8_likely, nv_X8_likely, ni_X8, nk_X8_likely, by decide +kernel⟩
