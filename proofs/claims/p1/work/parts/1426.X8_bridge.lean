set_option maxRecDepth 100000 in
set_option maxHeartbeats 4000000 in
theorem w_X8_bridge (X : Cx) {cI cE : ClassId} (h : Ok X cX8_bridge RX8 4 cI cE 4 0 0) (z0 : Nat) (g0 : Nat) (a0 : Nat) (f0 : Nat) (s0 : Nat) (k0 : Nat) (v0 : Nat) (d0 : Nat) (y0 : Nat) (m0 : Nat) (o0 : Nat) (a1 : Nat) (a2 : Nat) (th : Nat → Int32) (ow : Nat → Int32) (co : Nat) (ro : Nat) (sl : Int32) (m1 : Nat) (m2 : Nat) (mk : Nat → Int32) (wg : Nat → Int32) (wn : Int32) (p0 : Int32) (p1 : Int32) (p2 : Int32) (hrc : ro * co ≤ 48) (hco : co ≤ 6) (hro : ro ≤ 8) (hR : ∀ (r : Int32) (u : (Nat → Int32)), ((True)) → RetI X cX8_bridge 4 0 0 r [(z0, .inr (8, [.ref g0, .ref a0, .ref f0, .ref s0, .ref k0, .ref v0, .ref d0, .ref y0, .ref m0, .ref o0])), (a0, .inr (0, [.ref a1, .ref a2, .int (nI co), .int (nI ro), .int sl])), (a1, .inl (cI, 48, .inl th)), (a2, .inl (cI, 48, .inl ow)), (m0, .inr (1, [.ref m1, .ref m2, .int wn])), (m1, .inl (cI, 48, .inl u)), (m2, .inl (cI, 48, .inl wg))]) : J X 4 0 0 0 [(0, .ref z0), (1, .int p0), (2, .int p1), (3, .int p2)] [] [(z0, .inr (8, [.ref g0, .ref a0, .ref f0, .ref s0, .ref k0, .ref v0, .ref d0, .ref y0, .ref m0, .ref o0])), (a0, .inr (0, [.ref a1, .ref a2, .int (nI co), .int (nI ro), .int sl])), (a1, .inl (cI, 48, .inl th)), (a2, .inl (cI, 48, .inl ow)), (m0, .inr (1, [.ref m1, .ref m2, .int wn])), (m1, .inl (cI, 48, .inl mk)), (m2, .inl (cI, 48, .inl wg))] := by
  refine J_iload_n h (i := 1) dX8_bridge_0 rfl 1 rfl ?_
  refine K_si h (wr := [(z0, .inr (8, [.ref g0, .ref a0, .ref f0, .ref s0, .ref k0, .ref v0, .ref d0, .ref y0, .ref m0, .ref o0])), (a0, .inr (0, [.ref a1, .ref a2, .int (nI co), .int (nI ro), .int sl])), (a1, .inl (cI, 48, .inl th)), (a2, .inl (cI, 48, .inl ow)), (m0, .inr (1, [.ref m1, .ref m2, .int wn])), (m1, .inl (cI, 48, .inl mk)), (m2, .inl (cI, 48, .inl wg))]) (c_X8_isSide (xl X) (xD X) cI cE p0 ((p0).toInt) (by exact rfl)) yv_X8_isSide nm_X8_153 (by decide) (by decide) rfl rfl rfl (Nat.le_of_ble_eq_true rfl) (Nat.le_refl _) (Nat.le_refl _) dX8_bridge_1 (fun r_1 u_1 p_1 => ?_)
  rcases p_1 with p_1 | p_1
  · obtain ⟨rfl, f0_1, -⟩ := p_1
    show J X 4 0 0 4 [(0, .ref z0), (1, .int p0), (2, .int p1), (3, .int p2)] [.int (nI 1)] [(z0, .inr (8, [.ref g0, .ref a0, .ref f0, .ref s0, .ref k0, .ref v0, .ref d0, .ref y0, .ref m0, .ref o0])), (a0, .inr (0, [.ref a1, .ref a2, .int (nI co), .int (nI ro), .int sl])), (a1, .inl (cI, 48, .inl th)), (a2, .inl (cI, 48, .inl ow)), (m0, .inr (1, [.ref m1, .ref m2, .int wn])), (m1, .inl (cI, 48, .inl mk)), (m2, .inl (cI, 48, .inl wg))]
    refine J_if_eq h 29 dX8_bridge_4 (by decide) (fun z => absurd z (by decide)) (fun _ => ?_)
    refine J_aload_n h (i := 0) dX8_bridge_7 rfl 0 rfl ?_
    refine J_get h inX8 rfl 0 1 (by decide) rfl rfl nf_X8_19 dX8_bridge_8 ?_
    refine J_iload_n h (i := 2) dX8_bridge_11 rfl 2 rfl ?_
    refine J.wld [1, 2, 3, 0, 4, 5, 6] (ws' := [(a0, .inr (0, [.ref a1, .ref a2, .int (nI co), .int (nI ro), .int sl])), (a1, .inl (cI, 48, .inl th)), (a2, .inl (cI, 48, .inl ow)), (z0, .inr (8, [.ref g0, .ref a0, .ref f0, .ref s0, .ref k0, .ref v0, .ref d0, .ref y0, .ref m0, .ref o0])), (m0, .inr (1, [.ref m1, .ref m2, .int wn])), (m1, .inl (cI, 48, .inl mk)), (m2, .inl (cI, 48, .inl wg))]) rfl rfl ?_
    refine K_vi h (wr := [(z0, .inr (8, [.ref g0, .ref a0, .ref f0, .ref s0, .ref k0, .ref v0, .ref d0, .ref y0, .ref m0, .ref o0])), (m0, .inr (1, [.ref m1, .ref m2, .int wn])), (m1, .inl (cI, 48, .inl mk)), (m2, .inl (cI, 48, .inl wg))]) (c_X0_hasCell (xl X) (xD X) cI cE a0 a1 a2 th ow co ro sl p1 (by first | exact hrc |  assumption | omega | rfl)) yv_X0_hasCell nm_X8_114 (by decide) (by decide) rfl rfl 0 rfl rfl rfl rfl (Nat.le_of_ble_eq_true rfl) (Nat.le_refl _) (Nat.le_refl _) dX8_bridge_12 (fun r_12 u_12 p_12 => ?_)
    rcases p_12 with p_12 | p_12
    · obtain ⟨j_12, rfl, f0_12, rfl, -⟩ := p_12
      show J X 4 0 0 15 [(0, .ref z0), (1, .int p0), (2, .int (nI j_12)), (3, .int p2)] [.int (nI 1)] [(a0, .inr (0, [.ref a1, .ref a2, .int (nI co), .int (nI ro), .int sl])), (a1, .inl (cI, 48, .inl th)), (a2, .inl (cI, 48, .inl ow)), (z0, .inr (8, [.ref g0, .ref a0, .ref f0, .ref s0, .ref k0, .ref v0, .ref d0, .ref y0, .ref m0, .ref o0])), (m0, .inr (1, [.ref m1, .ref m2, .int wn])), (m1, .inl (cI, 48, .inl mk)), (m2, .inl (cI, 48, .inl wg))]
      refine J_if_eq h 29 dX8_bridge_15 (by decide) (fun z => absurd z (by decide)) (fun _ => ?_)
      refine J_aload_n h (i := 0) dX8_bridge_18 rfl 0 rfl ?_
      refine J_get h inX8 rfl 3 1 (by decide) rfl rfl nf_X8_19 dX8_bridge_19 ?_
      refine J_iload_n h (i := 3) dX8_bridge_22 rfl 3 rfl ?_
      refine K_vi h (wr := [(z0, .inr (8, [.ref g0, .ref a0, .ref f0, .ref s0, .ref k0, .ref v0, .ref d0, .ref y0, .ref m0, .ref o0])), (m0, .inr (1, [.ref m1, .ref m2, .int wn])), (m1, .inl (cI, 48, .inl mk)), (m2, .inl (cI, 48, .inl wg))]) (c_X0_hasCell (xl X) (xD X) cI cE a0 a1 a2 th ow co ro sl p2 (by first | exact hrc |  assumption | omega | rfl)) yv_X0_hasCell nm_X8_114 (by decide) (by decide) rfl rfl 0 rfl rfl rfl rfl (Nat.le_of_ble_eq_true rfl) (Nat.le_refl _) (Nat.le_refl _) dX8_bridge_23 (fun r_23 u_23 p_23 => ?_)
      rcases p_23 with p_23 | p_23
      · obtain ⟨j_23, rfl, f0_23, rfl, -⟩ := p_23
        show J X 4 0 0 26 [(0, .ref z0), (1, .int p0), (2, .int (nI j_12)), (3, .int (nI j_23))] [.int (nI 1)] [(a0, .inr (0, [.ref a1, .ref a2, .int (nI co), .int (nI ro), .int sl])), (a1, .inl (cI, 48, .inl th)), (a2, .inl (cI, 48, .inl ow)), (z0, .inr (8, [.ref g0, .ref a0, .ref f0, .ref s0, .ref k0, .ref v0, .ref d0, .ref y0, .ref m0, .ref o0])), (m0, .inr (1, [.ref m1, .ref m2, .int wn])), (m1, .inl (cI, 48, .inl mk)), (m2, .inl (cI, 48, .inl wg))]
        refine J_if_ne h 31 dX8_bridge_26 (by decide) (fun _ => ?_) (fun z => absurd z (by decide))
        refine J_aload_n h (i := 0) dX8_bridge_31 rfl 0 rfl ?_
        refine J_get h inX8 rfl 3 1 (by decide) rfl rfl nf_X8_19 dX8_bridge_32 ?_
        refine J_iload_n h (i := 2) dX8_bridge_35 rfl 2 rfl ?_
        refine K_vi h (wr := [(z0, .inr (8, [.ref g0, .ref a0, .ref f0, .ref s0, .ref k0, .ref v0, .ref d0, .ref y0, .ref m0, .ref o0])), (m0, .inr (1, [.ref m1, .ref m2, .int wn])), (m1, .inl (cI, 48, .inl mk)), (m2, .inl (cI, 48, .inl wg))]) (c_X0_ownerOf (xl X) (xD X) cI cE a0 a1 a2 th ow co ro sl j_12 (by first | exact hrc |  assumption | omega | rfl) (by first | assumption | omega | rfl)) yv_X0_ownerOf nm_X8_124 (by decide) (by decide) rfl rfl 0 rfl rfl rfl rfl (Nat.le_of_ble_eq_true rfl) (Nat.le_refl _) (Nat.le_refl _) dX8_bridge_36 (fun r_36 u_36 p_36 => ?_)
        obtain ⟨rfl, -⟩ := p_36
        show J X 4 0 0 39 [(0, .ref z0), (1, .int p0), (2, .int (nI j_12)), (3, .int (nI j_23))] [.int (ow j_12)] [(a0, .inr (0, [.ref a1, .ref a2, .int (nI co), .int (nI ro), .int sl])), (a1, .inl (cI, 48, .inl th)), (a2, .inl (cI, 48, .inl ow)), (z0, .inr (8, [.ref g0, .ref a0, .ref f0, .ref s0, .ref k0, .ref v0, .ref d0, .ref y0, .ref m0, .ref o0])), (m0, .inr (1, [.ref m1, .ref m2, .int wn])), (m1, .inl (cI, 48, .inl mk)), (m2, .inl (cI, 48, .inl wg))]
        refine J_iload_n h (i := 1) dX8_bridge_39 rfl 1 rfl ?_
        refine J_icmp_ne h 55 dX8_bridge_40 (by decide) (fun c_40 => ?_) (fun c_40 => ?_)
        · skip
          refine J_bipush h (v := (-2)) dX8_bridge_55 (by decide) ?_
          refine J.wld [3, 0, 1, 2, 4, 5, 6] (ws' := [(z0, .inr (8, [.ref g0, .ref a0, .ref f0, .ref s0, .ref k0, .ref v0, .ref d0, .ref y0, .ref m0, .ref o0])), (a0, .inr (0, [.ref a1, .ref a2, .int (nI co), .int (nI ro), .int sl])), (a1, .inl (cI, 48, .inl th)), (a2, .inl (cI, 48, .inl ow)), (m0, .inr (1, [.ref m1, .ref m2, .int wn])), (m1, .inl (cI, 48, .inl mk)), (m2, .inl (cI, 48, .inl wg))]) rfl rfl ?_
          exact hR ((-2)) mk (by trivial) 57 _ dX8_bridge_57
        · skip
          refine J_aload_n h (i := 0) dX8_bridge_43 rfl 0 rfl ?_
          refine J_get h inX8 rfl 3 1 (by decide) rfl rfl nf_X8_19 dX8_bridge_44 ?_
          refine J_iload_n h (i := 3) dX8_bridge_47 rfl 3 rfl ?_
          refine K_vi h (wr := [(z0, .inr (8, [.ref g0, .ref a0, .ref f0, .ref s0, .ref k0, .ref v0, .ref d0, .ref y0, .ref m0, .ref o0])), (m0, .inr (1, [.ref m1, .ref m2, .int wn])), (m1, .inl (cI, 48, .inl mk)), (m2, .inl (cI, 48, .inl wg))]) (c_X0_ownerOf (xl X) (xD X) cI cE a0 a1 a2 th ow co ro sl j_23 (by first | exact hrc |  assumption | omega | rfl) (by first | assumption | omega | rfl)) yv_X0_ownerOf nm_X8_124 (by decide) (by decide) rfl rfl 0 rfl rfl rfl rfl (Nat.le_of_ble_eq_true rfl) (Nat.le_refl _) (Nat.le_refl _) dX8_bridge_48 (fun r_48 u_48 p_48 => ?_)
          obtain ⟨rfl, -⟩ := p_48
          show J X 4 0 0 51 [(0, .ref z0), (1, .int p0), (2, .int (nI j_12)), (3, .int (nI j_23))] [.int (ow j_23)] [(a0, .inr (0, [.ref a1, .ref a2, .int (nI co), .int (nI ro), .int sl])), (a1, .inl (cI, 48, .inl th)), (a2, .inl (cI, 48, .inl ow)), (z0, .inr (8, [.ref g0, .ref a0, .ref f0, .ref s0, .ref k0, .ref v0, .ref d0, .ref y0, .ref m0, .ref o0])), (m0, .inr (1, [.ref m1, .ref m2, .int wn])), (m1, .inl (cI, 48, .inl mk)), (m2, .inl (cI, 48, .inl wg))]
          refine J_iload_n h (i := 1) dX8_bridge_51 rfl 1 rfl ?_
          refine J_icmp_eq h 58 dX8_bridge_52 (by decide) (fun c_52 => ?_) (fun c_52 => ?_)
          · skip
            refine J_aload_n h (i := 0) dX8_bridge_58 rfl 0 rfl ?_
            refine J_get h inX8 rfl 3 8 (by decide) rfl rfl nf_X8_62 dX8_bridge_59 ?_
            refine J_aload_n h (i := 0) dX8_bridge_62 rfl 0 rfl ?_
            refine J_get h inX8 rfl 3 1 (by decide) rfl rfl nf_X8_19 dX8_bridge_63 ?_
            refine J_iload_n h (i := 1) dX8_bridge_66 rfl 1 rfl ?_
            refine J_iload_n h (i := 2) dX8_bridge_67 rfl 2 rfl ?_
            refine J_iload_n h (i := 3) dX8_bridge_68 rfl 3 rfl ?_
            refine J.wld [4, 5, 6, 0, 1, 2, 3] (ws' := [(m0, .inr (1, [.ref m1, .ref m2, .int wn])), (m1, .inl (cI, 48, .inl mk)), (m2, .inl (cI, 48, .inl wg)), (a0, .inr (0, [.ref a1, .ref a2, .int (nI co), .int (nI ro), .int sl])), (a1, .inl (cI, 48, .inl th)), (a2, .inl (cI, 48, .inl ow)), (z0, .inr (8, [.ref g0, .ref a0, .ref f0, .ref s0, .ref k0, .ref v0, .ref d0, .ref y0, .ref m0, .ref o0]))]) rfl rfl ?_
            refine K_vi h (wr := [(z0, .inr (8, [.ref g0, .ref a0, .ref f0, .ref s0, .ref k0, .ref v0, .ref d0, .ref y0, .ref m0, .ref o0]))]) (c_X1_leastBetween (xl X) (xD X) cI cE m0 m1 m2 mk wg wn a0 a1 a2 th ow co ro sl p0 j_12 j_23 (by first | exact hrc |  assumption | omega | rfl) (by first | assumption | omega | rfl) (by first | assumption | omega | rfl)) yv_X1_leastBetween nm_X8_211 (by decide) (by decide) rfl rfl 0 rfl rfl rfl rfl (Nat.le_of_ble_eq_true rfl) (Nat.le_refl _) (Nat.le_refl _) dX8_bridge_69 (fun r_69 u_69 p_69 => ?_)
            obtain ⟨mk2_69, rfl⟩ : ∃ z, z = u_69 := ⟨_, rfl⟩
            show J X 4 0 0 72 [(0, .ref z0), (1, .int p0), (2, .int (nI j_12)), (3, .int (nI j_23))] [.int r_69] [(m0, .inr (1, [.ref m1, .ref m2, .int wn])), (m1, .inl (cI, 48, .inl mk2_69)), (m2, .inl (cI, 48, .inl wg)), (a0, .inr (0, [.ref a1, .ref a2, .int (nI co), .int (nI ro), .int sl])), (a1, .inl (cI, 48, .inl th)), (a2, .inl (cI, 48, .inl ow)), (z0, .inr (8, [.ref g0, .ref a0, .ref f0, .ref s0, .ref k0, .ref v0, .ref d0, .ref y0, .ref m0, .ref o0]))]
            refine J.wld [6, 3, 4, 5, 0, 1, 2] (ws' := [(z0, .inr (8, [.ref g0, .ref a0, .ref f0, .ref s0, .ref k0, .ref v0, .ref d0, .ref y0, .ref m0, .ref o0])), (a0, .inr (0, [.ref a1, .ref a2, .int (nI co), .int (nI ro), .int sl])), (a1, .inl (cI, 48, .inl th)), (a2, .inl (cI, 48, .inl ow)), (m0, .inr (1, [.ref m1, .ref m2, .int wn])), (m1, .inl (cI, 48, .inl mk2_69)), (m2, .inl (cI, 48, .inl wg))]) rfl rfl ?_
            exact hR r_69 mk2_69 (by trivial) 72 _ dX8_bridge_72
          · skip
            refine J_bipush h (v := (-2)) dX8_bridge_55 (by decide) ?_
            refine J.wld [3, 0, 1, 2, 4, 5, 6] (ws' := [(z0, .inr (8, [.ref g0, .ref a0, .ref f0, .ref s0, .ref k0, .ref v0, .ref d0, .ref y0, .ref m0, .ref o0])), (a0, .inr (0, [.ref a1, .ref a2, .int (nI co), .int (nI ro), .int sl])), (a1, .inl (cI, 48, .inl th)), (a2, .inl (cI, 48, .inl ow)), (m0, .inr (1, [.ref m1, .ref m2, .int wn])), (m1, .inl (cI, 48, .inl mk)), (m2, .inl (cI, 48, .inl wg))]) rfl rfl ?_
            exact hR ((-2)) mk (by trivial) 57 _ dX8_bridge_57
      · obtain ⟨rfl, f0_23, -⟩ := p_23
        show J X 4 0 0 26 [(0, .ref z0), (1, .int p0), (2, .int (nI j_12)), (3, .int p2)] [.int (nI 0)] [(a0, .inr (0, [.ref a1, .ref a2, .int (nI co), .int (nI ro), .int sl])), (a1, .inl (cI, 48, .inl th)), (a2, .inl (cI, 48, .inl ow)), (z0, .inr (8, [.ref g0, .ref a0, .ref f0, .ref s0, .ref k0, .ref v0, .ref d0, .ref y0, .ref m0, .ref o0])), (m0, .inr (1, [.ref m1, .ref m2, .int wn])), (m1, .inl (cI, 48, .inl mk)), (m2, .inl (cI, 48, .inl wg))]
        refine J_if_ne h 31 dX8_bridge_26 (by decide) (fun z => absurd z (by decide)) (fun _ => ?_)
        refine J_iconst h (v := (-1)) dX8_bridge_29 (by decide) ?_
        refine J.wld [3, 0, 1, 2, 4, 5, 6] (ws' := [(z0, .inr (8, [.ref g0, .ref a0, .ref f0, .ref s0, .ref k0, .ref v0, .ref d0, .ref y0, .ref m0, .ref o0])), (a0, .inr (0, [.ref a1, .ref a2, .int (nI co), .int (nI ro), .int sl])), (a1, .inl (cI, 48, .inl th)), (a2, .inl (cI, 48, .inl ow)), (m0, .inr (1, [.ref m1, .ref m2, .int wn])), (m1, .inl (cI, 48, .inl mk)), (m2, .inl (cI, 48, .inl wg))]) rfl rfl ?_
        exact hR ((-1)) mk (by trivial) 30 _ dX8_bridge_30
    · obtain ⟨rfl, f0_12, -⟩ := p_12
      show J X 4 0 0 15 [(0, .ref z0), (1, .int p0), (2, .int p1), (3, .int p2)] [.int (nI 0)] [(a0, .inr (0, [.ref a1, .ref a2, .int (nI co), .int (nI ro), .int sl])), (a1, .inl (cI, 48, .inl th)), (a2, .inl (cI, 48, .inl ow)), (z0, .inr (8, [.ref g0, .ref a0, .ref f0, .ref s0, .ref k0, .ref v0, .ref d0, .ref y0, .ref m0, .ref o0])), (m0, .inr (1, [.ref m1, .ref m2, .int wn])), (m1, .inl (cI, 48, .inl mk)), (m2, .inl (cI, 48, .inl wg))]
      refine J_if_eq h 29 dX8_bridge_15 (by decide) (fun _ => ?_) (fun z => absurd z (by decide))
      refine J_iconst h (v := (-1)) dX8_bridge_29 (by decide) ?_
      refine J.wld [3, 0, 1, 2, 4, 5, 6] (ws' := [(z0, .inr (8, [.ref g0, .ref a0, .ref f0, .ref s0, .ref k0, .ref v0, .ref d0, .ref y0, .ref m0, .ref o0])), (a0, .inr (0, [.ref a1, .ref a2, .int (nI co), .int (nI ro), .int sl])), (a1, .inl (cI, 48, .inl th)), (a2, .inl (cI, 48, .inl ow)), (m0, .inr (1, [.ref m1, .ref m2, .int wn])), (m1, .inl (cI, 48, .inl mk)), (m2, .inl (cI, 48, .inl wg))]) rfl rfl ?_
      exact hR ((-1)) mk (by trivial) 30 _ dX8_bridge_30
  · obtain ⟨rfl, f0_1, -⟩ := p_1
    show J X 4 0 0 4 [(0, .ref z0), (1, .int p0), (2, .int p1), (3, .int p2)] [.int (nI 0)] [(z0, .inr (8, [.ref g0, .ref a0, .ref f0, .ref s0, .ref k0, .ref v0, .ref d0, .ref y0, .ref m0, .ref o0])), (a0, .inr (0, [.ref a1, .ref a2, .int (nI co), .int (nI ro), .int sl])), (a1, .inl (cI, 48, .inl th)), (a2, .inl (cI, 48, .inl ow)), (m0, .inr (1, [.ref m1, .ref m2, .int wn])), (m1, .inl (cI, 48, .inl mk)), (m2, .inl (cI, 48, .inl wg))]
    refine J_if_eq h 29 dX8_bridge_4 (by decide) (fun _ => ?_) (fun z => absurd z (by decide))
    refine J_iconst h (v := (-1)) dX8_bridge_29 (by decide) ?_
    exact hR ((-1)) mk (by trivial) 30 _ dX8_bridge_30
theorem c_X8_bridge (l : Launch) (D : va_G) (cI cE : ClassId) (z0 : Nat) (g0 : Nat) (a0 : Nat) (f0 : Nat) (s0 : Nat) (k0 : Nat) (v0 : Nat) (d0 : Nat) (y0 : Nat) (m0 : Nat) (o0 : Nat) (a1 : Nat) (a2 : Nat) (th : Nat → Int32) (ow : Nat → Int32) (co : Nat) (ro : Nat) (sl : Int32) (m1 : Nat) (m2 : Nat) (mk : Nat → Int32) (wg : Nat → Int32) (wn : Int32) (p0 : Int32) (p1 : Int32) (p2 : Int32) (hrc : ro * co ≤ 48) (hco : co ≤ 6) (hro : ro ≤ 8) : Ci l D cI cE yX8_bridge cX8_bridge 4 (some .int) 4 0 0 [.ref z0, .int p0, .int p1, .int p2] [(z0, .inr (8, [.ref g0, .ref a0, .ref f0, .ref s0, .ref k0, .ref v0, .ref d0, .ref y0, .ref m0, .ref o0])), (a0, .inr (0, [.ref a1, .ref a2, .int (nI co), .int (nI ro), .int sl])), (a1, .inl (cI, 48, .inl th)), (a2, .inl (cI, 48, .inl ow)), (m0, .inr (1, [.ref m1, .ref m2, .int wn])), (m1, .inl (cI, 48, .inl mk)), (m2, .inl (cI, 48, .inl wg))] (fun (r : Int32) (u : (Nat → Int32)) => ((True))) (fun (u : (Nat → Int32)) => ([(z0, .inr (8, [.ref g0, .ref a0, .ref f0, .ref s0, .ref k0, .ref v0, .ref d0, .ref y0, .ref m0, .ref o0])), (a0, .inr (0, [.ref a1, .ref a2, .int (nI co), .int (nI ro), .int sl])), (a1, .inl (cI, 48, .inl th)), (a2, .inl (cI, 48, .inl ow)), (m0, .inr (1, [.ref m1, .ref m2, .int wn])), (m1, .inl (cI, 48, .inl u)), (m2, .inl (cI, 48, .inl wg))] : va_W)) :=
  Ci.of (by decide) (Nat.le_of_ble_eq_true rfl) (fun _ _ _ => rfl) (fun X h hR => w_X8_bridge X h z0 g0 a0 f0 s0 k0 v0 d0 y0 m0 o0 a1 a2 th ow co ro sl m1 m2 mk wg wn p0 p1 p2 hrc hco hro hR)
theorem yv_X8_bridge : YV yX8_bridge cX8_bridge 4 (some .int) 3 := ⟨no_X8_bridge, nv_X8_bridge, ni_X8, nk_X8_bridge, by decide +kernel⟩
