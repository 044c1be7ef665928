set_option maxRecDepth 100000 in
set_option maxHeartbeats 4000000 in
theorem w_X8_cell (X : Cx) {cI cE : ClassId} (h : Ok X cX8_cell RX8 3 cI cE 2 0 0) (z0 : Nat) (g0 : Nat) (a0 : Nat) (f0 : Nat) (s0 : Nat) (k0 : Nat) (v0 : Nat) (d0 : Nat) (y0 : Nat) (m0 : Nat) (o0 : Nat) (a1 : Nat) (a2 : Nat) (th : Nat → Int32) (ow : Nat → Int32) (co : Nat) (ro : Nat) (sl : Int32) (p0 : Int32) (p1 : Int32) (hrc : ro * co ≤ 48) (hco : co ≤ 6) (hro : ro ≤ 8) (hR : ∀ (r : Int32) (u : Unit), ((fCell th ow (ro * co) p0 p1 = r) ∧ (True)) → RetI X cX8_cell 3 0 0 r [(z0, .inr (8, [.ref g0, .ref a0, .ref f0, .ref s0, .ref k0, .ref v0, .ref d0, .ref y0, .ref m0, .ref o0])), (a0, .inr (0, [.ref a1, .ref a2, .int (nI co), .int (nI ro), .int sl])), (a1, .inl (cI, 48, .inl th)), (a2, .inl (cI, 48, .inl ow))]) : J X 3 0 0 0 [(0, .ref z0), (1, .int p0), (2, .int p1)] [] [(z0, .inr (8, [.ref g0, .ref a0, .ref f0, .ref s0, .ref k0, .ref v0, .ref d0, .ref y0, .ref m0, .ref o0])), (a0, .inr (0, [.ref a1, .ref a2, .int (nI co), .int (nI ro), .int sl])), (a1, .inl (cI, 48, .inl th)), (a2, .inl (cI, 48, .inl ow))] := by
  refine J_aload_n h (i := 0) dX8_cell_0 rfl 0 rfl ?_
  refine J_get h inX8 rfl 0 1 (by decide) rfl rfl nf_X8_19 dX8_cell_1 ?_
  refine J_iload_n h (i := 1) dX8_cell_4 rfl 1 rfl ?_
  refine J.wld [1, 2, 3, 0] (ws' := [(a0, .inr (0, [.ref a1, .ref a2, .int (nI co), .int (nI ro), .int sl])), (a1, .inl (cI, 48, .inl th)), (a2, .inl (cI, 48, .inl ow)), (z0, .inr (8, [.ref g0, .ref a0, .ref f0, .ref s0, .ref k0, .ref v0, .ref d0, .ref y0, .ref m0, .ref o0]))]) rfl rfl ?_
  refine K_vi h (wr := [(z0, .inr (8, [.ref g0, .ref a0, .ref f0, .ref s0, .ref k0, .ref v0, .ref d0, .ref y0, .ref m0, .ref o0]))]) (c_X0_hasCell (xl X) (xD X) cI cE a0 a1 a2 th ow co ro sl p0 (by first | exact hrc |  assumption | omega | rfl)) yv_X0_hasCell nm_X8_114 (by decide) (by decide) rfl rfl 0 rfl rfl rfl rfl (Nat.le_of_ble_eq_true rfl) (Nat.le_refl _) (Nat.le_refl _) dX8_cell_5 (fun r_5 u_5 p_5 => ?_)
  rcases p_5 with p_5 | p_5
  · obtain ⟨j_5, rfl, f0_5, rfl, -⟩ := p_5
    show J X 3 0 0 8 [(0, .ref z0), (1, .int (nI j_5)), (2, .int p1)] [.int (nI 1)] [(a0, .inr (0, [.ref a1, .ref a2, .int (nI co), .int (nI ro), .int sl])), (a1, .inl (cI, 48, .inl th)), (a2, .inl (cI, 48, .inl ow)), (z0, .inr (8, [.ref g0, .ref a0, .ref f0, .ref s0, .ref k0, .ref v0, .ref d0, .ref y0, .ref m0, .ref o0]))]
    refine J_if_eq h 18 dX8_cell_8 (by decide) (fun z => absurd z (by decide)) (fun _ => ?_)
    refine J_iload_n h (i := 2) dX8_cell_11 rfl 2 rfl ?_
    refine K_si h (wr := [(a0, .inr (0, [.ref a1, .ref a2, .int (nI co), .int (nI ro), .int sl])), (a1, .inl (cI, 48, .inl th)), (a2, .inl (cI, 48, .inl ow)), (z0, .inr (8, [.ref g0, .ref a0, .ref f0, .ref s0, .ref k0, .ref v0, .ref d0, .ref y0, .ref m0, .ref o0]))]) (c_X8_isFlag (xl X) (xD X) cI cE p1 ) yv_X8_isFlag nm_X8_117 (by decide) (by decide) rfl rfl rfl (Nat.le_of_ble_eq_true rfl) (Nat.le_refl _) (Nat.le_refl _) dX8_cell_12 (fun r_12 u_12 p_12 => ?_)
    rcases p_12 with p_12 | p_12
    · obtain ⟨rfl, f0_12, -⟩ := p_12
      show J X 3 0 0 15 [(0, .ref z0), (1, .int (nI j_5)), (2, .int p1)] [.int (nI 1)] [(a0, .inr (0, [.ref a1, .ref a2, .int (nI co), .int (nI ro), .int sl])), (a1, .inl (cI, 48, .inl th)), (a2, .inl (cI, 48, .inl ow)), (z0, .inr (8, [.ref g0, .ref a0, .ref f0, .ref s0, .ref k0, .ref v0, .ref d0, .ref y0, .ref m0, .ref o0]))]
      refine J_if_ne h 20 dX8_cell_15 (by decide) (fun _ => ?_) (fun z => absurd z (by decide))
      refine J_iload_n h (i := 2) dX8_cell_20 rfl 2 rfl ?_
      refine T_if_ne h (A := (p1).toInt) 35 dX8_cell_21 (by decide) (rfl) (fun c_21 => ?_) (fun c_21 => ?_)
      · skip
        refine J_aload_n h (i := 0) dX8_cell_35 rfl 0 rfl ?_
        refine J_get h inX8 rfl 3 1 (by decide) rfl rfl nf_X8_19 dX8_cell_36 ?_
        refine J_iload_n h (i := 1) dX8_cell_39 rfl 1 rfl ?_
        refine K_vi h (wr := [(z0, .inr (8, [.ref g0, .ref a0, .ref f0, .ref s0, .ref k0, .ref v0, .ref d0, .ref y0, .ref m0, .ref o0]))]) (c_X0_ownerOf (xl X) (xD X) cI cE a0 a1 a2 th ow co ro sl j_5 (by first | exact hrc |  assumption | omega | rfl) (by first | assumption | omega | rfl)) yv_X0_ownerOf nm_X8_124 (by decide) (by decide) rfl rfl 0 rfl rfl rfl rfl (Nat.le_of_ble_eq_true rfl) (Nat.le_refl _) (Nat.le_refl _) dX8_cell_40 (fun r_40 u_40 p_40 => ?_)
        obtain ⟨rfl, -⟩ := p_40
        show J X 3 0 0 43 [(0, .ref z0), (1, .int (nI j_5)), (2, .int p1)] [.int (ow j_5)] [(a0, .inr (0, [.ref a1, .ref a2, .int (nI co), .int (nI ro), .int sl])), (a1, .inl (cI, 48, .inl th)), (a2, .inl (cI, 48, .inl ow)), (z0, .inr (8, [.ref g0, .ref a0, .ref f0, .ref s0, .ref k0, .ref v0, .ref d0, .ref y0, .ref m0, .ref o0]))]
        refine K_si h (wr := [(a0, .inr (0, [.ref a1, .ref a2, .int (nI co), .int (nI ro), .int sl])), (a1, .inl (cI, 48, .inl th)), (a2, .inl (cI, 48, .inl ow)), (z0, .inr (8, [.ref g0, .ref a0, .ref f0, .ref s0, .ref k0, .ref v0, .ref d0, .ref y0, .ref m0, .ref o0]))]) (c_X8_sideOrNone (xl X) (xD X) cI cE (ow j_5) ) yv_X8_sideOrNone nm_X8_127 (by decide) (by decide) rfl rfl rfl (Nat.le_of_ble_eq_true rfl) (Nat.le_refl _) (Nat.le_refl _) dX8_cell_43 (fun r_43 u_43 p_43 => ?_)
        obtain ⟨rfl, -⟩ := p_43
        show J X 3 0 0 46 [(0, .ref z0), (1, .int (nI j_5)), (2, .int p1)] [.int (sON (ow j_5))] [(a0, .inr (0, [.ref a1, .ref a2, .int (nI co), .int (nI ro), .int sl])), (a1, .inl (cI, 48, .inl th)), (a2, .inl (cI, 48, .inl ow)), (z0, .inr (8, [.ref g0, .ref a0, .ref f0, .ref s0, .ref k0, .ref v0, .ref d0, .ref y0, .ref m0, .ref o0]))]
        refine J.wld [3, 0, 1, 2] (ws' := [(z0, .inr (8, [.ref g0, .ref a0, .ref f0, .ref s0, .ref k0, .ref v0, .ref d0, .ref y0, .ref m0, .ref o0])), (a0, .inr (0, [.ref a1, .ref a2, .int (nI co), .int (nI ro), .int sl])), (a1, .inl (cI, 48, .inl th)), (a2, .inl (cI, 48, .inl ow))]) rfl rfl ?_
        exact hR (sON (ow j_5)) () (⟨(by unfold fCell; rw [if_pos ⟨cellI (by omega) (by omega), by omega⟩]; rw [tnI (by omega)]; first | (rw [if_pos (by omega)]; done) | (rw [if_neg (by omega)]; done)), trivial⟩) 46 _ dX8_cell_46
      · skip
        refine J_aload_n h (i := 0) dX8_cell_24 rfl 0 rfl ?_
        refine J_get h inX8 rfl 3 1 (by decide) rfl rfl nf_X8_19 dX8_cell_25 ?_
        refine J_iload_n h (i := 1) dX8_cell_28 rfl 1 rfl ?_
        refine K_vi h (wr := [(z0, .inr (8, [.ref g0, .ref a0, .ref f0, .ref s0, .ref k0, .ref v0, .ref d0, .ref y0, .ref m0, .ref o0]))]) (c_X0_thingOn (xl X) (xD X) cI cE a0 a1 a2 th ow co ro sl j_5 (by first | exact hrc |  assumption | omega | rfl) (by first | assumption | omega | rfl)) yv_X0_thingOn nm_X8_120 (by decide) (by decide) rfl rfl 0 rfl rfl rfl rfl (Nat.le_of_ble_eq_true rfl) (Nat.le_refl _) (Nat.le_refl _) dX8_cell_29 (fun r_29 u_29 p_29 => ?_)
        obtain ⟨rfl, -⟩ := p_29
        show J X 3 0 0 32 [(0, .ref z0), (1, .int (nI j_5)), (2, .int p1)] [.int (th j_5)] [(a0, .inr (0, [.ref a1, .ref a2, .int (nI co), .int (nI ro), .int sl])), (a1, .inl (cI, 48, .inl th)), (a2, .inl (cI, 48, .inl ow)), (z0, .inr (8, [.ref g0, .ref a0, .ref f0, .ref s0, .ref k0, .ref v0, .ref d0, .ref y0, .ref m0, .ref o0]))]
        refine J_goto h 46 dX8_cell_32 (by decide) ?_
        refine J.wld [3, 0, 1, 2] (ws' := [(z0, .inr (8, [.ref g0, .ref a0, .ref f0, .ref s0, .ref k0, .ref v0, .ref d0, .ref y0, .ref m0, .ref o0])), (a0, .inr (0, [.ref a1, .ref a2, .int (nI co), .int (nI ro), .int sl])), (a1, .inl (cI, 48, .inl th)), (a2, .inl (cI, 48, .inl ow))]) rfl rfl ?_
        exact hR (th j_5) () (⟨(by unfold fCell; rw [if_pos ⟨cellI (by omega) (by omega), by omega⟩]; rw [tnI (by omega)]; first | (rw [if_pos (by omega)]; done) | (rw [if_neg (by omega)]; done)), trivial⟩) 46 _ dX8_cell_46
    · obtain ⟨rfl, f0_12, -⟩ := p_12
      show J X 3 0 0 15 [(0, .ref z0), (1, .int (nI j_5)), (2, .int p1)] [.int (nI 0)] [(a0, .inr (0, [.ref a1, .ref a2, .int (nI co), .int (nI ro), .int sl])), (a1, .inl (cI, 48, .inl th)), (a2, .inl (cI, 48, .inl ow)), (z0, .inr (8, [.ref g0, .ref a0, .ref f0, .ref s0, .ref k0, .ref v0, .ref d0, .ref y0, .ref m0, .ref o0]))]
      refine J_if_ne h 20 dX8_cell_15 (by decide) (fun z => absurd z (by decide)) (fun _ => ?_)
      refine J_iconst h (v := (-1)) dX8_cell_18 (by decide) ?_
      refine J.wld [3, 0, 1, 2] (ws' := [(z0, .inr (8, [.ref g0, .ref a0, .ref f0, .ref s0, .ref k0, .ref v0, .ref d0, .ref y0, .ref m0, .ref o0])), (a0, .inr (0, [.ref a1, .ref a2, .int (nI co), .int (nI ro), .int sl])), (a1, .inl (cI, 48, .inl th)), (a2, .inl (cI, 48, .inl ow))]) rfl rfl ?_
      exact hR ((-1)) () (⟨(by unfold fCell; rw [if_neg (by omega)]), trivial⟩) 19 _ dX8_cell_19
  · obtain ⟨rfl, f0_5, -⟩ := p_5
    show J X 3 0 0 8 [(0, .ref z0), (1, .int p0), (2, .int p1)] [.int (nI 0)] [(a0, .inr (0, [.ref a1, .ref a2, .int (nI co), .int (nI ro), .int sl])), (a1, .inl (cI, 48, .inl th)), (a2, .inl (cI, 48, .inl ow)), (z0, .inr (8, [.ref g0, .ref a0, .ref f0, .ref s0, .ref k0, .ref v0, .ref d0, .ref y0, .ref m0, .ref o0]))]
    refine J_if_eq h 18 dX8_cell_8 (by decide) (fun _ => ?_) (fun z => absurd z (by decide))
    refine J_iconst h (v := (-1)) dX8_cell_18 (by decide) ?_
    refine J.wld [3, 0, 1, 2] (ws' := [(z0, .inr (8, [.ref g0, .ref a0, .ref f0, .ref s0, .ref k0, .ref v0, .ref d0, .ref y0, .ref m0, .ref o0])), (a0, .inr (0, [.ref a1, .ref a2, .int (nI co), .int (nI ro), .int sl])), (a1, .inl (cI, 48, .inl th)), (a2, .inl (cI, 48, .inl ow))]) rfl rfl ?_
    exact hR ((-1)) () (⟨(by unfold fCell; rw [if_neg (by omega)]), trivial⟩) 19 _ dX8_cell_19
theorem c_X8_cell (l : Launch) (D : va_G) (cI cE : ClassId) (z0 : Nat) (g0 : Nat) (a0 : Nat) (f0 : Nat) (s0 : Nat) (k0 : Nat) (v0 : Nat) (d0 : Nat) (y0 : Nat) (m0 : Nat) (o0 : Nat) (a1 : Nat) (a2 : Nat) (th : Nat → Int32) (ow : Nat → Int32) (co : Nat) (ro : Nat) (sl : Int32) (p0 : Int32) (p1 : Int32) (hrc : ro * co ≤ 48) (hco : co ≤ 6) (hro : ro ≤ 8) : Ci l D cI cE yX8_cell cX8_cell 3 (some .int) 2 0 0 [.ref z0, .int p0, .int p1] [(z0, .inr (8, [.ref g0, .ref a0, .ref f0, .ref s0, .ref k0, .ref v0, .ref d0, .ref y0, .ref m0, .ref o0])), (a0, .inr (0, [.ref a1, .ref a2, .int (nI co), .int (nI ro), .int sl])), (a1, .inl (cI, 48, .inl th)), (a2, .inl (cI, 48, .inl ow))] (fun (r : Int32) (u : Unit) => ((fCell th ow (ro * co) p0 p1 = r) ∧ (True))) (fun (u : Unit) => ([(z0, .inr (8, [.ref g0, .ref a0, .ref f0, .ref s0, .ref k0, .ref v0, .ref d0, .ref y0, .ref m0, .ref o0])), (a0, .inr (0, [.ref a1, .ref a2, .int (nI co), .int (nI ro), .int sl])), (a1, .inl (cI, 48, .inl th)), (a2, .inl (cI, 48, .inl ow))] : va_W)) :=
  Ci.of (by decide) (Nat.le_of_ble_eq_true rfl) (fun _ _ _ => rfl) (fun X h hR => w_X8_cell X h z0 g0 a0 f0 s0 k0 v0 d0 y0 m0 o0 a1 a2 th ow co ro sl p0 p1 hrc hco hro hR)
theorem yv_X8_cell : YV yX8_cell cX8_cell 3 (some .int) 2 := ⟨no_X8_cell, nv_X8_cell, ni_X8, nk_X8_cell, by decide +kernel⟩
