set_option maxRecDepth 100000 in
set_option maxHeartbeats 4000000 in
theorem w_X8_wipe (X : Cx) {cI cE : ClassId} (h : Ok X cX8_wipe RX8 2 cI cE 1 0 0) (z0 : Nat) (g0 : Nat) (a0 : Nat) (f0 : Nat) (s0 : Nat) (k0 : Nat) (v0 : Nat) (d0 : Nat) (y0 : Nat) (m0 : Nat) (o0 : Nat) (g1 : Nat) (lx : Nat → Nat) (tn : Nat)  (hR : ∀ (r : Int32) (u : Unit), ((nI tn = r) ∧ (True)) → RetI X cX8_wipe 2 0 0 r [(z0, .inr (8, [.ref g0, .ref a0, .ref f0, .ref s0, .ref k0, .ref v0, .ref d0, .ref y0, .ref m0, .ref o0])), (g0, .inr (7, [.ref g1, .int (nI 0)])), (g1, .inl (cI, 200, .inl (nA lx)))]) : J X 2 0 0 0 [(0, .ref z0)] [] [(z0, .inr (8, [.ref g0, .ref a0, .ref f0, .ref s0, .ref k0, .ref v0, .ref d0, .ref y0, .ref m0, .ref o0])), (g0, .inr (7, [.ref g1, .int (nI tn)])), (g1, .inl (cI, 200, .inl (nA lx)))] := by
  refine J_aload_n h (i := 0) dX8_wipe_0 rfl 0 rfl ?_
  refine J_get h inX8 rfl 0 0 (by decide) rfl rfl nf_X8_12 dX8_wipe_1 ?_
  refine J_get h inX7 rfl 1 1 (by decide) rfl rfl nf_X8_100 dX8_wipe_4 ?_
  refine J_istore_n h (i := 1) (lv' := [(1, .int (nI tn)), (0, .ref z0)]) dX8_wipe_7 rfl (by decide) rfl ?_
  refine J_aload_n h (i := 0) dX8_wipe_8 rfl 1 rfl ?_
  refine J_get h inX8 rfl 0 0 (by decide) rfl rfl nf_X8_12 dX8_wipe_9 ?_
  refine J.wld [1, 2, 0] (ws' := [(g0, .inr (7, [.ref g1, .int (nI tn)])), (g1, .inl (cI, 200, .inl (nA lx))), (z0, .inr (8, [.ref g0, .ref a0, .ref f0, .ref s0, .ref k0, .ref v0, .ref d0, .ref y0, .ref m0, .ref o0]))]) rfl rfl ?_
  refine K_vv h (wr := [(z0, .inr (8, [.ref g0, .ref a0, .ref f0, .ref s0, .ref k0, .ref v0, .ref d0, .ref y0, .ref m0, .ref o0]))]) (c_X7_clear (xl X) (xD X) cI cE g0 g1 lx tn ) yv_X7_clear nm_X8_97 (by decide) (by decide) rfl rfl 0 rfl rfl rfl rfl (Nat.le_of_ble_eq_true rfl) (Nat.le_refl _) (Nat.le_refl _) dX8_wipe_12 (fun u_12 p_12 => ?_)
  show J X 2 0 0 15 [(1, .int (nI tn)), (0, .ref z0)] [] [(g0, .inr (7, [.ref g1, .int (nI 0)])), (g1, .inl (cI, 200, .inl (nA lx))), (z0, .inr (8, [.ref g0, .ref a0, .ref f0, .ref s0, .ref k0, .ref v0, .ref d0, .ref y0, .ref m0, .ref o0]))]
  refine J_iload_n h (i := 1) dX8_wipe_15 rfl 0 rfl ?_
  refine J.wld [2, 0, 1] (ws' := [(z0, .inr (8, [.ref g0, .ref a0, .ref f0, .ref s0, .ref k0, .ref v0, .ref d0, .ref y0, .ref m0, .ref o0])), (g0, .inr (7, [.ref g1, .int (nI 0)])), (g1, .inl (cI, 200, .inl (nA lx)))]) rfl rfl ?_
  exact hR (nI tn) () (⟨rfl, trivial⟩) 16 _ dX8_wipe_16
theorem c_X8_wipe (l : Launch) (D : va_G) (cI cE : ClassId) (z0 : Nat) (g0 : Nat) (a0 : Nat) (f0 : Nat) (s0 : Nat) (k0 : Nat) (v0 : Nat) (d0 : Nat) (y0 : Nat) (m0 : Nat) (o0 : Nat) (g1 : Nat) (lx : Nat → Nat) (tn : Nat)  : Ci l D cI cE yX8_wipe cX8_wipe 2 (some .int) 1 0 0 [.ref z0] [(z0, .inr (8, [.ref g0, .ref a0, .ref f0, .ref s0, .ref k0, .ref v0, .ref d0, .ref y0, .ref m0, .ref o0])), (g0, .inr (7, [.ref g1, .int (nI tn)])), (g1, .inl (cI, 200, .inl (nA lx)))] (fun (r : Int32) (u : Unit) => ((nI tn = r) ∧ (True))) (fun (u : Unit) => ([(z0, .inr (8, [.ref g0, .ref a0, .ref f0, .ref s0, .ref k0, .ref v0, .ref d0, .ref y0, .ref m0, .ref o0])), (g0, .inr (7, [.ref g1, .int (nI 0)])), (g1, .inl (cI, 200, .inl (nA lx)))] : va_W)) :=
  Ci.of (by decide) (Nat.le_of_ble_eq_true rfl) (fun _ _ _ => rfl) (fun X h hR => w_X8_wipe X h z0 g0 a0 f0 s0 k0 v0 d0 y0 m0 o0 g1 lx tn hR)
theorem yv_X8_wipe : YV yX8_wipe cX8_wipe 2 (some .int) 0 := ⟨no_X8_wipe, nv_X8_wipe, ni_X8, nk_X8_wipe, by decide +kernel⟩
