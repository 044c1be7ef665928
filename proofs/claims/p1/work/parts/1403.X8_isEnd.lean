set_option maxRecDepth 100000 in
set_option maxHeartbeats 4000000 in
theorem w_X8_isEnd (X : Cx) {cI cE : ClassId} (h : Ok X cX8_isEnd RX8 2 cI cE 1 0 0) (z0 : Nat) (g0 : Nat) (a0 : Nat) (f0 : Nat) (s0 : Nat) (k0 : Nat) (v0 : Nat) (d0 : Nat) (y0 : Nat) (m0 : Nat) (o0 : Nat) (a1 : Nat) (a2 : Nat) (th : Nat → Int32) (ow : Nat → Int32) (co : Nat) (ro : Nat) (sl : Int32) (p0 : Int32) (hrc : ro * co ≤ 48) (hR : ∀ (r : Int32) (u : Unit), (∃ (jc : Nat), (nI 1 = r) ∧ (jc = 99 ∨ jc < ro * co) ∧ (vEnd (ro * co) p0) ∧ (p0 = nI jc) ∧ (True)) ∨ ((nI 0 = r) ∧ (¬ vEnd (ro * co) p0) ∧ (True)) → RetI X cX8_isEnd 2 0 0 r [(z0, .inr (8, [.ref g0, .ref a0, .ref f0, .ref s0, .ref k0, .ref v0, .ref d0, .ref y0, .ref m0, .ref o0])), (a0, .inr (0, [.ref a1, .ref a2, .int (nI co), .int (nI ro), .int sl])), (a1, .inl (cI, 48, .inl th)), (a2, .inl (cI, 48, .inl ow))]) : J X 2 0 0 0 [(0, .ref z0), (1, .int p0)] [] [(z0, .inr (8, [.ref g0, .ref a0, .ref f0, .ref s0, .ref k0, .ref v0, .ref d0, .ref y0, .ref m0, .ref o0])), (a0, .inr (0, [.ref a1, .ref a2, .int (nI co), .int (nI ro), .int sl])), (a1, .inl (cI, 48, .inl th)), (a2, .inl (cI, 48, .inl ow))] := by
  refine J_iload_n h (i := 1) dX8_isEnd_0 rfl 1 rfl ?_
  refine J_bipush h (v := nI 99) dX8_isEnd_1 (by decide) ?_
  refine T_icmp_eq h (A := (p0).toInt) (B := 99) 17 dX8_isEnd_3 (by decide) (rfl) (nI_toInt (by omega)) (fun c_3 => ?_) (fun c_3 => ?_)
  · skip
    refine J_iconst h (v := nI 1) dX8_isEnd_17 (by decide) ?_
    refine J_goto h 22 dX8_isEnd_18 (by decide) ?_
    exact hR (nI 1) () (by first | (obtain ⟨jc, hc1, rfl⟩ := toNI (x := p0) (n := 100) (by omega) (by omega); have hc2 := tiI (j := jc) (by omega); exact Or.inl ⟨jc, rfl, by omega, by omega, rfl, trivial⟩) | exact Or.inr ⟨rfl, by omega, trivial⟩) 22 _ dX8_isEnd_22
  · skip
    refine J_aload_n h (i := 0) dX8_isEnd_6 rfl 0 rfl ?_
    refine J_get h inX8 rfl 0 1 (by decide) rfl rfl nf_X8_19 dX8_isEnd_7 ?_
    refine J_iload_n h (i := 1) dX8_isEnd_10 rfl 1 rfl ?_
    refine J.wld [1, 2, 3, 0] (ws' := [(a0, .inr (0, [.ref a1, .ref a2, .int (nI co), .int (nI ro), .int sl])), (a1, .inl (cI, 48, .inl th)), (a2, .inl (cI, 48, .inl ow)), (z0, .inr (8, [.ref g0, .ref a0, .ref f0, .ref s0, .ref k0, .ref v0, .ref d0, .ref y0, .ref m0, .ref o0]))]) rfl rfl ?_
    refine K_vi h (wr := [(z0, .inr (8, [.ref g0, .ref a0, .ref f0, .ref s0, .ref k0, .ref v0, .ref d0, .ref y0, .ref m0, .ref o0]))]) (c_X0_hasCellT (xl X) (xD X) cI cE a0 a1 a2 th ow co ro sl p0 ((p0).toInt) (by first | exact hrc |  assumption | omega | rfl) (by exact rfl)) yv_X0_hasCell nm_X8_114 (by decide) (by decide) rfl rfl 0 rfl rfl rfl rfl (Nat.le_of_ble_eq_true rfl) (Nat.le_refl _) (Nat.le_refl _) dX8_isEnd_11 (fun r_11 u_11 p_11 => ?_)
    rcases p_11 with p_11 | p_11
    · obtain ⟨rfl, f0_11, f1_11, -⟩ := p_11
      show J X 2 0 0 14 [(0, .ref z0), (1, .int p0)] [.int (nI 1)] [(a0, .inr (0, [.ref a1, .ref a2, .int (nI co), .int (nI ro), .int sl])), (a1, .inl (cI, 48, .inl th)), (a2, .inl (cI, 48, .inl ow)), (z0, .inr (8, [.ref g0, .ref a0, .ref f0, .ref s0, .ref k0, .ref v0, .ref d0, .ref y0, .ref m0, .ref o0]))]
      refine J_if_eq h 21 dX8_isEnd_14 (by decide) (fun z => absurd z (by decide)) (fun _ => ?_)
      refine J_iconst h (v := nI 1) dX8_isEnd_17 (by decide) ?_
      refine J_goto h 22 dX8_isEnd_18 (by decide) ?_
      refine J.wld [3, 0, 1, 2] (ws' := [(z0, .inr (8, [.ref g0, .ref a0, .ref f0, .ref s0, .ref k0, .ref v0, .ref d0, .ref y0, .ref m0, .ref o0])), (a0, .inr (0, [.ref a1, .ref a2, .int (nI co), .int (nI ro), .int sl])), (a1, .inl (cI, 48, .inl th)), (a2, .inl (cI, 48, .inl ow))]) rfl rfl ?_
      exact hR (nI 1) () (by first | (obtain ⟨jc, hc1, rfl⟩ := toNI (x := p0) (n := 100) (by omega) (by omega); have hc2 := tiI (j := jc) (by omega); exact Or.inl ⟨jc, rfl, by omega, by omega, rfl, trivial⟩) | exact Or.inr ⟨rfl, by omega, trivial⟩) 22 _ dX8_isEnd_22
    · obtain ⟨rfl, f0_11, -⟩ := p_11
      show J X 2 0 0 14 [(0, .ref z0), (1, .int p0)] [.int (nI 0)] [(a0, .inr (0, [.ref a1, .ref a2, .int (nI co), .int (nI ro), .int sl])), (a1, .inl (cI, 48, .inl th)), (a2, .inl (cI, 48, .inl ow)), (z0, .inr (8, [.ref g0, .ref a0, .ref f0, .ref s0, .ref k0, .ref v0, .ref d0, .ref y0, .ref m0, .ref o0]))]
      refine J_if_eq h 21 dX8_isEnd_14 (by decide) (fun _ => ?_) (fun z => absurd z (by decide))
      refine J_iconst h (v := nI 0) dX8_isEnd_21 (by decide) ?_
      refine J.wld [3, 0, 1, 2] (ws' := [(z0, .inr (8, [.ref g0, .ref a0, .ref f0, .ref s0, .ref k0, .ref v0, .ref d0, .ref y0, .ref m0, .ref o0])), (a0, .inr (0, [.ref a1, .ref a2, .int (nI co), .int (nI ro), .int sl])), (a1, .inl (cI, 48, .inl th)), (a2, .inl (cI, 48, .inl ow))]) rfl rfl ?_
      exact hR (nI 0) () (by first | (obtain ⟨jc, hc1, rfl⟩ := toNI (x := p0) (n := 100) (by omega) (by omega); have hc2 := tiI (j := jc) (by omega); exact Or.inl ⟨jc, rfl, by omega, by omega, rfl, trivial⟩) | exact Or.inr ⟨rfl, by omega, trivial⟩) 22 _ dX8_isEnd_22
theorem c_X8_isEnd (l : Launch) (D : va_G) (cI cE : ClassId) (z0 : Nat) (g0 : Nat) (a0 : Nat) (f0 : Nat) (s0 : Nat) (k0 : Nat) (v0 : Nat) (d0 : Nat) (y0 : Nat) (m0 : Nat) (o0 : Nat) (a1 : Nat) (a2 : Nat) (th : Nat → Int32) (ow : Nat → Int32) (co : Nat) (ro : Nat) (sl : Int32) (p0 : Int32) (hrc : ro * co ≤ 48) : Ci l D cI cE yX8_isEnd cX8_isEnd 2 (some .boolean) 1 0 0 [.ref z0, .int p0] [(z0, .inr (8, [.ref g0, .ref a0, .ref f0, .ref s0, .ref k0, .ref v0, .ref d0, .ref y0, .ref m0, .ref o0])), (a0, .inr (0, [.ref a1, .ref a2, .int (nI co), .int (nI ro), .int sl])), (a1, .inl (cI, 48, .inl th)), (a2, .inl (cI, 48, .inl ow))] (fun (r : Int32) (u : Unit) => (∃ (jc : Nat), (nI 1 = r) ∧ (jc = 99 ∨ jc < ro * co) ∧ (vEnd (ro * co) p0) ∧ (p0 = nI jc) ∧ (True)) ∨ ((nI 0 = r) ∧ (¬ vEnd (ro * co) p0) ∧ (True))) (fun (u : Unit) => ([(z0, .inr (8, [.ref g0, .ref a0, .ref f0, .ref s0, .ref k0, .ref v0, .ref d0, .ref y0, .ref m0, .ref o0])), (a0, .inr (0, [.ref a1, .ref a2, .int (nI co), .int (nI ro), .int sl])), (a1, .inl (cI, 48, .inl th)), (a2, .inl (cI, 48, .inl ow))] : va_W)) :=
  Ci.of (by decide) (Nat.le_of_ble_eq_true rfl) (fun r u hp => by rcases hp with ⟨_, hp, _⟩ | ⟨hp, _⟩ <;> (rw [← hp]; rfl)) (fun X h hR => w_X8_isEnd X h z0 g0 a0 f0 s0 k0 v0 d0 y0 m0 o0 a1 a2 th ow co ro sl p0 hrc hR)
theorem yv_X8_isEnd : YV yX8_isEnd cX8_isEnd 2 (some .boolean) 1 := ⟨no_X8_isEnd, nv_X8_isEnd, ni_X8, nk_X8_isEnd, by decide +kernel⟩
