set_option maxRecDepth 100000 in
set_option maxHeartbeats 4000000 in
theorem w_X8_write (X : Cx) {cI cE : ClassId} (h : Ok X cX8_write RX8 2 cI cE 1 0 0) (z0 : Nat) (g0 : Nat) (a0 : Nat) (f0 : Nat) (s0 : Nat) (k0 : Nat) (v0 : Nat) (d0 : Nat) (y0 : Nat) (m0 : Nat) (o0 : Nat) (g1 : Nat) (lx : Nat → Nat) (tn : Nat) (p0 : Int32) (hlx : ∀ j, lx j ≤ 126) (htn : tn ≤ 200) (hR : ∀ (r : Int32) (u : (Nat → Nat) × (Nat)), ((nI (tn + 1) = r) ∧ (32 ≤ p0.toInt ∧ p0.toInt ≤ 126) ∧ (tn < 200) ∧ ((va_up lx tn (ton p0)) = u.1) ∧ ((tn + 1) = u.2) ∧ (True)) ∨ (((-3) = r) ∧ (32 ≤ p0.toInt ∧ p0.toInt ≤ 126) ∧ (tn = 200) ∧ ((lx) = u.1) ∧ ((tn) = u.2) ∧ (True)) ∨ (((-1) = r) ∧ (¬ (32 ≤ p0.toInt ∧ p0.toInt ≤ 126)) ∧ ((lx) = u.1) ∧ ((tn) = u.2) ∧ (True)) → RetI X cX8_write 2 0 0 r [(z0, .inr (8, [.ref g0, .ref a0, .ref f0, .ref s0, .ref k0, .ref v0, .ref d0, .ref y0, .ref m0, .ref o0])), (g0, .inr (7, [.ref g1, .int (nI u.2)])), (g1, .inl (cI, 200, .inl (nA u.1)))]) : J X 2 0 0 0 [(0, .ref z0), (1, .int p0)] [] [(z0, .inr (8, [.ref g0, .ref a0, .ref f0, .ref s0, .ref k0, .ref v0, .ref d0, .ref y0, .ref m0, .ref o0])), (g0, .inr (7, [.ref g1, .int (nI tn)])), (g1, .inl (cI, 200, .inl (nA lx)))] := by
  refine J_iload_n h (i := 1) dX8_write_0 rfl 1 rfl ?_
  refine J_bipush h (v := nI 32) dX8_write_1 (by decide) ?_
  refine T_icmp_lt h (A := (p0).toInt) (B := 32) 12 dX8_write_3 (by decide) (rfl) (nI_toInt (by omega)) (fun c_3 => ?_) (fun c_3 => ?_)
  · skip
    refine J_iconst h (v := (-1)) dX8_write_12 (by decide) ?_
    exact hR ((-1)) (lx, tn) (by exact Or.inr (Or.inr ⟨rfl, by omega, rfl, rfl, trivial⟩)) 13 _ dX8_write_13
  · skip
    refine J_iload_n h (i := 1) dX8_write_6 rfl 1 rfl ?_
    refine J_bipush h (v := nI 126) dX8_write_7 (by decide) ?_
    refine T_icmp_le h (A := (p0).toInt) (B := 126) 14 dX8_write_9 (by decide) (rfl) (nI_toInt (by omega)) (fun c_9 => ?_) (fun c_9 => ?_)
    · skip
      obtain ⟨j, hj, rfl⟩ := toNI (x := p0) (n := 127) (by omega) (by omega)
      have htj := tiI (j := j) (by omega)
      refine J_aload_n h (i := 0) dX8_write_14 rfl 0 rfl ?_
      refine J_get h inX8 rfl 0 0 (by decide) rfl rfl nf_X8_12 dX8_write_15 ?_
      refine J_iload_n h (i := 1) dX8_write_18 rfl 1 rfl ?_
      refine J.wld [1, 2, 0] (ws' := [(g0, .inr (7, [.ref g1, .int (nI tn)])), (g1, .inl (cI, 200, .inl (nA lx))), (z0, .inr (8, [.ref g0, .ref a0, .ref f0, .ref s0, .ref k0, .ref v0, .ref d0, .ref y0, .ref m0, .ref o0]))]) rfl rfl ?_
      refine K_vi h (wr := [(z0, .inr (8, [.ref g0, .ref a0, .ref f0, .ref s0, .ref k0, .ref v0, .ref d0, .ref y0, .ref m0, .ref o0]))]) (c_X7_append (xl X) (xD X) cI cE g0 g1 lx tn j (by first | exact hlx |  assumption | omega | rfl) (by first | exact htn |  assumption | omega | rfl)) yv_X7_append nm_X8_85 (by decide) (by decide) rfl rfl 0 rfl rfl rfl rfl (Nat.le_of_ble_eq_true rfl) (Nat.le_refl _) (Nat.le_refl _) dX8_write_19 (fun r_19 u_19 p_19 => ?_)
      obtain ⟨lx2_19, tn2_19⟩ := u_19
      try dsimp only at p_19
      rcases p_19 with p_19 | p_19
      · obtain ⟨rfl, f0_19, rfl, rfl, -⟩ := p_19
        show J X 2 0 0 22 [(0, .ref z0), (1, .int (nI j))] [.int (nI 1)] [(g0, .inr (7, [.ref g1, .int (nI (tn + 1))])), (g1, .inl (cI, 200, .inl (nA (va_up lx tn j)))), (z0, .inr (8, [.ref g0, .ref a0, .ref f0, .ref s0, .ref k0, .ref v0, .ref d0, .ref y0, .ref m0, .ref o0]))]
        refine J_if_eq h 35 dX8_write_22 (by decide) (fun z => absurd z (by decide)) (fun _ => ?_)
        refine J_aload_n h (i := 0) dX8_write_25 rfl 0 rfl ?_
        refine J_get h inX8 rfl 2 0 (by decide) rfl rfl nf_X8_12 dX8_write_26 ?_
        refine J_get h inX7 rfl 0 1 (by decide) rfl rfl nf_X8_100 dX8_write_29 ?_
        refine J_goto h 37 dX8_write_32 (by decide) ?_
        refine J.wld [2, 0, 1] (ws' := [(z0, .inr (8, [.ref g0, .ref a0, .ref f0, .ref s0, .ref k0, .ref v0, .ref d0, .ref y0, .ref m0, .ref o0])), (g0, .inr (7, [.ref g1, .int (nI (tn + 1))])), (g1, .inl (cI, 200, .inl (nA (va_up lx tn j))))]) rfl rfl ?_
        exact hR (nI (tn + 1)) (va_up lx tn j, tn + 1) (by first | exact Or.inl ⟨rfl, by omega, by omega, by rw [show ton (nI j) = j from nI_clamp (by omega)], rfl, trivial⟩ | exact Or.inr (Or.inl ⟨rfl, by omega, by omega, rfl, rfl, trivial⟩)) 37 _ dX8_write_37
      · obtain ⟨rfl, f0_19, rfl, rfl, -⟩ := p_19
        show J X 2 0 0 22 [(0, .ref z0), (1, .int (nI j))] [.int (nI 0)] [(g0, .inr (7, [.ref g1, .int (nI tn)])), (g1, .inl (cI, 200, .inl (nA lx))), (z0, .inr (8, [.ref g0, .ref a0, .ref f0, .ref s0, .ref k0, .ref v0, .ref d0, .ref y0, .ref m0, .ref o0]))]
        refine J_if_eq h 35 dX8_write_22 (by decide) (fun _ => ?_) (fun z => absurd z (by decide))
        refine J_bipush h (v := (-3)) dX8_write_35 (by decide) ?_
        refine J.wld [2, 0, 1] (ws' := [(z0, .inr (8, [.ref g0, .ref a0, .ref f0, .ref s0, .ref k0, .ref v0, .ref d0, .ref y0, .ref m0, .ref o0])), (g0, .inr (7, [.ref g1, .int (nI tn)])), (g1, .inl (cI, 200, .inl (nA lx)))]) rfl rfl ?_
        exact hR ((-3)) (lx, tn) (by first | exact Or.inl ⟨rfl, by omega, by omega, by rw [show ton (nI j) = j from nI_clamp (by omega)], rfl, trivial⟩ | exact Or.inr (Or.inl ⟨rfl, by omega, by omega, rfl, rfl, trivial⟩)) 37 _ dX8_write_37
    · skip
      refine J_iconst h (v := (-1)) dX8_write_12 (by decide) ?_
      exact hR ((-1)) (lx, tn) (by exact Or.inr (Or.inr ⟨rfl, by omega, rfl, rfl, trivial⟩)) 13 _ dX8_write_13
theorem c_X8_write (l : Launch) (D : va_G) (cI cE : ClassId) (z0 : Nat) (g0 : Nat) (a0 : Nat) (f0 : Nat) (s0 : Nat) (k0 : Nat) (v0 : Nat) (d0 : Nat) (y0 : Nat) (m0 : Nat) (o0 : Nat) (g1 : Nat) (lx : Nat → Nat) (tn : Nat) (p0 : Int32) (hlx : ∀ j, lx j ≤ 126) (htn : tn ≤ 200) : Ci l D cI cE yX8_write cX8_write 2 (some .int) 1 0 0 [.ref z0, .int p0] [(z0, .inr (8, [.ref g0, .ref a0, .ref f0, .ref s0, .ref k0, .ref v0, .ref d0, .ref y0, .ref m0, .ref o0])), (g0, .inr (7, [.ref g1, .int (nI tn)])), (g1, .inl (cI, 200, .inl (nA lx)))] (fun (r : Int32) (u : (Nat → Nat) × (Nat)) => ((nI (tn + 1) = r) ∧ (32 ≤ p0.toInt ∧ p0.toInt ≤ 126) ∧ (tn < 200) ∧ ((va_up lx tn (ton p0)) = u.1) ∧ ((tn + 1) = u.2) ∧ (True)) ∨ (((-3) = r) ∧ (32 ≤ p0.toInt ∧ p0.toInt ≤ 126) ∧ (tn = 200) ∧ ((lx) = u.1) ∧ ((tn) = u.2) ∧ (True)) ∨ (((-1) = r) ∧ (¬ (32 ≤ p0.toInt ∧ p0.toInt ≤ 126)) ∧ ((lx) = u.1) ∧ ((tn) = u.2) ∧ (True))) (fun (u : (Nat → Nat) × (Nat)) => ([(z0, .inr (8, [.ref g0, .ref a0, .ref f0, .ref s0, .ref k0, .ref v0, .ref d0, .ref y0, .ref m0, .ref o0])), (g0, .inr (7, [.ref g1, .int (nI u.2)])), (g1, .inl (cI, 200, .inl (nA u.1)))] : va_W)) :=
  Ci.of (by decide) (Nat.le_of_ble_eq_true rfl) (fun _ _ _ => rfl) (fun X h hR => w_X8_write X h z0 g0 a0 f0 s0 k0 v0 d0 y0 m0 o0 g1 lx tn p0 hlx htn hR)
theorem yv_X8_write : YV yX8_write cX8_write 2 (some .int) 1 := ⟨no_X8_write, nv_X8_write, ni_X8, nk_X8_write, by decide +kernel⟩
