set_option maxRecDepth 100000 in
set_option maxHeartbeats 4000000 in
theorem w_X8_winterThing (X : Cx) {cI cE : ClassId} (h : Ok X cX8_winterThing RX8 6 cI cE 3 0 0) (z0 : Nat) (g0 : Nat) (a0 : Nat) (f0 : Nat) (s0 : Nat) (k0 : Nat) (v0 : Nat) (d0 : Nat) (y0 : Nat) (m0 : Nat) (o0 : Nat) (f1 : Nat) (f2 : Nat) (dth : Nat → Int32) (dow : Nat → Int32) (co : Nat) (ro : Nat) (dsl : Int32) (d1 : Nat) (d2 : Nat) (ce : Nat → Int32) (se : Nat → Int32) (len : Int32) (en : Int32) (p0 : Nat) (hrc : ro * co ≤ 48) (hco : co ≤ 6) (hro : ro ≤ 8) (hc0 : 0 < co) (hr0 : 0 < ro * co) (hp0 : p0 < 100000) (hR : ∀ (r : Int32) (u : (Nat → Int32) × (Nat → Int32) × (Nat → Int32) × (Nat → Int32) × (Int32) × (Int32)), ((nI 1 = r) ∧ (EqN (wSe co ro dth p0) 1) ∧ ((wTh co ro dth p0) = u.1) ∧ ((wOw co ro dth dow p0) = u.2.1) ∧ (True)) ∨ ((nI 0 = r) ∧ (EqN (wSe co ro dth p0) 0) ∧ ((wTh co ro dth p0) = u.1) ∧ ((wOw co ro dth dow p0) = u.2.1) ∧ (True)) → RetI X cX8_winterThing 6 0 0 r [(z0, .inr (8, [.ref g0, .ref a0, .ref f0, .ref s0, .ref k0, .ref v0, .ref d0, .ref y0, .ref m0, .ref o0])), (f0, .inr (0, [.ref f1, .ref f2, .int (nI co), .int (nI ro), .int dsl])), (f1, .inl (cI, 48, .inl u.1)), (f2, .inl (cI, 48, .inl u.2.1)), (d0, .inr (3, [.ref d1, .ref d2, .int u.2.2.2.2.1, .int u.2.2.2.2.2])), (d1, .inl (cI, 8, .inl u.2.2.1)), (d2, .inl (cI, 8, .inl u.2.2.2.1))]) : J X 6 0 0 0 [(0, .ref z0), (1, .int (nI p0))] [] [(z0, .inr (8, [.ref g0, .ref a0, .ref f0, .ref s0, .ref k0, .ref v0, .ref d0, .ref y0, .ref m0, .ref o0])), (f0, .inr (0, [.ref f1, .ref f2, .int (nI co), .int (nI ro), .int dsl])), (f1, .inl (cI, 48, .inl dth)), (f2, .inl (cI, 48, .inl dow)), (d0, .inr (3, [.ref d1, .ref d2, .int len, .int en])), (d1, .inl (cI, 8, .inl ce)), (d2, .inl (cI, 8, .inl se))] := by
  obtain ⟨qm, eqm⟩ : ∃ z, z = p0 % (ro * co) := ⟨_, rfl⟩
  obtain ⟨qx, eqx⟩ : ∃ z, z = qm % co := ⟨_, rfl⟩
  obtain ⟨qr, eqr⟩ : ∃ z, z = qm / co := ⟨_, rfl⟩
  have hqm : qm < ro * co := by rw [eqm]; exact Nat.mod_lt p0 hr0
  have hqx : qx < co := by rw [eqx]; exact Nat.mod_lt _ hc0
  have hqr : qr < ro := by rw [eqr]; exact (Nat.div_lt_iff_lt_mul hc0).mpr hqm
  refine J_aload_n h (i := 0) dX8_winterThing_0 rfl 0 rfl ?_
  refine J_get h inX8 rfl 0 2 (by decide) rfl rfl nf_X8_23 dX8_winterThing_1 ?_
  refine J.wld [1, 2, 3, 0, 4, 5, 6] (ws' := [(f0, .inr (0, [.ref f1, .ref f2, .int (nI co), .int (nI ro), .int dsl])), (f1, .inl (cI, 48, .inl dth)), (f2, .inl (cI, 48, .inl dow)), (z0, .inr (8, [.ref g0, .ref a0, .ref f0, .ref s0, .ref k0, .ref v0, .ref d0, .ref y0, .ref m0, .ref o0])), (d0, .inr (3, [.ref d1, .ref d2, .int len, .int en])), (d1, .inl (cI, 8, .inl ce)), (d2, .inl (cI, 8, .inl se))]) rfl rfl ?_
  refine K_vi h (wr := [(z0, .inr (8, [.ref g0, .ref a0, .ref f0, .ref s0, .ref k0, .ref v0, .ref d0, .ref y0, .ref m0, .ref o0])), (d0, .inr (3, [.ref d1, .ref d2, .int len, .int en])), (d1, .inl (cI, 8, .inl ce)), (d2, .inl (cI, 8, .inl se))]) (c_X0_cells (xl X) (xD X) cI cE f0 f1 f2 dth dow co ro dsl ) yv_X0_cells nm_X8_111 (by decide) (by decide) rfl rfl 0 rfl rfl rfl rfl (Nat.le_of_ble_eq_true rfl) (Nat.le_refl _) (Nat.le_refl _) dX8_winterThing_4 (fun r_4 u_4 p_4 => ?_)
  obtain ⟨rfl, -⟩ := p_4
  show J X 6 0 0 7 [(0, .ref z0), (1, .int (nI p0))] [.int (nI (ro * co))] [(f0, .inr (0, [.ref f1, .ref f2, .int (nI co), .int (nI ro), .int dsl])), (f1, .inl (cI, 48, .inl dth)), (f2, .inl (cI, 48, .inl dow)), (z0, .inr (8, [.ref g0, .ref a0, .ref f0, .ref s0, .ref k0, .ref v0, .ref d0, .ref y0, .ref m0, .ref o0])), (d0, .inr (3, [.ref d1, .ref d2, .int len, .int en])), (d1, .inl (cI, 8, .inl ce)), (d2, .inl (cI, 8, .inl se))]
  refine J_istore_n h (i := 2) (lv' := [(2, .int (nI (ro * co))), (0, .ref z0), (1, .int (nI p0))]) dX8_winterThing_7 rfl (by decide) rfl ?_
  refine J_aload_n h (i := 0) dX8_winterThing_8 rfl 1 rfl ?_
  refine J_get h inX8 rfl 3 2 (by decide) rfl rfl nf_X8_23 dX8_winterThing_9 ?_
  refine J_get h inX0 rfl 0 2 (by decide) rfl rfl nf_X8_252 dX8_winterThing_12 ?_
  refine J_istore_n h (i := 3) (lv' := [(3, .int (nI co)), (2, .int (nI (ro * co))), (0, .ref z0), (1, .int (nI p0))]) dX8_winterThing_15 rfl (by decide) rfl ?_
  refine J_iload_n h (i := 2) dX8_winterThing_16 rfl 1 rfl ?_
  refine N_if_le h 24 dX8_winterThing_17 (by decide) (by omega) (fun c_17 => absurd c_17 (by omega)) (fun c_17 => ?_)
  refine J_iload_n h (i := 3) dX8_winterThing_20 rfl 0 rfl ?_
  refine N_if_gt h 26 dX8_winterThing_21 (by decide) (by omega) (fun c_21 => ?_) (fun c_21 => absurd c_21 (by omega))
  refine J_iload_n h (i := 1) dX8_winterThing_26 rfl 3 rfl ?_
  refine J_iload_n h (i := 2) dX8_winterThing_27 rfl 1 rfl ?_
  refine N_irem h (by omega) (by omega) (by omega) dX8_winterThing_28 ?_
  refine J_eqs (st' := [.int (nI qm)]) (by rw [eqm]) ?_
  refine J_istore h (lv' := [(4, .int (nI qm)), (3, .int (nI co)), (2, .int (nI (ro * co))), (0, .ref z0), (1, .int (nI p0))]) dX8_winterThing_29 (by decide) rfl ?_
  refine J_iload_n h (i := 1) dX8_winterThing_31 rfl 4 rfl ?_
  refine J_bipush h (v := nI 64) dX8_winterThing_32 (by decide) ?_
  refine N_idiv h (by omega) (by omega) (by omega) dX8_winterThing_34 ?_
  refine J_iconst h (v := nI 4) dX8_winterThing_35 (by decide) ?_
  refine N_irem h (by omega) (by omega) (by omega) dX8_winterThing_36 ?_
  refine J_istore h (lv' := [(5, .int (nI ((p0 / 64) % 4))), (4, .int (nI qm)), (3, .int (nI co)), (2, .int (nI (ro * co))), (0, .ref z0), (1, .int (nI p0))]) dX8_winterThing_37 (by decide) rfl ?_
  refine J_iload h dX8_winterThing_39 0 rfl ?_
  refine N_if_ne h 62 dX8_winterThing_41 (by decide) (by omega) (fun c_41 => ?_) (fun c_41 => ?_)
  · skip
    refine J_iload h dX8_winterThing_62 0 rfl ?_
    refine J_iconst h (v := nI 1) dX8_winterThing_64 (by decide) ?_
    refine N_icmp_ne h 81 dX8_winterThing_65 (by decide) (by omega) (by omega) (fun c_65 => ?_) (fun c_65 => ?_)
    · skip
      refine J_aload_n h (i := 0) dX8_winterThing_81 rfl 4 rfl ?_
      refine J_get h inX8 rfl 3 6 (by decide) rfl rfl nf_X8_48 dX8_winterThing_82 ?_
      refine J_aload_n h (i := 0) dX8_winterThing_85 rfl 4 rfl ?_
      refine J_get h inX8 rfl 3 2 (by decide) rfl rfl nf_X8_23 dX8_winterThing_86 ?_
      refine J_iload h dX8_winterThing_89 1 rfl ?_
      refine J_iload_n h (i := 3) dX8_winterThing_91 rfl 2 rfl ?_
      refine N_irem h (by omega) (by omega) (by omega) dX8_winterThing_92 ?_
      refine J_eqs (st' := [.int (nI qx), .ref f0, .ref d0]) (by rw [eqx]) ?_
      refine J_iload_n h (i := 1) dX8_winterThing_93 rfl 5 rfl ?_
      refine J_sipush h (v := nI 256) dX8_winterThing_94 (by decide) ?_
      refine N_idiv h (by omega) (by omega) (by omega) dX8_winterThing_97 ?_
      refine J_bipush h (v := nI 20) dX8_winterThing_98 (by decide) ?_
      refine N_irem h (by omega) (by omega) (by omega) dX8_winterThing_100 ?_
      refine J_iconst h (v := nI 1) dX8_winterThing_101 (by decide) ?_
      refine N_iadd h dX8_winterThing_102 ?_
      refine J_iconst h (v := nI 0) dX8_winterThing_103 (by decide) ?_
      refine J.wld [4, 5, 6, 0, 1, 2, 3] (ws' := [(d0, .inr (3, [.ref d1, .ref d2, .int len, .int en])), (d1, .inl (cI, 8, .inl ce)), (d2, .inl (cI, 8, .inl se)), (f0, .inr (0, [.ref f1, .ref f2, .int (nI co), .int (nI ro), .int dsl])), (f1, .inl (cI, 48, .inl dth)), (f2, .inl (cI, 48, .inl dow)), (z0, .inr (8, [.ref g0, .ref a0, .ref f0, .ref s0, .ref k0, .ref v0, .ref d0, .ref y0, .ref m0, .ref o0]))]) rfl rfl ?_
      refine K_vv h (wr := [(z0, .inr (8, [.ref g0, .ref a0, .ref f0, .ref s0, .ref k0, .ref v0, .ref d0, .ref y0, .ref m0, .ref o0]))]) (c_X3_run (xl X) (xD X) cI cE d0 d1 d2 ce se len en f0 f1 f2 dth dow co ro dsl qx (((p0 / 256) % 20) + 1) 0 (by first | exact hrc |  assumption | omega | rfl) (by first | exact hco |  assumption | omega | rfl) (by first | exact hro |  assumption | omega | rfl) (by first | assumption | omega | rfl) (by first | assumption | omega | rfl) (by first | assumption | omega | rfl)) yv_X3_run nm_X8_134 (by decide) (by decide) rfl rfl 0 rfl rfl rfl rfl (Nat.le_of_ble_eq_true rfl) (Nat.le_refl _) (Nat.le_refl _) dX8_winterThing_104 (fun u_104 p_104 => ?_)
      obtain ⟨ce2_104, se2_104⟩ := u_104
      try dsimp only at p_104
      obtain ⟨f0_104, f1_104, -⟩ := p_104
      show J X 6 0 0 107 [(5, .int (nI ((p0 / 64) % 4))), (4, .int (nI qm)), (3, .int (nI co)), (2, .int (nI (ro * co))), (0, .ref z0), (1, .int (nI p0))] [] [(d0, .inr (3, [.ref d1, .ref d2, .int (nI (rln dth co ro 0 qx (((p0 / 256) % 20) + 1))), .int (nI (ren dth co ro 0 qx (((p0 / 256) % 20) + 1)))])), (d1, .inl (cI, 8, .inl ce2_104)), (d2, .inl (cI, 8, .inl se2_104)), (f0, .inr (0, [.ref f1, .ref f2, .int (nI co), .int (nI ro), .int dsl])), (f1, .inl (cI, 48, .inl dth)), (f2, .inl (cI, 48, .inl dow)), (z0, .inr (8, [.ref g0, .ref a0, .ref f0, .ref s0, .ref k0, .ref v0, .ref d0, .ref y0, .ref m0, .ref o0]))]
      refine J_aload_n h (i := 0) dX8_winterThing_107 rfl 4 rfl ?_
      refine J_get h inX8 rfl 6 6 (by decide) rfl rfl nf_X8_48 dX8_winterThing_108 ?_
      refine J_aload_n h (i := 0) dX8_winterThing_111 rfl 4 rfl ?_
      refine J_get h inX8 rfl 6 2 (by decide) rfl rfl nf_X8_23 dX8_winterThing_112 ?_
      refine J_iload_n h (i := 1) dX8_winterThing_115 rfl 5 rfl ?_
      refine J_bipush h (v := nI 16) dX8_winterThing_116 (by decide) ?_
      refine N_idiv h (by omega) (by omega) (by omega) dX8_winterThing_118 ?_
      refine J_iconst h (v := nI 4) dX8_winterThing_119 (by decide) ?_
      refine N_irem h (by omega) (by omega) (by omega) dX8_winterThing_120 ?_
      refine K_vv h (wr := [(z0, .inr (8, [.ref g0, .ref a0, .ref f0, .ref s0, .ref k0, .ref v0, .ref d0, .ref y0, .ref m0, .ref o0]))]) (c_X3_takeFor (xl X) (xD X) cI cE d0 d1 d2 ce2_104 se2_104 (rln dth co ro 0 qx (((p0 / 256) % 20) + 1)) (nI (ren dth co ro 0 qx (((p0 / 256) % 20) + 1))) f0 f1 f2 dth dow co ro dsl (nI ((p0 / 16) % 4)) (rcl dth co 0 qx (p0 / 256 % 20 + 1)) (by first | exact hrc |  assumption | omega | rfl) (by exact Nat.le_trans (rln_le _ _ _ _ _ _) hro) (by intro k hk; exact ⟨f0_104 k hk, rcl_lt dth hqx (by omega) (Nat.lt_of_lt_of_le hk (rln_le _ _ _ _ _ _))⟩)) yv_X3_takeFor nm_X8_162 (by decide) (by decide) rfl rfl 0 rfl rfl rfl rfl (Nat.le_of_ble_eq_true rfl) (Nat.le_refl _) (Nat.le_refl _) dX8_winterThing_121 (fun u_121 p_121 => ?_)
      show J X 6 0 0 124 [(5, .int (nI ((p0 / 64) % 4))), (4, .int (nI qm)), (3, .int (nI co)), (2, .int (nI (ro * co))), (0, .ref z0), (1, .int (nI p0))] [] [(d0, .inr (3, [.ref d1, .ref d2, .int (nI ((rln dth co ro 0 qx (((p0 / 256) % 20) + 1)))), .int (nI (ren dth co ro 0 qx (((p0 / 256) % 20) + 1)))])), (d1, .inl (cI, 8, .inl ce2_104)), (d2, .inl (cI, 8, .inl se2_104)), (f0, .inr (0, [.ref f1, .ref f2, .int (nI co), .int (nI ro), .int dsl])), (f1, .inl (cI, 48, .inl dth)), (f2, .inl (cI, 48, .inl (owB dow (nI ((p0 / 16) % 4)) (rcl dth co 0 qx (p0 / 256 % 20 + 1)) (rln dth co ro 0 qx (((p0 / 256) % 20) + 1))))), (z0, .inr (8, [.ref g0, .ref a0, .ref f0, .ref s0, .ref k0, .ref v0, .ref d0, .ref y0, .ref m0, .ref o0]))]
      have hrn := ren_lt dth (ro := ro) (hh := 0) (w := p0 / 256 % 20 + 1) hrc hqx (by omega)
      refine J_aload_n h (i := 0) dX8_winterThing_124 rfl 4 rfl ?_
      refine J_get h inX8 rfl 6 6 (by decide) rfl rfl nf_X8_48 dX8_winterThing_125 ?_
      refine J_get h inX3 rfl 0 3 (by decide) rfl rfl nf_X8_138 dX8_winterThing_128 ?_
      refine J_bipush h (v := nI 99) dX8_winterThing_131 (by decide) ?_
      refine N_icmp_ne h 140 dX8_winterThing_133 (by decide) (by omega) (by omega) (fun c_133 => ?_) (fun c_133 => ?_)
      · skip
        refine J_iconst h (v := nI 0) dX8_winterThing_140 (by decide) ?_
        refine J.wld [6, 3, 4, 5, 0, 1, 2] (ws' := [(z0, .inr (8, [.ref g0, .ref a0, .ref f0, .ref s0, .ref k0, .ref v0, .ref d0, .ref y0, .ref m0, .ref o0])), (f0, .inr (0, [.ref f1, .ref f2, .int (nI co), .int (nI ro), .int dsl])), (f1, .inl (cI, 48, .inl dth)), (f2, .inl (cI, 48, .inl (owB dow (nI ((p0 / 16) % 4)) (rcl dth co 0 qx (p0 / 256 % 20 + 1)) (rln dth co ro 0 qx (((p0 / 256) % 20) + 1))))), (d0, .inr (3, [.ref d1, .ref d2, .int (nI ((rln dth co ro 0 qx (((p0 / 256) % 20) + 1)))), .int (nI (ren dth co ro 0 qx (((p0 / 256) % 20) + 1)))])), (d1, .inl (cI, 8, .inl ce2_104)), (d2, .inl (cI, 8, .inl se2_104))]) rfl rfl ?_
        exact hR (nI 0) (dth, owB dow (nI ((p0 / 16) % 4)) (rcl dth co 0 qx (p0 / 256 % 20 + 1)) (rln dth co ro 0 qx (((p0 / 256) % 20) + 1)), ce2_104, se2_104, nI ((rln dth co ro 0 qx (((p0 / 256) % 20) + 1))), nI (ren dth co ro 0 qx (((p0 / 256) % 20) + 1))) (by first | exact Or.inl ⟨rfl, .mk (by unfold wSe; rw [if_neg c_41, if_neg c_65, ← eqm, ← eqx, if_pos c_133]), by unfold wTh; rw [if_neg c_41, if_neg c_65], by unfold wOw; rw [if_neg c_41, if_neg c_65, ← eqm, ← eqx], trivial⟩ | exact Or.inr ⟨rfl, .mk (by unfold wSe; rw [if_neg c_41, if_neg c_65, ← eqm, ← eqx, if_neg c_133]), by unfold wTh; rw [if_neg c_41, if_neg c_65], by unfold wOw; rw [if_neg c_41, if_neg c_65, ← eqm, ← eqx], trivial⟩) 141 _ dX8_winterThing_141
      · skip
        refine J_iconst h (v := nI 1) dX8_winterThing_136 (by decide) ?_
        refine J_goto h 141 dX8_winterThing_137 (by decide) ?_
        refine J.wld [6, 3, 4, 5, 0, 1, 2] (ws' := [(z0, .inr (8, [.ref g0, .ref a0, .ref f0, .ref s0, .ref k0, .ref v0, .ref d0, .ref y0, .ref m0, .ref o0])), (f0, .inr (0, [.ref f1, .ref f2, .int (nI co), .int (nI ro), .int dsl])), (f1, .inl (cI, 48, .inl dth)), (f2, .inl (cI, 48, .inl (owB dow (nI ((p0 / 16) % 4)) (rcl dth co 0 qx (p0 / 256 % 20 + 1)) (rln dth co ro 0 qx (((p0 / 256) % 20) + 1))))), (d0, .inr (3, [.ref d1, .ref d2, .int (nI ((rln dth co ro 0 qx (((p0 / 256) % 20) + 1)))), .int (nI (ren dth co ro 0 qx (((p0 / 256) % 20) + 1)))])), (d1, .inl (cI, 8, .inl ce2_104)), (d2, .inl (cI, 8, .inl se2_104))]) rfl rfl ?_
        exact hR (nI 1) (dth, owB dow (nI ((p0 / 16) % 4)) (rcl dth co 0 qx (p0 / 256 % 20 + 1)) (rln dth co ro 0 qx (((p0 / 256) % 20) + 1)), ce2_104, se2_104, nI ((rln dth co ro 0 qx (((p0 / 256) % 20) + 1))), nI (ren dth co ro 0 qx (((p0 / 256) % 20) + 1))) (by first | exact Or.inl ⟨rfl, .mk (by unfold wSe; rw [if_neg c_41, if_neg c_65, ← eqm, ← eqx, if_pos c_133]), by unfold wTh; rw [if_neg c_41, if_neg c_65], by unfold wOw; rw [if_neg c_41, if_neg c_65, ← eqm, ← eqx], trivial⟩ | exact Or.inr ⟨rfl, .mk (by unfold wSe; rw [if_neg c_41, if_neg c_65, ← eqm, ← eqx, if_neg c_133]), by unfold wTh; rw [if_neg c_41, if_neg c_65], by unfold wOw; rw [if_neg c_41, if_neg c_65, ← eqm, ← eqx], trivial⟩) 141 _ dX8_winterThing_141
    · skip
      refine J_aload_n h (i := 0) dX8_winterThing_68 rfl 4 rfl ?_
      refine J_get h inX8 rfl 3 2 (by decide) rfl rfl nf_X8_23 dX8_winterThing_69 ?_
      refine J_iload h dX8_winterThing_72 1 rfl ?_
      refine J_iload_n h (i := 3) dX8_winterThing_74 rfl 2 rfl ?_
      refine N_idiv h (by omega) (by omega) (by omega) dX8_winterThing_75 ?_
      refine J_eqs (st' := [.int (nI qr), .ref f0]) (by rw [eqr]) ?_
      refine K_vv h (wr := [(z0, .inr (8, [.ref g0, .ref a0, .ref f0, .ref s0, .ref k0, .ref v0, .ref d0, .ref y0, .ref m0, .ref o0])), (d0, .inr (3, [.ref d1, .ref d2, .int len, .int en])), (d1, .inl (cI, 8, .inl ce)), (d2, .inl (cI, 8, .inl se))]) (c_X0_freeze (xl X) (xD X) cI cE f0 f1 f2 dth dow co ro dsl qr (by first | exact hrc |  assumption | omega | rfl) (by first | exact hp0 |  assumption | omega | rfl)) yv_X0_freeze nm_X8_179 (by decide) (by decide) rfl rfl 0 rfl rfl rfl rfl (Nat.le_of_ble_eq_true rfl) (Nat.le_refl _) (Nat.le_refl _) dX8_winterThing_76 (fun u_76 p_76 => ?_)
      show J X 6 0 0 79 [(5, .int (nI ((p0 / 64) % 4))), (4, .int (nI qm)), (3, .int (nI co)), (2, .int (nI (ro * co))), (0, .ref z0), (1, .int (nI p0))] [] [(f0, .inr (0, [.ref f1, .ref f2, .int (nI co), .int (nI ro), .int dsl])), (f1, .inl (cI, 48, .inl (sgm (qr * co) co fz dth))), (f2, .inl (cI, 48, .inl dow)), (z0, .inr (8, [.ref g0, .ref a0, .ref f0, .ref s0, .ref k0, .ref v0, .ref d0, .ref y0, .ref m0, .ref o0])), (d0, .inr (3, [.ref d1, .ref d2, .int len, .int en])), (d1, .inl (cI, 8, .inl ce)), (d2, .inl (cI, 8, .inl se))]
      refine J_iconst h (v := nI 0) dX8_winterThing_79 (by decide) ?_
      refine J.wld [3, 0, 1, 2, 4, 5, 6] (ws' := [(z0, .inr (8, [.ref g0, .ref a0, .ref f0, .ref s0, .ref k0, .ref v0, .ref d0, .ref y0, .ref m0, .ref o0])), (f0, .inr (0, [.ref f1, .ref f2, .int (nI co), .int (nI ro), .int dsl])), (f1, .inl (cI, 48, .inl (sgm (qr * co) co fz dth))), (f2, .inl (cI, 48, .inl dow)), (d0, .inr (3, [.ref d1, .ref d2, .int len, .int en])), (d1, .inl (cI, 8, .inl ce)), (d2, .inl (cI, 8, .inl se))]) rfl rfl ?_
      exact hR (nI 0) (sgm (qr * co) co fz dth, dow, ce, se, len, en) (by exact Or.inr ⟨rfl, .mk (by unfold wSe; rw [if_neg c_41, if_pos c_65]), by unfold wTh; rw [if_neg c_41, if_pos c_65, ← eqm, ← eqr], by unfold wOw; rw [if_neg c_41, if_pos c_65], trivial⟩) 80 _ dX8_winterThing_80
  · skip
    refine J_aload_n h (i := 0) dX8_winterThing_44 rfl 4 rfl ?_
    refine J_get h inX8 rfl 3 2 (by decide) rfl rfl nf_X8_23 dX8_winterThing_45 ?_
    refine J_iload h dX8_winterThing_48 1 rfl ?_
    refine J_iload_n h (i := 1) dX8_winterThing_50 rfl 5 rfl ?_
    refine J_sipush h (v := nI 256) dX8_winterThing_51 (by decide) ?_
    refine N_idiv h (by omega) (by omega) (by omega) dX8_winterThing_54 ?_
    refine J_iconst h (v := nI 4) dX8_winterThing_55 (by decide) ?_
    refine N_irem h (by omega) (by omega) (by omega) dX8_winterThing_56 ?_
    refine K_vv h (wr := [(z0, .inr (8, [.ref g0, .ref a0, .ref f0, .ref s0, .ref k0, .ref v0, .ref d0, .ref y0, .ref m0, .ref o0])), (d0, .inr (3, [.ref d1, .ref d2, .int len, .int en])), (d1, .inl (cI, 8, .inl ce)), (d2, .inl (cI, 8, .inl se))]) (c_X0_putThing (xl X) (xD X) cI cE f0 f1 f2 dth dow co ro dsl qm (nI ((p0 / 256) % 4)) (by first | exact hrc |  assumption | omega | rfl) (by first | exact hp0 |  assumption | omega | rfl)) yv_X0_putThing nm_X8_169 (by decide) (by decide) rfl rfl 0 rfl rfl rfl rfl (Nat.le_of_ble_eq_true rfl) (Nat.le_refl _) (Nat.le_refl _) dX8_winterThing_57 (fun u_57 p_57 => ?_)
    show J X 6 0 0 60 [(5, .int (nI ((p0 / 64) % 4))), (4, .int (nI qm)), (3, .int (nI co)), (2, .int (nI (ro * co))), (0, .ref z0), (1, .int (nI p0))] [] [(f0, .inr (0, [.ref f1, .ref f2, .int (nI co), .int (nI ro), .int dsl])), (f1, .inl (cI, 48, .inl (upd dth qm (nI ((p0 / 256) % 4))))), (f2, .inl (cI, 48, .inl dow)), (z0, .inr (8, [.ref g0, .ref a0, .ref f0, .ref s0, .ref k0, .ref v0, .ref d0, .ref y0, .ref m0, .ref o0])), (d0, .inr (3, [.ref d1, .ref d2, .int len, .int en])), (d1, .inl (cI, 8, .inl ce)), (d2, .inl (cI, 8, .inl se))]
    refine J_iconst h (v := nI 0) dX8_winterThing_60 (by decide) ?_
    refine J.wld [3, 0, 1, 2, 4, 5, 6] (ws' := [(z0, .inr (8, [.ref g0, .ref a0, .ref f0, .ref s0, .ref k0, .ref v0, .ref d0, .ref y0, .ref m0, .ref o0])), (f0, .inr (0, [.ref f1, .ref f2, .int (nI co), .int (nI ro), .int dsl])), (f1, .inl (cI, 48, .inl (upd dth qm (nI ((p0 / 256) % 4))))), (f2, .inl (cI, 48, .inl dow)), (d0, .inr (3, [.ref d1, .ref d2, .int len, .int en])), (d1, .inl (cI, 8, .inl ce)), (d2, .inl (cI, 8, .inl se))]) rfl rfl ?_
    exact hR (nI 0) (upd dth qm (nI ((p0 / 256) % 4)), dow, ce, se, len, en) (by exact Or.inr ⟨rfl, .mk (by unfold wSe; rw [if_pos c_41]), by unfold wTh; rw [if_pos c_41, ← eqm], by unfold wOw; rw [if_pos c_41], trivial⟩) 61 _ dX8_winterThing_61
theorem c_X8_winterThing (l : Launch) (D : va_G) (cI cE : ClassId) (z0 : Nat) (g0 : Nat) (a0 : Nat) (f0 : Nat) (s0 : Nat) (k0 : Nat) (v0 : Nat) (d0 : Nat) (y0 : Nat) (m0 : Nat) (o0 : Nat) (f1 : Nat) (f2 : Nat) (dth : Nat → Int32) (dow : Nat → Int32) (co : Nat) (ro : Nat) (dsl : Int32) (d1 : Nat) (d2 : Nat) (ce : Nat → Int32) (se : Nat → Int32) (len : Int32) (en : Int32) (p0 : Nat) (hrc : ro * co ≤ 48) (hco : co ≤ 6) (hro : ro ≤ 8) (hc0 : 0 < co) (hr0 : 0 < ro * co) (hp0 : p0 < 100000) : Ci l D cI cE yX8_winterThing cX8_winterThing 6 (some .boolean) 3 0 0 [.ref z0, .int (nI p0)] [(z0, .inr (8, [.ref g0, .ref a0, .ref f0, .ref s0, .ref k0, .ref v0, .ref d0, .ref y0, .ref m0, .ref o0])), (f0, .inr (0, [.ref f1, .ref f2, .int (nI co), .int (nI ro), .int dsl])), (f1, .inl (cI, 48, .inl dth)), (f2, .inl (cI, 48, .inl dow)), (d0, .inr (3, [.ref d1, .ref d2, .int len, .int en])), (d1, .inl (cI, 8, .inl ce)), (d2, .inl (cI, 8, .inl se))] (fun (r : Int32) (u : (Nat → Int32) × (Nat → Int32) × (Nat → Int32) × (Nat → Int32) × (Int32) × (Int32)) => ((nI 1 = r) ∧ (EqN (wSe co ro dth p0) 1) ∧ ((wTh co ro dth p0) = u.1) ∧ ((wOw co ro dth dow p0) = u.2.1) ∧ (True)) ∨ ((nI 0 = r) ∧ (EqN (wSe co ro dth p0) 0) ∧ ((wTh co ro dth p0) = u.1) ∧ ((wOw co ro dth dow p0) = u.2.1) ∧ (True))) (fun (u : (Nat → Int32) × (Nat → Int32) × (Nat → Int32) × (Nat → Int32) × (Int32) × (Int32)) => ([(z0, .inr (8, [.ref g0, .ref a0, .ref f0, .ref s0, .ref k0, .ref v0, .ref d0, .ref y0, .ref m0, .ref o0])), (f0, .inr (0, [.ref f1, .ref f2, .int (nI co), .int (nI ro), .int dsl])), (f1, .inl (cI, 48, .inl u.1)), (f2, .inl (cI, 48, .inl u.2.1)), (d0, .inr (3, [.ref d1, .ref d2, .int u.2.2.2.2.1, .int u.2.2.2.2.2])), (d1, .inl (cI, 8, .inl u.2.2.1)), (d2, .inl (cI, 8, .inl u.2.2.2.1))] : va_W)) :=
  Ci.of (by decide) (Nat.le_of_ble_eq_true rfl) (fun r u hp => by rcases hp with ⟨hp, _⟩ | ⟨hp, _⟩ <;> (rw [← hp]; rfl)) (fun X h hR => w_X8_winterThing X h z0 g0 a0 f0 s0 k0 v0 d0 y0 m0 o0 f1 f2 dth dow co ro dsl d1 d2 ce se len en p0 hrc hco hro hc0 hr0 hp0 hR)
theorem yv_X8_winterThing : YV yX8_winterThing cX8_winterThing 6 (some .boolean) 1 := ⟨no_X8_winterThing, nv_X8_winterThing, ni_X8, nk_X8_winterThing, by decide +kernel⟩
