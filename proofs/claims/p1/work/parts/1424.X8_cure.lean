theorem fcu_yes {th : Nat → Int32} {co ro jx jw jh jc i k : Nat} (hv : vRide co (nI jx) (nI jw) (nI jh)) (hrc : ro * co ≤ 48) (hjx : jx < co) (hjw : jw ≤ 20) (hjh : jh ≤ 18) (hjc : jc < ro * co) (hnr : ren th co ro jh jx jw ≠ jc) (hno : ∀ a, a < i → EqN (cuK th co ro jh jx jw jc a) 4) (h1 : EqN (cuK th co ro jh jx jw jc i) k) (h2 : k < 4) (hi : i < ro * co) (hco : co < 2147483648 := by omega) : fCure th co ro (nI jx) (nI jw) (nI jh) (nI jc) = nI (10 * i + k) := by
  have e : cuA th co ro jh jx jw jc = i := fstP_eq (fun a ha => decide_eq_false (by have := (hno a ha).eq; omega)) (decide_eq_true (by have := h1.eq; omega)) hi
  unfold fCure
  rw [if_pos ⟨hv, cellI hjc (by omega)⟩, tnI (by omega), tnI (by omega), tnI (by omega), tnI (by omega), if_neg hnr, e, if_pos hi, h1.eq]
theorem fcu_no {th : Nat → Int32} {co ro jx jw jh jc : Nat} (hv : vRide co (nI jx) (nI jw) (nI jh)) (hrc : ro * co ≤ 48) (hjx : jx < co) (hjw : jw ≤ 20) (hjh : jh ≤ 18) (hjc : jc < ro * co) (hnr : ren th co ro jh jx jw ≠ jc) (hno : ∀ a, a < ro * co → EqN (cuK th co ro jh jx jw jc a) 4) (hco : co < 2147483648 := by omega) : fCure th co ro (nI jx) (nI jw) (nI jh) (nI jc) = (-4) := by
  have e : cuA th co ro jh jx jw jc = ro * co := fstP_none (fun a ha => decide_eq_false (by have := (hno a ha).eq; omega))
  unfold fCure
  rw [if_pos ⟨hv, cellI hjc (by omega)⟩, tnI (by omega), tnI (by omega), tnI (by omega), tnI (by omega), if_neg hnr, e, if_neg (Nat.lt_irrefl _)]
set_option maxRecDepth 100000 in
set_option maxHeartbeats 4000000 in
theorem w_X8_cure_56 (X : Cx) {cI cE : ClassId} (h : Ok X cX8_cure RX8 7 cI cE 4 0 0) (z0 : Nat) (g0 : Nat) (a0 : Nat) (f0 : Nat) (s0 : Nat) (k0 : Nat) (v0 : Nat) (d0 : Nat) (y0 : Nat) (m0 : Nat) (o0 : Nat) (a1 : Nat) (a2 : Nat) (th : Nat → Int32) (ow : Nat → Int32) (co : Nat) (ro : Nat) (sl : Int32) (d1 : Nat) (d2 : Nat) (ce : Nat → Int32) (se : Nat → Int32) (len : Int32) (en : Int32) (p0 : Int32) (p1 : Int32) (p2 : Int32) (p3 : Int32) (hrc : ro * co ≤ 48) (hco : co ≤ 6) (hro : ro ≤ 8) (hR : ∀ (r : Int32) (u : (Nat → Int32) × (Nat → Int32) × (Int32) × (Int32)), ((fCure th co ro p0 p1 p2 p3 = r) ∧ (True)) → RetI X cX8_cure 7 0 0 r [(z0, .inr (8, [.ref g0, .ref a0, .ref f0, .ref s0, .ref k0, .ref v0, .ref d0, .ref y0, .ref m0, .ref o0])), (a0, .inr (0, [.ref a1, .ref a2, .int (nI co), .int (nI ro), .int sl])), (a1, .inl (cI, 48, .inl th)), (a2, .inl (cI, 48, .inl ow)), (d0, .inr (3, [.ref d1, .ref d2, .int u.2.2.1, .int u.2.2.2])), (d1, .inl (cI, 8, .inl u.1)), (d2, .inl (cI, 8, .inl u.2.1))]) : ∀ (n_56 : Nat) (i : Nat) (jx : Nat) (jw : Nat) (jh : Nat) (jc : Nat) (ce1 : Nat → Int32) (se1 : Nat → Int32) (ln1 : Int32) (en1 : Int32), (i ≤ ro * co) → (jx < co) → (jw ≤ 20) → (jh ≤ 18) → (jc < ro * co) → (vRide co (nI jx) (nI jw) (nI jh)) → (ren th co ro jh jx jw ≠ jc) → (∀ a, a < i → EqN (cuK th co ro jh jx jw jc a) 4) → (p0 = nI jx) → (p1 = nI jw) → (p2 = nI jh) → (p3 = nI jc) → ro * co - i < n_56 → J X 7 0 0 56 [(0, .ref z0), (1, .int (nI jx)), (2, .int (nI jw)), (3, .int (nI jh)), (4, .int (nI jc)), (5, .int (nI i))] [] [(z0, .inr (8, [.ref g0, .ref a0, .ref f0, .ref s0, .ref k0, .ref v0, .ref d0, .ref y0, .ref m0, .ref o0])), (a0, .inr (0, [.ref a1, .ref a2, .int (nI co), .int (nI ro), .int sl])), (a1, .inl (cI, 48, .inl th)), (a2, .inl (cI, 48, .inl ow)), (d0, .inr (3, [.ref d1, .ref d2, .int ln1, .int en1])), (d1, .inl (cI, 8, .inl ce1)), (d2, .inl (cI, 8, .inl se1))] := by
  intro n_56
  induction n_56 with
  | zero => intro i jx jw jh jc ce1 se1 ln1 en1 hi hjx hjw hjh hjc hv hnr hno e0 e1 e2 e3 hn_; exact absurd hn_ (Nat.not_lt_zero _)
  | succ n_56 ih_56 =>
    intro i jx jw jh jc ce1 se1 ln1 en1 hi hjx hjw hjh hjc hv hnr hno e0 e1 e2 e3 hn_56
    refine J_iload h dX8_cure_56 5 rfl ?_
    refine J_aload_n h (i := 0) dX8_cure_58 rfl 0 rfl ?_
    refine J_get h inX8 rfl 0 1 (by decide) rfl rfl nf_X8_19 dX8_cure_59 ?_
    refine J.wld [1, 2, 3, 0, 4, 5, 6] (ws' := [(a0, .inr (0, [.ref a1, .ref a2, .int (nI co), .int (nI ro), .int sl])), (a1, .inl (cI, 48, .inl th)), (a2, .inl (cI, 48, .inl ow)), (z0, .inr (8, [.ref g0, .ref a0, .ref f0, .ref s0, .ref k0, .ref v0, .ref d0, .ref y0, .ref m0, .ref o0])), (d0, .inr (3, [.ref d1, .ref d2, .int ln1, .int en1])), (d1, .inl (cI, 8, .inl ce1)), (d2, .inl (cI, 8, .inl se1))]) rfl rfl ?_
    refine K_vi h (wr := [(z0, .inr (8, [.ref g0, .ref a0, .ref f0, .ref s0, .ref k0, .ref v0, .ref d0, .ref y0, .ref m0, .ref o0])), (d0, .inr (3, [.ref d1, .ref d2, .int ln1, .int en1])), (d1, .inl (cI, 8, .inl ce1)), (d2, .inl (cI, 8, .inl se1))]) (c_X0_cells (xl X) (xD X) cI cE a0 a1 a2 th ow co ro sl ) yv_X0_cells nm_X8_111 (by decide) (by decide) rfl rfl 0 rfl rfl rfl rfl (Nat.le_of_ble_eq_true rfl) (Nat.le_refl _) (Nat.le_refl _) dX8_cure_62 (fun r_62 u_62 p_62 => ?_)
    obtain ⟨rfl, -⟩ := p_62
    show J X 7 0 0 65 [(0, .ref z0), (1, .int (nI jx)), (2, .int (nI jw)), (3, .int (nI jh)), (4, .int (nI jc)), (5, .int (nI i))] [.int (nI (ro * co)), .int (nI i)] [(a0, .inr (0, [.ref a1, .ref a2, .int (nI co), .int (nI ro), .int sl])), (a1, .inl (cI, 48, .inl th)), (a2, .inl (cI, 48, .inl ow)), (z0, .inr (8, [.ref g0, .ref a0, .ref f0, .ref s0, .ref k0, .ref v0, .ref d0, .ref y0, .ref m0, .ref o0])), (d0, .inr (3, [.ref d1, .ref d2, .int ln1, .int en1])), (d1, .inl (cI, 8, .inl ce1)), (d2, .inl (cI, 8, .inl se1))]
    refine N_icmp_ge h 103 dX8_cure_65 (by decide) (by omega) (by omega) (fun c_65 => ?_) (fun c_65 => ?_)
    · skip
      refine J_bipush h (v := (-4)) dX8_cure_103 (by decide) ?_
      refine J.wld [3, 0, 1, 2, 4, 5, 6] (ws' := [(z0, .inr (8, [.ref g0, .ref a0, .ref f0, .ref s0, .ref k0, .ref v0, .ref d0, .ref y0, .ref m0, .ref o0])), (a0, .inr (0, [.ref a1, .ref a2, .int (nI co), .int (nI ro), .int sl])), (a1, .inl (cI, 48, .inl th)), (a2, .inl (cI, 48, .inl ow)), (d0, .inr (3, [.ref d1, .ref d2, .int ln1, .int en1])), (d1, .inl (cI, 8, .inl ce1)), (d2, .inl (cI, 8, .inl se1))]) rfl rfl ?_
      exact hR ((-4)) (ce1, se1, ln1, en1) (⟨(by (try dsimp only); rw [e0, e1, e2, e3]; exact fcu_no hv hrc hjx hjw hjh hjc hnr (fun a ha => hno a (by omega))), trivial⟩) 105 _ dX8_cure_105
    · skip
      refine J_aload_n h (i := 0) dX8_cure_68 rfl 0 rfl ?_
      refine J_iload h dX8_cure_69 5 rfl ?_
      refine J_iload_n h (i := 1) dX8_cure_71 rfl 1 rfl ?_
      refine J_iload_n h (i := 2) dX8_cure_72 rfl 2 rfl ?_
      refine J_iload_n h (i := 3) dX8_cure_73 rfl 3 rfl ?_
      refine J_iload h dX8_cure_74 4 rfl ?_
      refine J.wld [3, 0, 1, 2, 4, 5, 6] (ws' := [(z0, .inr (8, [.ref g0, .ref a0, .ref f0, .ref s0, .ref k0, .ref v0, .ref d0, .ref y0, .ref m0, .ref o0])), (a0, .inr (0, [.ref a1, .ref a2, .int (nI co), .int (nI ro), .int sl])), (a1, .inl (cI, 48, .inl th)), (a2, .inl (cI, 48, .inl ow)), (d0, .inr (3, [.ref d1, .ref d2, .int ln1, .int en1])), (d1, .inl (cI, 8, .inl ce1)), (d2, .inl (cI, 8, .inl se1))]) rfl rfl ?_
      refine K_vi h (wr := []) (c_X8_firstCureIn (xl X) (xD X) cI cE z0 g0 a0 f0 s0 k0 v0 d0 y0 m0 o0 a1 a2 th ow co ro sl d1 d2 ce1 se1 ln1 en1 i jx jw jh jc (by first | exact hrc |  assumption | omega | rfl) (by first | exact hco |  assumption | omega | rfl) (by first | exact hro |  assumption | omega | rfl) (by first | assumption | omega | rfl) (by first | assumption | omega | rfl) (by first | assumption | omega | rfl) (by first | assumption | omega | rfl) (by first | assumption | omega | rfl)) yv_X8_firstCureIn nm_X8_203 (by decide) (by decide) rfl rfl 0 rfl rfl rfl rfl (Nat.le_of_ble_eq_true rfl) (Nat.le_refl _) (Nat.le_refl _) dX8_cure_76 (fun r_76 u_76 p_76 => ?_)
      obtain ⟨ce2_76, se2_76, ln2_76, en2_76⟩ := u_76
      try dsimp only at p_76
      rcases p_76 with p_76 | p_76
      · obtain ⟨k_76, rfl, f0_76, f1_76, -⟩ := p_76
        show J X 7 0 0 79 [(0, .ref z0), (1, .int (nI jx)), (2, .int (nI jw)), (3, .int (nI jh)), (4, .int (nI jc)), (5, .int (nI i))] [.int (nI k_76)] [(z0, .inr (8, [.ref g0, .ref a0, .ref f0, .ref s0, .ref k0, .ref v0, .ref d0, .ref y0, .ref m0, .ref o0])), (a0, .inr (0, [.ref a1, .ref a2, .int (nI co), .int (nI ro), .int sl])), (a1, .inl (cI, 48, .inl th)), (a2, .inl (cI, 48, .inl ow)), (d0, .inr (3, [.ref d1, .ref d2, .int ln2_76, .int en2_76])), (d1, .inl (cI, 8, .inl ce2_76)), (d2, .inl (cI, 8, .inl se2_76))]
        refine J_istore h (lv' := [(6, .int (nI k_76)), (0, .ref z0), (1, .int (nI jx)), (2, .int (nI jw)), (3, .int (nI jh)), (4, .int (nI jc)), (5, .int (nI i))]) dX8_cure_79 (by decide) rfl ?_
        refine J_iload h dX8_cure_81 0 rfl ?_
        refine J_bipush h (v := (-4)) dX8_cure_83 (by decide) ?_
        refine T_icmp_eq h (A := ((k_76 : Nat) : Int)) (B := (-4)) 97 dX8_cure_85 (by decide) (nI_toInt (by omega)) (by decide) (fun c_85 => absurd c_85 (by omega)) (fun c_85 => ?_)
        refine J_bipush h (v := nI 10) dX8_cure_88 (by decide) ?_
        refine J_iload h dX8_cure_90 6 rfl ?_
        refine N_imul h dX8_cure_92 ?_
        refine J_iload h dX8_cure_93 0 rfl ?_
        refine N_iadd h dX8_cure_95 ?_
        exact hR (nI ((10 * i) + k_76)) (ce2_76, se2_76, ln2_76, en2_76) (⟨(by (try dsimp only); rw [e0, e1, e2, e3]; exact fcu_yes hv hrc hjx hjw hjh hjc hnr hno f0_76 f1_76 (by omega)), trivial⟩) 96 _ dX8_cure_96
      · obtain ⟨rfl, f0_76, -⟩ := p_76
        show J X 7 0 0 79 [(0, .ref z0), (1, .int (nI jx)), (2, .int (nI jw)), (3, .int (nI jh)), (4, .int (nI jc)), (5, .int (nI i))] [.int (-4)] [(z0, .inr (8, [.ref g0, .ref a0, .ref f0, .ref s0, .ref k0, .ref v0, .ref d0, .ref y0, .ref m0, .ref o0])), (a0, .inr (0, [.ref a1, .ref a2, .int (nI co), .int (nI ro), .int sl])), (a1, .inl (cI, 48, .inl th)), (a2, .inl (cI, 48, .inl ow)), (d0, .inr (3, [.ref d1, .ref d2, .int ln2_76, .int en2_76])), (d1, .inl (cI, 8, .inl ce2_76)), (d2, .inl (cI, 8, .inl se2_76))]
        refine J_istore h (lv' := [(6, .int (-4)), (0, .ref z0), (1, .int (nI jx)), (2, .int (nI jw)), (3, .int (nI jh)), (4, .int (nI jc)), (5, .int (nI i))]) dX8_cure_79 (by decide) rfl ?_
        refine J_iload h dX8_cure_81 0 rfl ?_
        refine J_bipush h (v := (-4)) dX8_cure_83 (by decide) ?_
        refine T_icmp_eq h (A := (-4)) (B := (-4)) 97 dX8_cure_85 (by decide) (by decide) (by decide) (fun c_85 => ?_) (fun c_85 => absurd c_85 (by omega))
        refine J_iinc h (v := nI (i + 1)) (lv' := [(5, .int (nI (i + 1))), (6, .int (-4)), (0, .ref z0), (1, .int (nI jx)), (2, .int (nI jw)), (3, .int (nI jh)), (4, .int (nI jc))]) dX8_cure_97 6 rfl (inc_ok _ 1) (by decide) rfl ?_
        refine J_goto h 56 dX8_cure_100 (by decide) ?_
        refine J.loc [2, 3, 4, 5, 6, 0] (lv' := [(0, .ref z0), (1, .int (nI jx)), (2, .int (nI jw)), (3, .int (nI jh)), (4, .int (nI jc)), (5, .int (nI (i + 1)))]) rfl ?_
        exact ih_56 (i + 1) jx jw jh jc ce2_76 se2_76 ln2_76 en2_76 (by first | exact hi |  assumption | omega | rfl) (by first | exact hjx |  assumption | omega | rfl) (by first | exact hjw |  assumption | omega | rfl) (by first | exact hjh |  assumption | omega | rfl) (by first | exact hjc |  assumption | omega | rfl) (by first | exact hv |  assumption | omega | rfl) (by first | exact hnr |  assumption | omega | rfl) (by exact lt_s hno f0_76) (by first | exact e0 |  assumption | omega | rfl) (by first | exact e1 |  assumption | omega | rfl) (by first | exact e2 |  assumption | omega | rfl) (by first | exact e3 |  assumption | omega | rfl) (by omega)
set_option maxRecDepth 100000 in
set_option maxHeartbeats 4000000 in
theorem w_X8_cure (X : Cx) {cI cE : ClassId} (h : Ok X cX8_cure RX8 7 cI cE 4 0 0) (z0 : Nat) (g0 : Nat) (a0 : Nat) (f0 : Nat) (s0 : Nat) (k0 : Nat) (v0 : Nat) (d0 : Nat) (y0 : Nat) (m0 : Nat) (o0 : Nat) (a1 : Nat) (a2 : Nat) (th : Nat → Int32) (ow : Nat → Int32) (co : Nat) (ro : Nat) (sl : Int32) (d1 : Nat) (d2 : Nat) (ce : Nat → Int32) (se : Nat → Int32) (len : Int32) (en : Int32) (p0 : Int32) (p1 : Int32) (p2 : Int32) (p3 : Int32) (hrc : ro * co ≤ 48) (hco : co ≤ 6) (hro : ro ≤ 8) (hR : ∀ (r : Int32) (u : (Nat → Int32) × (Nat → Int32) × (Int32) × (Int32)), ((fCure th co ro p0 p1 p2 p3 = r) ∧ (True)) → RetI X cX8_cure 7 0 0 r [(z0, .inr (8, [.ref g0, .ref a0, .ref f0, .ref s0, .ref k0, .ref v0, .ref d0, .ref y0, .ref m0, .ref o0])), (a0, .inr (0, [.ref a1, .ref a2, .int (nI co), .int (nI ro), .int sl])), (a1, .inl (cI, 48, .inl th)), (a2, .inl (cI, 48, .inl ow)), (d0, .inr (3, [.ref d1, .ref d2, .int u.2.2.1, .int u.2.2.2])), (d1, .inl (cI, 8, .inl u.1)), (d2, .inl (cI, 8, .inl u.2.1))]) : J X 7 0 0 0 [(0, .ref z0), (1, .int p0), (2, .int p1), (3, .int p2), (4, .int p3)] [] [(z0, .inr (8, [.ref g0, .ref a0, .ref f0, .ref s0, .ref k0, .ref v0, .ref d0, .ref y0, .ref m0, .ref o0])), (a0, .inr (0, [.ref a1, .ref a2, .int (nI co), .int (nI ro), .int sl])), (a1, .inl (cI, 48, .inl th)), (a2, .inl (cI, 48, .inl ow)), (d0, .inr (3, [.ref d1, .ref d2, .int len, .int en])), (d1, .inl (cI, 8, .inl ce)), (d2, .inl (cI, 8, .inl se))] := by
  refine J_aload_n h (i := 0) dX8_cure_0 rfl 0 rfl ?_
  refine J_iload_n h (i := 1) dX8_cure_1 rfl 1 rfl ?_
  refine J_iload_n h (i := 2) dX8_cure_2 rfl 2 rfl ?_
  refine J_iload_n h (i := 3) dX8_cure_3 rfl 3 rfl ?_
  refine K_vi h (wr := [(d0, .inr (3, [.ref d1, .ref d2, .int len, .int en])), (d1, .inl (cI, 8, .inl ce)), (d2, .inl (cI, 8, .inl se))]) (c_X8_isRide (xl X) (xD X) cI cE z0 g0 a0 f0 s0 k0 v0 d0 y0 m0 o0 a1 a2 th ow co ro sl p0 p1 p2 (by first | exact hco |  assumption | omega | rfl)) yv_X8_isRide nm_X8_130 (by decide) (by decide) rfl rfl 0 rfl rfl rfl rfl (Nat.le_of_ble_eq_true rfl) (Nat.le_refl _) (Nat.le_refl _) dX8_cure_4 (fun r_4 u_4 p_4 => ?_)
  rcases p_4 with p_4 | p_4
  · obtain ⟨jx_4, jw_4, jh_4, rfl, f0_4, f1_4, f2_4, f3_4, f4_4, rfl, rfl, rfl, -⟩ := p_4
    show J X 7 0 0 7 [(0, .ref z0), (1, .int (nI jx_4)), (2, .int (nI jw_4)), (3, .int (nI jh_4)), (4, .int p3)] [.int (nI 1)] [(z0, .inr (8, [.ref g0, .ref a0, .ref f0, .ref s0, .ref k0, .ref v0, .ref d0, .ref y0, .ref m0, .ref o0])), (a0, .inr (0, [.ref a1, .ref a2, .int (nI co), .int (nI ro), .int sl])), (a1, .inl (cI, 48, .inl th)), (a2, .inl (cI, 48, .inl ow)), (d0, .inr (3, [.ref d1, .ref d2, .int len, .int en])), (d1, .inl (cI, 8, .inl ce)), (d2, .inl (cI, 8, .inl se))]
    refine J_if_eq h 22 dX8_cure_7 (by decide) (fun z => absurd z (by decide)) (fun _ => ?_)
    refine J_aload_n h (i := 0) dX8_cure_10 rfl 0 rfl ?_
    refine J_get h inX8 rfl 0 1 (by decide) rfl rfl nf_X8_19 dX8_cure_11 ?_
    refine J_iload h dX8_cure_14 4 rfl ?_
    refine J.wld [1, 2, 3, 0, 4, 5, 6] (ws' := [(a0, .inr (0, [.ref a1, .ref a2, .int (nI co), .int (nI ro), .int sl])), (a1, .inl (cI, 48, .inl th)), (a2, .inl (cI, 48, .inl ow)), (z0, .inr (8, [.ref g0, .ref a0, .ref f0, .ref s0, .ref k0, .ref v0, .ref d0, .ref y0, .ref m0, .ref o0])), (d0, .inr (3, [.ref d1, .ref d2, .int len, .int en])), (d1, .inl (cI, 8, .inl ce)), (d2, .inl (cI, 8, .inl se))]) rfl rfl ?_
    refine K_vi h (wr := [(z0, .inr (8, [.ref g0, .ref a0, .ref f0, .ref s0, .ref k0, .ref v0, .ref d0, .ref y0, .ref m0, .ref o0])), (d0, .inr (3, [.ref d1, .ref d2, .int len, .int en])), (d1, .inl (cI, 8, .inl ce)), (d2, .inl (cI, 8, .inl se))]) (c_X0_hasCell (xl X) (xD X) cI cE a0 a1 a2 th ow co ro sl p3 (by first | exact hrc |  assumption | omega | rfl)) yv_X0_hasCell nm_X8_114 (by decide) (by decide) rfl rfl 0 rfl rfl rfl rfl (Nat.le_of_ble_eq_true rfl) (Nat.le_refl _) (Nat.le_refl _) dX8_cure_16 (fun r_16 u_16 p_16 => ?_)
    rcases p_16 with p_16 | p_16
    · obtain ⟨j_16, rfl, f0_16, rfl, -⟩ := p_16
      show J X 7 0 0 19 [(0, .ref z0), (1, .int (nI jx_4)), (2, .int (nI jw_4)), (3, .int (nI jh_4)), (4, .int (nI j_16))] [.int (nI 1)] [(a0, .inr (0, [.ref a1, .ref a2, .int (nI co), .int (nI ro), .int sl])), (a1, .inl (cI, 48, .inl th)), (a2, .inl (cI, 48, .inl ow)), (z0, .inr (8, [.ref g0, .ref a0, .ref f0, .ref s0, .ref k0, .ref v0, .ref d0, .ref y0, .ref m0, .ref o0])), (d0, .inr (3, [.ref d1, .ref d2, .int len, .int en])), (d1, .inl (cI, 8, .inl ce)), (d2, .inl (cI, 8, .inl se))]
      refine J_if_ne h 24 dX8_cure_19 (by decide) (fun _ => ?_) (fun z => absurd z (by decide))
      refine J_aload_n h (i := 0) dX8_cure_24 rfl 0 rfl ?_
      refine J_get h inX8 rfl 3 6 (by decide) rfl rfl nf_X8_48 dX8_cure_25 ?_
      refine J_aload_n h (i := 0) dX8_cure_28 rfl 0 rfl ?_
      refine J_get h inX8 rfl 3 1 (by decide) rfl rfl nf_X8_19 dX8_cure_29 ?_
      refine J_iload_n h (i := 1) dX8_cure_32 rfl 1 rfl ?_
      refine J_iload_n h (i := 2) dX8_cure_33 rfl 2 rfl ?_
      refine J_iload_n h (i := 3) dX8_cure_34 rfl 3 rfl ?_
      refine J.wld [4, 5, 6, 0, 1, 2, 3] (ws' := [(d0, .inr (3, [.ref d1, .ref d2, .int len, .int en])), (d1, .inl (cI, 8, .inl ce)), (d2, .inl (cI, 8, .inl se)), (a0, .inr (0, [.ref a1, .ref a2, .int (nI co), .int (nI ro), .int sl])), (a1, .inl (cI, 48, .inl th)), (a2, .inl (cI, 48, .inl ow)), (z0, .inr (8, [.ref g0, .ref a0, .ref f0, .ref s0, .ref k0, .ref v0, .ref d0, .ref y0, .ref m0, .ref o0]))]) rfl rfl ?_
      refine K_vv h (wr := [(z0, .inr (8, [.ref g0, .ref a0, .ref f0, .ref s0, .ref k0, .ref v0, .ref d0, .ref y0, .ref m0, .ref o0]))]) (c_X3_run (xl X) (xD X) cI cE d0 d1 d2 ce se len en a0 a1 a2 th ow co ro sl jx_4 jw_4 jh_4 (by first | exact hrc |  assumption | omega | rfl) (by first | exact hco |  assumption | omega | rfl) (by first | exact hro |  assumption | omega | rfl) (by first | assumption | omega | rfl) (by first | assumption | omega | rfl) (by first | assumption | omega | rfl)) yv_X3_run nm_X8_134 (by decide) (by decide) rfl rfl 0 rfl rfl rfl rfl (Nat.le_of_ble_eq_true rfl) (Nat.le_refl _) (Nat.le_refl _) dX8_cure_35 (fun u_35 p_35 => ?_)
      obtain ⟨ce2_35, se2_35⟩ := u_35
      try dsimp only at p_35
      obtain ⟨f0_35, f1_35, -⟩ := p_35
      show J X 7 0 0 38 [(0, .ref z0), (1, .int (nI jx_4)), (2, .int (nI jw_4)), (3, .int (nI jh_4)), (4, .int (nI j_16))] [] [(d0, .inr (3, [.ref d1, .ref d2, .int (nI (rln th co ro jh_4 jx_4 jw_4)), .int (nI (ren th co ro jh_4 jx_4 jw_4))])), (d1, .inl (cI, 8, .inl ce2_35)), (d2, .inl (cI, 8, .inl se2_35)), (a0, .inr (0, [.ref a1, .ref a2, .int (nI co), .int (nI ro), .int sl])), (a1, .inl (cI, 48, .inl th)), (a2, .inl (cI, 48, .inl ow)), (z0, .inr (8, [.ref g0, .ref a0, .ref f0, .ref s0, .ref k0, .ref v0, .ref d0, .ref y0, .ref m0, .ref o0]))]
      have hrn := ren_lt th (ro := ro) (hh := jh_4) hrc f0_4 f2_4
      refine J_aload_n h (i := 0) dX8_cure_38 rfl 0 rfl ?_
      refine J_get h inX8 rfl 6 6 (by decide) rfl rfl nf_X8_48 dX8_cure_39 ?_
      refine J_get h inX3 rfl 0 3 (by decide) rfl rfl nf_X8_138 dX8_cure_42 ?_
      refine J_iload h dX8_cure_45 4 rfl ?_
      refine N_icmp_ne h 53 dX8_cure_47 (by decide) (by omega) (by omega) (fun c_47 => ?_) (fun c_47 => ?_)
      · skip
        refine J_iconst h (v := nI 0) dX8_cure_53 (by decide) ?_
        refine J_istore h (lv' := [(5, .int (nI 0)), (0, .ref z0), (1, .int (nI jx_4)), (2, .int (nI jw_4)), (3, .int (nI jh_4)), (4, .int (nI j_16))]) dX8_cure_54 (by decide) rfl ?_
        refine J.wld [6, 3, 4, 5, 0, 1, 2] (ws' := [(z0, .inr (8, [.ref g0, .ref a0, .ref f0, .ref s0, .ref k0, .ref v0, .ref d0, .ref y0, .ref m0, .ref o0])), (a0, .inr (0, [.ref a1, .ref a2, .int (nI co), .int (nI ro), .int sl])), (a1, .inl (cI, 48, .inl th)), (a2, .inl (cI, 48, .inl ow)), (d0, .inr (3, [.ref d1, .ref d2, .int (nI (rln th co ro jh_4 jx_4 jw_4)), .int (nI (ren th co ro jh_4 jx_4 jw_4))])), (d1, .inl (cI, 8, .inl ce2_35)), (d2, .inl (cI, 8, .inl se2_35))]) rfl rfl ?_
        refine J.loc [1, 2, 3, 4, 5, 0] (lv' := [(0, .ref z0), (1, .int (nI jx_4)), (2, .int (nI jw_4)), (3, .int (nI jh_4)), (4, .int (nI j_16)), (5, .int (nI 0))]) rfl ?_
        exact w_X8_cure_56 X h z0 g0 a0 f0 s0 k0 v0 d0 y0 m0 o0 a1 a2 th ow co ro sl d1 d2 ce se len en (nI jx_4) (nI jw_4) (nI jh_4) (nI j_16) hrc hco hro hR  (ro * co - 0 + 1) 0 jx_4 jw_4 jh_4 j_16 ce2_35 se2_35 (nI (rln th co ro jh_4 jx_4 jw_4)) (nI (ren th co ro jh_4 jx_4 jw_4)) (by first | assumption | omega | rfl) (by first | assumption | omega | rfl) (by first | assumption | omega | rfl) (by first | assumption | omega | rfl) (by first | assumption | omega | rfl) (by first | assumption | omega | rfl) (by first | assumption | omega | rfl) (by intro a ha; omega) (by rfl) (by rfl) (by rfl) (by rfl) (by omega)
      · skip
        refine J_bipush h (v := (-4)) dX8_cure_50 (by decide) ?_
        refine J.wld [6, 3, 4, 5, 0, 1, 2] (ws' := [(z0, .inr (8, [.ref g0, .ref a0, .ref f0, .ref s0, .ref k0, .ref v0, .ref d0, .ref y0, .ref m0, .ref o0])), (a0, .inr (0, [.ref a1, .ref a2, .int (nI co), .int (nI ro), .int sl])), (a1, .inl (cI, 48, .inl th)), (a2, .inl (cI, 48, .inl ow)), (d0, .inr (3, [.ref d1, .ref d2, .int (nI (rln th co ro jh_4 jx_4 jw_4)), .int (nI (ren th co ro jh_4 jx_4 jw_4))])), (d1, .inl (cI, 8, .inl ce2_35)), (d2, .inl (cI, 8, .inl se2_35))]) rfl rfl ?_
        exact hR ((-4)) (ce2_35, se2_35, nI (rln th co ro jh_4 jx_4 jw_4), nI (ren th co ro jh_4 jx_4 jw_4)) (⟨(by (try dsimp only); unfold fCure; rw [if_pos ⟨by assumption, cellI (by omega) (by omega)⟩, tnI (by omega), tnI (by omega), tnI (by omega), tnI (by omega), if_pos (by omega)]), trivial⟩) 52 _ dX8_cure_52
    · obtain ⟨rfl, f0_16, -⟩ := p_16
      show J X 7 0 0 19 [(0, .ref z0), (1, .int (nI jx_4)), (2, .int (nI jw_4)), (3, .int (nI jh_4)), (4, .int p3)] [.int (nI 0)] [(a0, .inr (0, [.ref a1, .ref a2, .int (nI co), .int (nI ro), .int sl])), (a1, .inl (cI, 48, .inl th)), (a2, .inl (cI, 48, .inl ow)), (z0, .inr (8, [.ref g0, .ref a0, .ref f0, .ref s0, .ref k0, .ref v0, .ref d0, .ref y0, .ref m0, .ref o0])), (d0, .inr (3, [.ref d1, .ref d2, .int len, .int en])), (d1, .inl (cI, 8, .inl ce)), (d2, .inl (cI, 8, .inl se))]
      refine J_if_ne h 24 dX8_cure_19 (by decide) (fun z => absurd z (by decide)) (fun _ => ?_)
      refine J_iconst h (v := (-1)) dX8_cure_22 (by decide) ?_
      refine J.wld [3, 0, 1, 2, 4, 5, 6] (ws' := [(z0, .inr (8, [.ref g0, .ref a0, .ref f0, .ref s0, .ref k0, .ref v0, .ref d0, .ref y0, .ref m0, .ref o0])), (a0, .inr (0, [.ref a1, .ref a2, .int (nI co), .int (nI ro), .int sl])), (a1, .inl (cI, 48, .inl th)), (a2, .inl (cI, 48, .inl ow)), (d0, .inr (3, [.ref d1, .ref d2, .int len, .int en])), (d1, .inl (cI, 8, .inl ce)), (d2, .inl (cI, 8, .inl se))]) rfl rfl ?_
      exact hR ((-1)) (ce, se, len, en) (⟨(by (try dsimp only); unfold fCure; rw [if_neg (fun q => by have q1 := q.1; have q2 := q.2; first | exact absurd q1 (by assumption) | omega)]), trivial⟩) 23 _ dX8_cure_23
  · obtain ⟨rfl, f0_4, -⟩ := p_4
    show J X 7 0 0 7 [(0, .ref z0), (1, .int p0), (2, .int p1), (3, .int p2), (4, .int p3)] [.int (nI 0)] [(z0, .inr (8, [.ref g0, .ref a0, .ref f0, .ref s0, .ref k0, .ref v0, .ref d0, .ref y0, .ref m0, .ref o0])), (a0, .inr (0, [.ref a1, .ref a2, .int (nI co), .int (nI ro), .int sl])), (a1, .inl (cI, 48, .inl th)), (a2, .inl (cI, 48, .inl ow)), (d0, .inr (3, [.ref d1, .ref d2, .int len, .int en])), (d1, .inl (cI, 8, .inl ce)), (d2, .inl (cI, 8, .inl se))]
    refine J_if_eq h 22 dX8_cure_7 (by decide) (fun _ => ?_) (fun z => absurd z (by decide))
    refine J_iconst h (v := (-1)) dX8_cure_22 (by decide) ?_
    exact hR ((-1)) (ce, se, len, en) (⟨(by (try dsimp only); unfold fCure; rw [if_neg (fun q => by have q1 := q.1; have q2 := q.2; first | exact absurd q1 (by assumption) | omega)]), trivial⟩) 23 _ dX8_cure_23
theorem c_X8_cure (l : Launch) (D : va_G) (cI cE : ClassId) (z0 : Nat) (g0 : Nat) (a0 : Nat) (f0 : Nat) (s0 : Nat) (k0 : Nat) (v0 : Nat) (d0 : Nat) (y0 : Nat) (m0 : Nat) (o0 : Nat) (a1 : Nat) (a2 : Nat) (th : Nat → Int32) (ow : Nat → Int32) (co : Nat) (ro : Nat) (sl : Int32) (d1 : Nat) (d2 : Nat) (ce : Nat → Int32) (se : Nat → Int32) (len : Int32) (en : Int32) (p0 : Int32) (p1 : Int32) (p2 : Int32) (p3 : Int32) (hrc : ro * co ≤ 48) (hco : co ≤ 6) (hro : ro ≤ 8) : Ci l D cI cE yX8_cure cX8_cure 7 (some .int) 4 0 0 [.ref z0, .int p0, .int p1, .int p2, .int p3] [(z0, .inr (8, [.ref g0, .ref a0, .ref f0, .ref s0, .ref k0, .ref v0, .ref d0, .ref y0, .ref m0, .ref o0])), (a0, .inr (0, [.ref a1, .ref a2, .int (nI co), .int (nI ro), .int sl])), (a1, .inl (cI, 48, .inl th)), (a2, .inl (cI, 48, .inl ow)), (d0, .inr (3, [.ref d1, .ref d2, .int len, .int en])), (d1, .inl (cI, 8, .inl ce)), (d2, .inl (cI, 8, .inl se))] (fun (r : Int32) (u : (Nat → Int32) × (Nat → Int32) × (Int32) × (Int32)) => ((fCure th co ro p0 p1 p2 p3 = r) ∧ (True))) (fun (u : (Nat → Int32) × (Nat → Int32) × (Int32) × (Int32)) => ([(z0, .inr (8, [.ref g0, .ref a0, .ref f0, .ref s0, .ref k0, .ref v0, .ref d0, .ref y0, .ref m0, .ref o0])), (a0, .inr (0, [.ref a1, .ref a2, .int (nI co), .int (nI ro), .int sl])), (a1, .inl (cI, 48, .inl th)), (a2, .inl (cI, 48, .inl ow)), (d0, .inr (3, [.ref d1, .ref d2, .int u.2.2.1, .int u.2.2.2])), (d1, .inl (cI, 8, .inl u.1)), (d2, .inl (cI, 8, .inl u.2.1))] : va_W)) :=
  Ci.of (by decide) (Nat.le_of_ble_eq_true rfl) (fun _ _ _ => rfl) (fun X h hR => w_X8_cure X h z0 g0 a0 f0 s0 k0 v0 d0 y0 m0 o0 a1 a2 th ow co ro sl d1 d2 ce se len en p0 p1 p2 p3 hrc hco hro hR)
theorem yv_X8_cure : YV yX8_cure cX8_cure 7 (some .int) 4 := ⟨no_X8_cure, nv_X8_cure, ni_X8, nk_X8_cure, by decide +kernel⟩
