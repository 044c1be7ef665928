set_option maxRecDepth 100000 in
set_option maxHeartbeats 4000000 in
theorem w_X1_markPieceS_36 (X : Cx) {cI cE : ClassId} (h : Ok X cX1_markPiece RX1 8 cI cE 2 0 0) (m0 : Nat) (m1 : Nat) (m2 : Nat) (mk : Nat → Int32) (wg : Nat → Int32) (wn : Int32) (a0 : Nat) (a1 : Nat) (a2 : Nat) (th : Nat → Int32) (ow : Nat → Int32) (co : Nat) (ro : Nat) (sl : Int32) (p0 : Int32) (p1 : Nat) (hrc : ro * co ≤ 48) (hc0 : 0 < co) (hp1 : p1 < ro * co) (ho1 : ow p1 = p0) (hm1 : ¬ MKd mk p1) (hcl : ∀ c b, eG ow p0 co ro c b → MKd mk c → MKd mk b) (hown : ∀ c, c < ro * co → MKd mk c → ow c = p0) (hR : ∀ (u : (Nat → Int32) × (Nat → Int32) × (Nat)), ((∀ c, c < ro * co → (MKd u.1 c ↔ (MKd mk c ∨ cnn (eG ow p0 co ro) p1 c))) ∧ (True)) → RetV X cX1_markPiece 8 0 0 [(m0, .inr (1, [.ref m1, .ref m2, .int (nI u.2.2)])), (m1, .inl (cI, 48, .inl u.1)), (m2, .inl (cI, 48, .inl u.2.1)), (a0, .inr (0, [.ref a1, .ref a2, .int (nI co), .int (nI ro), .int sl])), (a1, .inl (cI, 48, .inl th)), (a2, .inl (cI, 48, .inl ow))]) (n_13 : Nat) (ih_13 : ∀ (t : Nat) (mk1 : Nat → Int32) (wg1 : Nat → Int32) (wn1 : Nat), (t ≤ 48) → (wn1 ≤ 48) → (MI ow p0 co ro p1 mk mk1 wg1 wn1) → (MD ow p0 co ro mk1 wg1 wn1) → (EqN (MC (ro * co) mk mk1) (t + wn1)) → 48 - t < n_13 → J X 8 0 0 13 [(0, .ref m0), (1, .ref a0), (2, .int p0), (4, .int (nI t))] [] [(m0, .inr (1, [.ref m1, .ref m2, .int (nI wn1)])), (m1, .inl (cI, 48, .inl mk1)), (m2, .inl (cI, 48, .inl wg1)), (a0, .inr (0, [.ref a1, .ref a2, .int (nI co), .int (nI ro), .int sl])), (a1, .inl (cI, 48, .inl th)), (a2, .inl (cI, 48, .inl ow))]) : ∀ (n_36 : Nat) (t : Nat) (c : Nat) (dr : Nat) (mk1 : Nat → Int32) (wg1 : Nat → Int32) (wn1 : Nat), (t < 48) → (wn1 ≤ 48) → (c < ro * co) → (MKd mk1 c) → (dr ≤ 4) → (MI ow p0 co ro p1 mk mk1 wg1 wn1) → (MD2 ow p0 co ro c dr mk1 wg1 wn1) → (EqN (MC (ro * co) mk mk1) (t + 1 + wn1)) → (ow c = p0) → (48 - t < n_13 + 1) → 4 - dr < n_36 → J X 8 0 0 36 [(0, .ref m0), (1, .ref a0), (2, .int p0), (4, .int (nI t)), (5, .int (nI c)), (6, .int (nI dr))] [] [(m0, .inr (1, [.ref m1, .ref m2, .int (nI wn1)])), (m1, .inl (cI, 48, .inl mk1)), (m2, .inl (cI, 48, .inl wg1)), (a0, .inr (0, [.ref a1, .ref a2, .int (nI co), .int (nI ro), .int sl])), (a1, .inl (cI, 48, .inl th)), (a2, .inl (cI, 48, .inl ow))] := by
  intro n_36
  induction n_36 with
  | zero => intro t c dr mk1 wg1 wn1 ht hwn hc hmc hd hI hD2 hC hoc hm hn_; exact absurd hn_ (Nat.not_lt_zero _)
  | succ n_36 ih_36 =>
    intro t c dr mk1 wg1 wn1 ht hwn hc hmc hd hI hD2 hC hoc hm hn_36
    refine J_iload h dX1_markPiece_36 5 rfl ?_
    refine J_iconst h (v := nI 4) dX1_markPiece_38 (by decide) ?_
    refine N_icmp_ge h 90 dX1_markPiece_39 (by decide) (by omega) (by omega) (fun c_39 => ?_) (fun c_39 => ?_)
    · skip
      refine J_iinc h (v := nI (t + 1)) (lv' := [(4, .int (nI (t + 1))), (0, .ref m0), (1, .ref a0), (2, .int p0), (5, .int (nI c)), (6, .int (nI dr))]) dX1_markPiece_90 3 rfl (inc_ok _ 1) (by decide) rfl ?_
      refine J_goto h 13 dX1_markPiece_93 (by decide) ?_
      refine J.loc [1, 2, 3, 0] (lv' := [(0, .ref m0), (1, .ref a0), (2, .int p0), (4, .int (nI (t + 1)))]) rfl ?_
      exact ih_13 (t + 1) mk1 wg1 wn1 (by first | exact ht |  assumption | omega | rfl) (by first | exact hwn |  assumption | omega | rfl) (by exact hI) (by exact mp_done hc0 (by omega) hD2) (by exact hC) (by omega)
    · skip
      refine J_aload_n h (i := 1) dX1_markPiece_42 rfl 1 rfl ?_
      refine J_iload h dX1_markPiece_43 4 rfl ?_
      refine J_iload h dX1_markPiece_45 5 rfl ?_
      refine J.wld [3, 4, 5, 0, 1, 2] (ws' := [(a0, .inr (0, [.ref a1, .ref a2, .int (nI co), .int (nI ro), .int sl])), (a1, .inl (cI, 48, .inl th)), (a2, .inl (cI, 48, .inl ow)), (m0, .inr (1, [.ref m1, .ref m2, .int (nI wn1)])), (m1, .inl (cI, 48, .inl mk1)), (m2, .inl (cI, 48, .inl wg1))]) rfl rfl ?_
      refine K_vi h (wr := [(m0, .inr (1, [.ref m1, .ref m2, .int (nI wn1)])), (m1, .inl (cI, 48, .inl mk1)), (m2, .inl (cI, 48, .inl wg1))]) (c_X0_beside (xl X) (xD X) cI cE a0 a1 a2 th ow co ro sl c dr (by first | exact hrc |  assumption | omega | rfl) (by first | assumption | omega | rfl) (by first | exact hp1 |  assumption | omega | rfl)) yv_X0_beside nm_X1_49 (by decide) (by decide) rfl rfl 0 rfl rfl rfl rfl (Nat.le_of_ble_eq_true rfl) (Nat.le_refl _) (Nat.le_refl _) dX1_markPiece_47 (fun r_47 u_47 p_47 => ?_)
      rcases p_47 with p_47 | p_47
      · obtain ⟨k_47, rfl, f0_47, f1_47, -⟩ := p_47
        show J X 8 0 0 50 [(0, .ref m0), (1, .ref a0), (2, .int p0), (4, .int (nI t)), (5, .int (nI c)), (6, .int (nI dr))] [.int (nI k_47)] [(a0, .inr (0, [.ref a1, .ref a2, .int (nI co), .int (nI ro), .int sl])), (a1, .inl (cI, 48, .inl th)), (a2, .inl (cI, 48, .inl ow)), (m0, .inr (1, [.ref m1, .ref m2, .int (nI wn1)])), (m1, .inl (cI, 48, .inl mk1)), (m2, .inl (cI, 48, .inl wg1))]
        refine J_istore h (lv' := [(7, .int (nI k_47)), (0, .ref m0), (1, .ref a0), (2, .int p0), (4, .int (nI t)), (5, .int (nI c)), (6, .int (nI dr))]) dX1_markPiece_50 (by decide) rfl ?_
        refine J_iload h dX1_markPiece_52 0 rfl ?_
        refine J_bipush h (v := (-4)) dX1_markPiece_54 (by decide) ?_
        refine T_icmp_eq h (A := ((k_47 : Nat) : Int)) (B := (-4)) 84 dX1_markPiece_56 (by decide) (nI_toInt (by omega)) (by decide) (fun c_56 => absurd c_56 (by omega)) (fun c_56 => ?_)
        refine J_aload_n h (i := 1) dX1_markPiece_59 rfl 2 rfl ?_
        refine J_iload h dX1_markPiece_60 0 rfl ?_
        refine K_vi h (wr := [(m0, .inr (1, [.ref m1, .ref m2, .int (nI wn1)])), (m1, .inl (cI, 48, .inl mk1)), (m2, .inl (cI, 48, .inl wg1))]) (c_X0_ownerOf (xl X) (xD X) cI cE a0 a1 a2 th ow co ro sl k_47 (by first | exact hrc |  assumption | omega | rfl) (by first | assumption | omega | rfl)) yv_X0_ownerOf nm_X1_32 (by decide) (by decide) rfl rfl 0 rfl rfl rfl rfl (Nat.le_of_ble_eq_true rfl) (Nat.le_refl _) (Nat.le_refl _) dX1_markPiece_62 (fun r_62 u_62 p_62 => ?_)
        obtain ⟨rfl, -⟩ := p_62
        show J X 8 0 0 65 [(7, .int (nI k_47)), (0, .ref m0), (1, .ref a0), (2, .int p0), (4, .int (nI t)), (5, .int (nI c)), (6, .int (nI dr))] [.int (ow k_47)] [(a0, .inr (0, [.ref a1, .ref a2, .int (nI co), .int (nI ro), .int sl])), (a1, .inl (cI, 48, .inl th)), (a2, .inl (cI, 48, .inl ow)), (m0, .inr (1, [.ref m1, .ref m2, .int (nI wn1)])), (m1, .inl (cI, 48, .inl mk1)), (m2, .inl (cI, 48, .inl wg1))]
        refine J_iload_n h (i := 2) dX1_markPiece_65 rfl 3 rfl ?_
        refine J_icmp_ne h 84 dX1_markPiece_66 (by decide) (fun c_66 => ?_) (fun c_66 => ?_)
        · skip
          refine J_iinc h (v := nI (dr + 1)) (lv' := [(6, .int (nI (dr + 1))), (7, .int (nI k_47)), (0, .ref m0), (1, .ref a0), (2, .int p0), (4, .int (nI t)), (5, .int (nI c))]) dX1_markPiece_84 6 rfl (inc_ok _ 1) (by decide) rfl ?_
          refine J_goto h 36 dX1_markPiece_87 (by decide) ?_
          refine J.wld [3, 4, 5, 0, 1, 2] (ws' := [(m0, .inr (1, [.ref m1, .ref m2, .int (nI wn1)])), (m1, .inl (cI, 48, .inl mk1)), (m2, .inl (cI, 48, .inl wg1)), (a0, .inr (0, [.ref a1, .ref a2, .int (nI co), .int (nI ro), .int sl])), (a1, .inl (cI, 48, .inl th)), (a2, .inl (cI, 48, .inl ow))]) rfl rfl ?_
          refine J.loc [2, 3, 4, 5, 6, 0] (lv' := [(0, .ref m0), (1, .ref a0), (2, .int p0), (4, .int (nI t)), (5, .int (nI c)), (6, .int (nI (dr + 1)))]) rfl ?_
          exact ih_36 t c (dr + 1) mk1 wg1 wn1 (by first | exact ht |  assumption | omega | rfl) (by first | exact hwn |  assumption | omega | rfl) (by first | exact hc |  assumption | omega | rfl) (by first | exact hmc | exact mk_up.mpr (Or.inr hmc)) (by first | exact hd |  assumption | omega | rfl) (by first | exact hI | exact hpu.1) (by first | exact hpu.2.1 | exact mp_stay hD2 (fun b hb ho => by rw [f0_47] at hb; cases hb; first | exact absurd ho c_66 | exact c_75) | exact mp_stay hD2 (fun b hb ho => by rw [f0_47] at hb; cases hb)) (by first | exact hC | exact .mk (by have e1 := hC.eq; have e2 := hpu.2.2; omega)) (by exact hoc) (by first | exact hm |  assumption | omega | rfl) (by omega)
        · skip
          refine J_aload_n h (i := 0) dX1_markPiece_69 rfl 1 rfl ?_
          refine J_iload h dX1_markPiece_70 0 rfl ?_
          refine J.wld [3, 4, 5, 0, 1, 2] (ws' := [(m0, .inr (1, [.ref m1, .ref m2, .int (nI wn1)])), (m1, .inl (cI, 48, .inl mk1)), (m2, .inl (cI, 48, .inl wg1)), (a0, .inr (0, [.ref a1, .ref a2, .int (nI co), .int (nI ro), .int sl])), (a1, .inl (cI, 48, .inl th)), (a2, .inl (cI, 48, .inl ow))]) rfl rfl ?_
          refine K_vi h (wr := [(a0, .inr (0, [.ref a1, .ref a2, .int (nI co), .int (nI ro), .int sl])), (a1, .inl (cI, 48, .inl th)), (a2, .inl (cI, 48, .inl ow))]) (c_X1_markOf (xl X) (xD X) cI cE m0 m1 m2 mk1 wg1 (nI wn1) k_47 (by first | assumption | omega | rfl)) yv_X1_markOf nm_X1_36 (by decide) (by decide) rfl rfl 0 rfl rfl rfl rfl (Nat.le_of_ble_eq_true rfl) (Nat.le_refl _) (Nat.le_refl _) dX1_markPiece_72 (fun r_72 u_72 p_72 => ?_)
          obtain ⟨rfl, -⟩ := p_72
          show J X 8 0 0 75 [(7, .int (nI k_47)), (0, .ref m0), (1, .ref a0), (2, .int p0), (4, .int (nI t)), (5, .int (nI c)), (6, .int (nI dr))] [.int (mk1 k_47)] [(m0, .inr (1, [.ref m1, .ref m2, .int (nI wn1)])), (m1, .inl (cI, 48, .inl mk1)), (m2, .inl (cI, 48, .inl wg1)), (a0, .inr (0, [.ref a1, .ref a2, .int (nI co), .int (nI ro), .int sl])), (a1, .inl (cI, 48, .inl th)), (a2, .inl (cI, 48, .inl ow))]
          refine T_if_ne h (A := (mk1 k_47).toInt) 84 dX1_markPiece_75 (by decide) (rfl) (fun c_75 => ?_) (fun c_75 => ?_)
          · skip
            refine J_iinc h (v := nI (dr + 1)) (lv' := [(6, .int (nI (dr + 1))), (7, .int (nI k_47)), (0, .ref m0), (1, .ref a0), (2, .int p0), (4, .int (nI t)), (5, .int (nI c))]) dX1_markPiece_84 6 rfl (inc_ok _ 1) (by decide) rfl ?_
            refine J_goto h 36 dX1_markPiece_87 (by decide) ?_
            refine J.loc [2, 3, 4, 5, 6, 0] (lv' := [(0, .ref m0), (1, .ref a0), (2, .int p0), (4, .int (nI t)), (5, .int (nI c)), (6, .int (nI (dr + 1)))]) rfl ?_
            exact ih_36 t c (dr + 1) mk1 wg1 wn1 (by first | exact ht |  assumption | omega | rfl) (by first | exact hwn |  assumption | omega | rfl) (by first | exact hc |  assumption | omega | rfl) (by first | exact hmc | exact mk_up.mpr (Or.inr hmc)) (by first | exact hd |  assumption | omega | rfl) (by first | exact hI | exact hpu.1) (by first | exact hpu.2.1 | exact mp_stay hD2 (fun b hb ho => by rw [f0_47] at hb; cases hb; first | exact absurd ho c_66 | exact c_75) | exact mp_stay hD2 (fun b hb ho => by rw [f0_47] at hb; cases hb)) (by first | exact hC | exact .mk (by have e1 := hC.eq; have e2 := hpu.2.2; omega)) (by exact hoc) (by first | exact hm |  assumption | omega | rfl) (by omega)
          · skip
            refine J_aload_n h (i := 0) dX1_markPiece_78 rfl 1 rfl ?_
            refine J_iload h dX1_markPiece_79 0 rfl ?_
            have hlt48 : wn1 < 48 := by have e1 := hC.eq; have e2 := cntP_lt (p := fun c => decide (MKd mk1 c ∧ ¬ MKd mk c)) f1_47 (decide_eq_false (fun z => z.1 c_75)); have e3 : MC (ro * co) mk mk1 < ro * co := e2; omega
            refine K_vv h (wr := [(a0, .inr (0, [.ref a1, .ref a2, .int (nI co), .int (nI ro), .int sl])), (a1, .inl (cI, 48, .inl th)), (a2, .inl (cI, 48, .inl ow))]) (c_X1_await (xl X) (xD X) cI cE m0 m1 m2 mk1 wg1 wn1 k_47 (by first | assumption | omega | rfl) (by first | exact hwn |  assumption | omega | rfl)) yv_X1_await nm_X1_43 (by decide) (by decide) rfl rfl 0 rfl rfl rfl rfl (Nat.le_of_ble_eq_true rfl) (Nat.le_refl _) (Nat.le_refl _) dX1_markPiece_81 (fun u_81 p_81 => ?_)
            obtain ⟨mk2_81, wg2_81, wn2_81⟩ := u_81
            try dsimp only at p_81
            rcases p_81 with p_81 | p_81
            · obtain ⟨f0_81, rfl, rfl, rfl, -⟩ := p_81
              show J X 8 0 0 84 [(7, .int (nI k_47)), (0, .ref m0), (1, .ref a0), (2, .int p0), (4, .int (nI t)), (5, .int (nI c)), (6, .int (nI dr))] [] [(m0, .inr (1, [.ref m1, .ref m2, .int (nI (wn1 + 1))])), (m1, .inl (cI, 48, .inl ((upd mk1 k_47 (nI 1))))), (m2, .inl (cI, 48, .inl ((upd wg1 wn1 (nI k_47))))), (a0, .inr (0, [.ref a1, .ref a2, .int (nI co), .int (nI ro), .int sl])), (a1, .inl (cI, 48, .inl th)), (a2, .inl (cI, 48, .inl ow))]
              have hpu := mp_push hc0 hc f1_47 c_66 hoc (hI.2.2.1 c hc hmc) hcl f0_47 (by omega) (fun z => z c_75) hI hD2
              refine J_iinc h (v := nI (dr + 1)) (lv' := [(6, .int (nI (dr + 1))), (7, .int (nI k_47)), (0, .ref m0), (1, .ref a0), (2, .int p0), (4, .int (nI t)), (5, .int (nI c))]) dX1_markPiece_84 6 rfl (inc_ok _ 1) (by decide) rfl ?_
              refine J_goto h 36 dX1_markPiece_87 (by decide) ?_
              refine J.loc [2, 3, 4, 5, 6, 0] (lv' := [(0, .ref m0), (1, .ref a0), (2, .int p0), (4, .int (nI t)), (5, .int (nI c)), (6, .int (nI (dr + 1)))]) rfl ?_
              exact ih_36 t c (dr + 1) (upd mk1 k_47 (nI 1)) (upd wg1 wn1 (nI k_47)) (wn1 + 1) (by first | exact ht |  assumption | omega | rfl) (by first | exact hwn |  assumption | omega | rfl) (by first | exact hc |  assumption | omega | rfl) (by first | exact hmc | exact mk_up.mpr (Or.inr hmc)) (by first | exact hd |  assumption | omega | rfl) (by first | exact hI | exact hpu.1) (by first | exact hpu.2.1 | exact mp_stay hD2 (fun b hb ho => by rw [f0_47] at hb; cases hb; first | exact absurd ho c_66 | exact c_75) | exact mp_stay hD2 (fun b hb ho => by rw [f0_47] at hb; cases hb)) (by first | exact hC | exact .mk (by have e1 := hC.eq; have e2 := hpu.2.2; omega)) (by exact hoc) (by first | exact hm |  assumption | omega | rfl) (by omega)
            · obtain ⟨f0_81, rfl, rfl, rfl, -⟩ := p_81
              exact absurd f0_81 (by omega)
      · obtain ⟨rfl, f0_47, -⟩ := p_47
        show J X 8 0 0 50 [(0, .ref m0), (1, .ref a0), (2, .int p0), (4, .int (nI t)), (5, .int (nI c)), (6, .int (nI dr))] [.int (-4)] [(a0, .inr (0, [.ref a1, .ref a2, .int (nI co), .int (nI ro), .int sl])), (a1, .inl (cI, 48, .inl th)), (a2, .inl (cI, 48, .inl ow)), (m0, .inr (1, [.ref m1, .ref m2, .int (nI wn1)])), (m1, .inl (cI, 48, .inl mk1)), (m2, .inl (cI, 48, .inl wg1))]
        refine J_istore h (lv' := [(7, .int (-4)), (0, .ref m0), (1, .ref a0), (2, .int p0), (4, .int (nI t)), (5, .int (nI c)), (6, .int (nI dr))]) dX1_markPiece_50 (by decide) rfl ?_
        refine J_iload h dX1_markPiece_52 0 rfl ?_
        refine J_bipush h (v := (-4)) dX1_markPiece_54 (by decide) ?_
        refine T_icmp_eq h (A := (-4)) (B := (-4)) 84 dX1_markPiece_56 (by decide) (by decide) (by decide) (fun c_56 => ?_) (fun c_56 => absurd c_56 (by omega))
        refine J_iinc h (v := nI (dr + 1)) (lv' := [(6, .int (nI (dr + 1))), (7, .int (-4)), (0, .ref m0), (1, .ref a0), (2, .int p0), (4, .int (nI t)), (5, .int (nI c))]) dX1_markPiece_84 6 rfl (inc_ok _ 1) (by decide) rfl ?_
        refine J_goto h 36 dX1_markPiece_87 (by decide) ?_
        refine J.wld [3, 4, 5, 0, 1, 2] (ws' := [(m0, .inr (1, [.ref m1, .ref m2, .int (nI wn1)])), (m1, .inl (cI, 48, .inl mk1)), (m2, .inl (cI, 48, .inl wg1)), (a0, .inr (0, [.ref a1, .ref a2, .int (nI co), .int (nI ro), .int sl])), (a1, .inl (cI, 48, .inl th)), (a2, .inl (cI, 48, .inl ow))]) rfl rfl ?_
        refine J.loc [2, 3, 4, 5, 6, 0] (lv' := [(0, .ref m0), (1, .ref a0), (2, .int p0), (4, .int (nI t)), (5, .int (nI c)), (6, .int (nI (dr + 1)))]) rfl ?_
        exact ih_36 t c (dr + 1) mk1 wg1 wn1 (by first | exact ht |  assumption | omega | rfl) (by first | exact hwn |  assumption | omega | rfl) (by first | exact hc |  assumption | omega | rfl) (by first | exact hmc | exact mk_up.mpr (Or.inr hmc)) (by first | exact hd |  assumption | omega | rfl) (by first | exact hI | exact hpu.1) (by first | exact hpu.2.1 | exact mp_stay hD2 (fun b hb ho => by rw [f0_47] at hb; cases hb; first | exact absurd ho c_66 | exact c_75) | exact mp_stay hD2 (fun b hb ho => by rw [f0_47] at hb; cases hb)) (by first | exact hC | exact .mk (by have e1 := hC.eq; have e2 := hpu.2.2; omega)) (by exact hoc) (by first | exact hm |  assumption | omega | rfl) (by omega)
set_option maxRecDepth 100000 in
set_option maxHeartbeats 4000000 in
theorem w_X1_markPieceS_13 (X : Cx) {cI cE : ClassId} (h : Ok X cX1_markPiece RX1 8 cI cE 2 0 0) (m0 : Nat) (m1 : Nat) (m2 : Nat) (mk : Nat → Int32) (wg : Nat → Int32) (wn : Int32) (a0 : Nat) (a1 : Nat) (a2 : Nat) (th : Nat → Int32) (ow : Nat → Int32) (co : Nat) (ro : Nat) (sl : Int32) (p0 : Int32) (p1 : Nat) (hrc : ro * co ≤ 48) (hc0 : 0 < co) (hp1 : p1 < ro * co) (ho1 : ow p1 = p0) (hm1 : ¬ MKd mk p1) (hcl : ∀ c b, eG ow p0 co ro c b → MKd mk c → MKd mk b) (hown : ∀ c, c < ro * co → MKd mk c → ow c = p0) (hR : ∀ (u : (Nat → Int32) × (Nat → Int32) × (Nat)), ((∀ c, c < ro * co → (MKd u.1 c ↔ (MKd mk c ∨ cnn (eG ow p0 co ro) p1 c))) ∧ (True)) → RetV X cX1_markPiece 8 0 0 [(m0, .inr (1, [.ref m1, .ref m2, .int (nI u.2.2)])), (m1, .inl (cI, 48, .inl u.1)), (m2, .inl (cI, 48, .inl u.2.1)), (a0, .inr (0, [.ref a1, .ref a2, .int (nI co), .int (nI ro), .int sl])), (a1, .inl (cI, 48, .inl th)), (a2, .inl (cI, 48, .inl ow))]) : ∀ (n_13 : Nat) (t : Nat) (mk1 : Nat → Int32) (wg1 : Nat → Int32) (wn1 : Nat), (t ≤ 48) → (wn1 ≤ 48) → (MI ow p0 co ro p1 mk mk1 wg1 wn1) → (MD ow p0 co ro mk1 wg1 wn1) → (EqN (MC (ro * co) mk mk1) (t + wn1)) → 48 - t < n_13 → J X 8 0 0 13 [(0, .ref m0), (1, .ref a0), (2, .int p0), (4, .int (nI t))] [] [(m0, .inr (1, [.ref m1, .ref m2, .int (nI wn1)])), (m1, .inl (cI, 48, .inl mk1)), (m2, .inl (cI, 48, .inl wg1)), (a0, .inr (0, [.ref a1, .ref a2, .int (nI co), .int (nI ro), .int sl])), (a1, .inl (cI, 48, .inl th)), (a2, .inl (cI, 48, .inl ow))] := by
  intro n_13
  induction n_13 with
  | zero => intro t mk1 wg1 wn1 ht hwn hI hD hC hn_; exact absurd hn_ (Nat.not_lt_zero _)
  | succ n_13 ih_13 =>
    intro t mk1 wg1 wn1 ht hwn hI hD hC hn_13
    refine J_iload h dX1_markPiece_13 3 rfl ?_
    refine J_bipush h (v := nI 48) dX1_markPiece_15 (by decide) ?_
    refine N_icmp_ge h 96 dX1_markPiece_17 (by decide) (by omega) (by omega) (fun c_17 => ?_) (fun c_17 => ?_)
    · skip
      exact hR (mk1, wg1, wn1) (⟨(by have hw0 : wn1 = 0 := (by have e1 := hC.eq; have e2 : MC (ro * co) mk mk1 ≤ ro * co := cntP_le _ _; omega); rw [hw0] at hI hD; exact mp_end hI hD), trivial⟩) 96 _ dX1_markPiece_96
    · skip
      refine J_aload_n h (i := 0) dX1_markPiece_20 rfl 0 rfl ?_
      refine J_get h inX1 rfl 0 2 (by decide) rfl rfl nf_X1_18 dX1_markPiece_21 ?_
      refine N_if_le h 96 dX1_markPiece_24 (by decide) (by omega) (fun c_24 => ?_) (fun c_24 => ?_)
      · skip
        exact hR (mk1, wg1, wn1) (⟨(by have hw0 : wn1 = 0 := (by have e1 := hC.eq; have e2 : MC (ro * co) mk mk1 ≤ ro * co := cntP_le _ _; omega); rw [hw0] at hI hD; exact mp_end hI hD), trivial⟩) 96 _ dX1_markPiece_96
      · skip
        refine J_aload_n h (i := 0) dX1_markPiece_27 rfl 0 rfl ?_
        refine K_vi h (wr := [(a0, .inr (0, [.ref a1, .ref a2, .int (nI co), .int (nI ro), .int sl])), (a1, .inl (cI, 48, .inl th)), (a2, .inl (cI, 48, .inl ow))]) (c_X1_nextWaiting (xl X) (xD X) cI cE m0 m1 m2 mk1 wg1 wn1 (by first | assumption | omega | rfl) (by first | exact hwn |  assumption | omega | rfl)) yv_X1_nextWaiting nm_X1_46 (by decide) (by decide) rfl rfl 0 rfl rfl rfl rfl (Nat.le_of_ble_eq_true rfl) (Nat.le_refl _) (Nat.le_refl _) dX1_markPiece_28 (fun r_28 u_28 p_28 => ?_)
        obtain ⟨rfl, -⟩ := p_28
        show J X 8 0 0 31 [(0, .ref m0), (1, .ref a0), (2, .int p0), (4, .int (nI t))] [.int (wg1 (wn1 - 1))] [(m0, .inr (1, [.ref m1, .ref m2, .int (nI (wn1 - 1))])), (m1, .inl (cI, 48, .inl mk1)), (m2, .inl (cI, 48, .inl wg1)), (a0, .inr (0, [.ref a1, .ref a2, .int (nI co), .int (nI ro), .int sl])), (a1, .inl (cI, 48, .inl th)), (a2, .inl (cI, 48, .inl ow))]
        obtain ⟨cj, hcj, hcl1, hcm⟩ := hI.1 (wn1 - 1) (by omega)
        have hoc1 : ow cj = p0 := by rcases hI.2.2.1 cj hcl1 hcm with z | ⟨z, hz⟩; exact hown cj hcl1 z; exact cnn_own ho1 z cj hz
        refine J_eqs (st' := [.int (nI cj)]) (by rw [hcj]) ?_
        refine J_istore h (lv' := [(5, .int (nI cj)), (0, .ref m0), (1, .ref a0), (2, .int p0), (4, .int (nI t))]) dX1_markPiece_31 (by decide) rfl ?_
        refine J_iconst h (v := nI 0) dX1_markPiece_33 (by decide) ?_
        refine J_istore h (lv' := [(6, .int (nI 0)), (5, .int (nI cj)), (0, .ref m0), (1, .ref a0), (2, .int p0), (4, .int (nI t))]) dX1_markPiece_34 (by decide) rfl ?_
        refine J.loc [2, 3, 4, 5, 1, 0] (lv' := [(0, .ref m0), (1, .ref a0), (2, .int p0), (4, .int (nI t)), (5, .int (nI cj)), (6, .int (nI 0))]) rfl ?_
        exact w_X1_markPieceS_36 X h m0 m1 m2 mk wg wn a0 a1 a2 th ow co ro sl p0 p1 hrc hc0 hp1 ho1 hm1 hcl hown hR n_13 ih_13 (4 - 0 + 1) t cj 0 mk1 wg1 (wn1 - 1) (by first | exact ht |  assumption | omega | rfl) (by first | exact hwn |  assumption | omega | rfl) (by first | assumption | omega | rfl) (by exact hcm) (by first | assumption | omega | rfl) (by exact (mp_pop hrc hcl1 (by omega) hcj hI hD).1) (by exact (mp_pop hrc hcl1 (by omega) hcj hI hD).2) (by exact .mk (by have := hC.eq; omega)) (by exact hoc1) (by first | assumption | omega | rfl) (by omega)
set_option maxRecDepth 100000 in
set_option maxHeartbeats 4000000 in
theorem w_X1_markPieceS (X : Cx) {cI cE : ClassId} (h : Ok X cX1_markPiece RX1 8 cI cE 2 0 0) (m0 : Nat) (m1 : Nat) (m2 : Nat) (mk : Nat → Int32) (wg : Nat → Int32) (wn : Int32) (a0 : Nat) (a1 : Nat) (a2 : Nat) (th : Nat → Int32) (ow : Nat → Int32) (co : Nat) (ro : Nat) (sl : Int32) (p0 : Int32) (p1 : Nat) (hrc : ro * co ≤ 48) (hc0 : 0 < co) (hp1 : p1 < ro * co) (ho1 : ow p1 = p0) (hm1 : ¬ MKd mk p1) (hcl : ∀ c b, eG ow p0 co ro c b → MKd mk c → MKd mk b) (hown : ∀ c, c < ro * co → MKd mk c → ow c = p0) (hR : ∀ (u : (Nat → Int32) × (Nat → Int32) × (Nat)), ((∀ c, c < ro * co → (MKd u.1 c ↔ (MKd mk c ∨ cnn (eG ow p0 co ro) p1 c))) ∧ (True)) → RetV X cX1_markPiece 8 0 0 [(m0, .inr (1, [.ref m1, .ref m2, .int (nI u.2.2)])), (m1, .inl (cI, 48, .inl u.1)), (m2, .inl (cI, 48, .inl u.2.1)), (a0, .inr (0, [.ref a1, .ref a2, .int (nI co), .int (nI ro), .int sl])), (a1, .inl (cI, 48, .inl th)), (a2, .inl (cI, 48, .inl ow))]) : J X 8 0 0 0 [(0, .ref m0), (1, .ref a0), (2, .int p0), (3, .int (nI p1))] [] [(m0, .inr (1, [.ref m1, .ref m2, .int wn])), (m1, .inl (cI, 48, .inl mk)), (m2, .inl (cI, 48, .inl wg)), (a0, .inr (0, [.ref a1, .ref a2, .int (nI co), .int (nI ro), .int sl])), (a1, .inl (cI, 48, .inl th)), (a2, .inl (cI, 48, .inl ow))] := by
  refine J_aload_n h (i := 0) dX1_markPiece_0 rfl 0 rfl ?_
  refine J_iconst h (v := nI 0) dX1_markPiece_1 (by decide) ?_
  refine J_put h (ws' := [(m0, .inr (1, [.ref m1, .ref m2, .int (nI 0)])), (m1, .inl (cI, 48, .inl mk)), (m2, .inl (cI, 48, .inl wg)), (a0, .inr (0, [.ref a1, .ref a2, .int (nI co), .int (nI ro), .int sl])), (a1, .inl (cI, 48, .inl th)), (a2, .inl (cI, 48, .inl ow))]) inX1 tyX1 tyX1_ok nmX1 rfl 0 2 (by decide) rfl nf_X1_18 rfl rfl rfl rfl (Nat.le_of_ble_eq_true rfl) dX1_markPiece_2 rfl ?_
  refine J_aload_n h (i := 0) dX1_markPiece_5 rfl 0 rfl ?_
  refine J_iload_n h (i := 3) dX1_markPiece_6 rfl 3 rfl ?_
  refine K_vv h (wr := [(a0, .inr (0, [.ref a1, .ref a2, .int (nI co), .int (nI ro), .int sl])), (a1, .inl (cI, 48, .inl th)), (a2, .inl (cI, 48, .inl ow))]) (c_X1_await (xl X) (xD X) cI cE m0 m1 m2 mk wg 0 p1 (by first | assumption | omega | rfl) (by first | assumption | omega | rfl)) yv_X1_await nm_X1_43 (by decide) (by decide) rfl rfl 0 rfl rfl rfl rfl (Nat.le_of_ble_eq_true rfl) (Nat.le_refl _) (Nat.le_refl _) dX1_markPiece_7 (fun u_7 p_7 => ?_)
  obtain ⟨mk2_7, wg2_7, wn2_7⟩ := u_7
  try dsimp only at p_7
  rcases p_7 with p_7 | p_7
  · obtain ⟨f0_7, rfl, rfl, rfl, -⟩ := p_7
    show J X 8 0 0 10 [(0, .ref m0), (1, .ref a0), (2, .int p0), (3, .int (nI p1))] [] [(m0, .inr (1, [.ref m1, .ref m2, .int (nI (0 + 1))])), (m1, .inl (cI, 48, .inl ((upd mk p1 (nI 1))))), (m2, .inl (cI, 48, .inl ((upd wg 0 (nI p1))))), (a0, .inr (0, [.ref a1, .ref a2, .int (nI co), .int (nI ro), .int sl])), (a1, .inl (cI, 48, .inl th)), (a2, .inl (cI, 48, .inl ow))]
    refine J_iconst h (v := nI 0) dX1_markPiece_10 (by decide) ?_
    refine J_istore h (lv' := [(4, .int (nI 0)), (0, .ref m0), (1, .ref a0), (2, .int p0), (3, .int (nI p1))]) dX1_markPiece_11 (by decide) rfl ?_
    refine J.loc [1, 2, 3, 0] (lv' := [(0, .ref m0), (1, .ref a0), (2, .int p0), (4, .int (nI 0))]) rfl ?_
    exact w_X1_markPieceS_13 X h m0 m1 m2 mk wg wn a0 a1 a2 th ow co ro sl p0 p1 hrc hc0 hp1 ho1 hm1 hcl hown hR  (48 - 0 + 1) 0 (upd mk p1 (nI 1)) (upd wg 0 (nI p1)) (0 + 1) (by first | assumption | omega | rfl) (by first | assumption | omega | rfl) (by exact (mp_start (wg := wg) hp1 hm1 hcl).1) (by exact (mp_start (wg := wg) hp1 hm1 hcl).2.1) (by exact (mp_start (wg := wg) hp1 hm1 hcl).2.2) (by omega)
  · obtain ⟨f0_7, rfl, rfl, rfl, -⟩ := p_7
    exact absurd f0_7 (by decide)
theorem c_X1_markPieceS (l : Launch) (D : va_G) (cI cE : ClassId) (m0 : Nat) (m1 : Nat) (m2 : Nat) (mk : Nat → Int32) (wg : Nat → Int32) (wn : Int32) (a0 : Nat) (a1 : Nat) (a2 : Nat) (th : Nat → Int32) (ow : Nat → Int32) (co : Nat) (ro : Nat) (sl : Int32) (p0 : Int32) (p1 : Nat) (hrc : ro * co ≤ 48) (hc0 : 0 < co) (hp1 : p1 < ro * co) (ho1 : ow p1 = p0) (hm1 : ¬ MKd mk p1) (hcl : ∀ c b, eG ow p0 co ro c b → MKd mk c → MKd mk b) (hown : ∀ c, c < ro * co → MKd mk c → ow c = p0) : Cv l D cI cE yX1_markPiece cX1_markPiece 8 none 2 0 0 [.ref m0, .ref a0, .int p0, .int (nI p1)] [(m0, .inr (1, [.ref m1, .ref m2, .int wn])), (m1, .inl (cI, 48, .inl mk)), (m2, .inl (cI, 48, .inl wg)), (a0, .inr (0, [.ref a1, .ref a2, .int (nI co), .int (nI ro), .int sl])), (a1, .inl (cI, 48, .inl th)), (a2, .inl (cI, 48, .inl ow))] (fun (u : (Nat → Int32) × (Nat → Int32) × (Nat)) => ((∀ c, c < ro * co → (MKd u.1 c ↔ (MKd mk c ∨ cnn (eG ow p0 co ro) p1 c))) ∧ (True))) (fun (u : (Nat → Int32) × (Nat → Int32) × (Nat)) => ([(m0, .inr (1, [.ref m1, .ref m2, .int (nI u.2.2)])), (m1, .inl (cI, 48, .inl u.1)), (m2, .inl (cI, 48, .inl u.2.1)), (a0, .inr (0, [.ref a1, .ref a2, .int (nI co), .int (nI ro), .int sl])), (a1, .inl (cI, 48, .inl th)), (a2, .inl (cI, 48, .inl ow))] : va_W)) :=
  Cv.of (by decide) (Nat.le_of_ble_eq_true rfl) (fun X h hR _ => w_X1_markPieceS X h m0 m1 m2 mk wg wn a0 a1 a2 th ow co ro sl p0 p1 hrc hc0 hp1 ho1 hm1 hcl hown hR)
set_option maxRecDepth 100000 in
set_option maxHeartbeats 4000000 in
theorem w_X1_piecesOfS_10 (X : Cx) {cI cE : ClassId} (h : Ok X cX1_piecesOf RX1 5 cI cE 3 0 0) (m0 : Nat) (m1 : Nat) (m2 : Nat) (mk : Nat → Int32) (wg : Nat → Int32) (wn : Int32) (a0 : Nat) (a1 : Nat) (a2 : Nat) (th : Nat → Int32) (ow : Nat → Int32) (co : Nat) (ro : Nat) (sl : Int32) (p0 : Int32) (hrc : ro * co ≤ 48) (hc0 : 0 < co) (hR : ∀ (r : Int32) (u : (Nat → Int32) × (Nat → Int32) × (Int32)), ((nI (pcN ow p0 co ro) = r) ∧ (True)) → RetI X cX1_piecesOf 5 0 0 r [(m0, .inr (1, [.ref m1, .ref m2, .int u.2.2])), (m1, .inl (cI, 48, .inl u.1)), (m2, .inl (cI, 48, .inl u.2.1)), (a0, .inr (0, [.ref a1, .ref a2, .int (nI co), .int (nI ro), .int sl])), (a1, .inl (cI, 48, .inl th)), (a2, .inl (cI, 48, .inl ow))]) : ∀ (n_10 : Nat) (i : Nat) (n : Nat) (mk1 : Nat → Int32) (wg1 : Nat → Int32) (wn1 : Int32), (i ≤ ro * co) → (EqN n (cntP (pcB ow p0 co ro) i)) → (n ≤ i) → (PM ow p0 co ro i mk1) → ro * co - i < n_10 → J X 5 0 0 10 [(0, .ref m0), (1, .ref a0), (2, .int p0), (3, .int (nI n)), (4, .int (nI i))] [] [(m0, .inr (1, [.ref m1, .ref m2, .int wn1])), (m1, .inl (cI, 48, .inl mk1)), (m2, .inl (cI, 48, .inl wg1)), (a0, .inr (0, [.ref a1, .ref a2, .int (nI co), .int (nI ro), .int sl])), (a1, .inl (cI, 48, .inl th)), (a2, .inl (cI, 48, .inl ow))] := by
  intro n_10
  induction n_10 with
  | zero => intro i n mk1 wg1 wn1 hi hn hnl hP hn_; exact absurd hn_ (Nat.not_lt_zero _)
  | succ n_10 ih_10 =>
    intro i n mk1 wg1 wn1 hi hn hnl hP hn_10
    refine J_iload h dX1_piecesOf_10 4 rfl ?_
    refine J_aload_n h (i := 1) dX1_piecesOf_12 rfl 1 rfl ?_
    refine J.wld [3, 4, 5, 0, 1, 2] (ws' := [(a0, .inr (0, [.ref a1, .ref a2, .int (nI co), .int (nI ro), .int sl])), (a1, .inl (cI, 48, .inl th)), (a2, .inl (cI, 48, .inl ow)), (m0, .inr (1, [.ref m1, .ref m2, .int wn1])), (m1, .inl (cI, 48, .inl mk1)), (m2, .inl (cI, 48, .inl wg1))]) rfl rfl ?_
    refine K_vi h (wr := [(m0, .inr (1, [.ref m1, .ref m2, .int wn1])), (m1, .inl (cI, 48, .inl mk1)), (m2, .inl (cI, 48, .inl wg1))]) (c_X0_cells (xl X) (xD X) cI cE a0 a1 a2 th ow co ro sl ) yv_X0_cells nm_X1_26 (by decide) (by decide) rfl rfl 0 rfl rfl rfl rfl (Nat.le_of_ble_eq_true rfl) (Nat.le_refl _) (Nat.le_refl _) dX1_piecesOf_13 (fun r_13 u_13 p_13 => ?_)
    obtain ⟨rfl, -⟩ := p_13
    show J X 5 0 0 16 [(0, .ref m0), (1, .ref a0), (2, .int p0), (3, .int (nI n)), (4, .int (nI i))] [.int (nI (ro * co)), .int (nI i)] [(a0, .inr (0, [.ref a1, .ref a2, .int (nI co), .int (nI ro), .int sl])), (a1, .inl (cI, 48, .inl th)), (a2, .inl (cI, 48, .inl ow)), (m0, .inr (1, [.ref m1, .ref m2, .int wn1])), (m1, .inl (cI, 48, .inl mk1)), (m2, .inl (cI, 48, .inl wg1))]
    refine N_icmp_ge h 55 dX1_piecesOf_16 (by decide) (by omega) (by omega) (fun c_16 => ?_) (fun c_16 => ?_)
    · skip
      refine J_iload_n h (i := 3) dX1_piecesOf_55 rfl 3 rfl ?_
      refine J.wld [3, 4, 5, 0, 1, 2] (ws' := [(m0, .inr (1, [.ref m1, .ref m2, .int wn1])), (m1, .inl (cI, 48, .inl mk1)), (m2, .inl (cI, 48, .inl wg1)), (a0, .inr (0, [.ref a1, .ref a2, .int (nI co), .int (nI ro), .int sl])), (a1, .inl (cI, 48, .inl th)), (a2, .inl (cI, 48, .inl ow))]) rfl rfl ?_
      exact hR (nI n) (mk1, wg1, wn1) (⟨(by (try dsimp only); rw [hn.eq, show i = ro * co by omega]; rfl), trivial⟩) 56 _ dX1_piecesOf_56
    · skip
      refine J_aload_n h (i := 1) dX1_piecesOf_19 rfl 1 rfl ?_
      refine J_iload h dX1_piecesOf_20 4 rfl ?_
      refine K_vi h (wr := [(m0, .inr (1, [.ref m1, .ref m2, .int wn1])), (m1, .inl (cI, 48, .inl mk1)), (m2, .inl (cI, 48, .inl wg1))]) (c_X0_ownerOf (xl X) (xD X) cI cE a0 a1 a2 th ow co ro sl i (by first | exact hrc |  assumption | omega | rfl) (by first | assumption | omega | rfl)) yv_X0_ownerOf nm_X1_32 (by decide) (by decide) rfl rfl 0 rfl rfl rfl rfl (Nat.le_of_ble_eq_true rfl) (Nat.le_refl _) (Nat.le_refl _) dX1_piecesOf_22 (fun r_22 u_22 p_22 => ?_)
      obtain ⟨rfl, -⟩ := p_22
      show J X 5 0 0 25 [(0, .ref m0), (1, .ref a0), (2, .int p0), (3, .int (nI n)), (4, .int (nI i))] [.int (ow i)] [(a0, .inr (0, [.ref a1, .ref a2, .int (nI co), .int (nI ro), .int sl])), (a1, .inl (cI, 48, .inl th)), (a2, .inl (cI, 48, .inl ow)), (m0, .inr (1, [.ref m1, .ref m2, .int wn1])), (m1, .inl (cI, 48, .inl mk1)), (m2, .inl (cI, 48, .inl wg1))]
      refine J_iload_n h (i := 2) dX1_piecesOf_25 rfl 2 rfl ?_
      refine J_icmp_ne h 49 dX1_piecesOf_26 (by decide) (fun c_26 => ?_) (fun c_26 => ?_)
      · skip
        refine J_iinc h (v := nI (i + 1)) (lv' := [(4, .int (nI (i + 1))), (0, .ref m0), (1, .ref a0), (2, .int p0), (3, .int (nI n))]) dX1_piecesOf_49 4 rfl (inc_ok _ 1) (by decide) rfl ?_
        refine J_goto h 10 dX1_piecesOf_52 (by decide) ?_
        refine J.wld [3, 4, 5, 0, 1, 2] (ws' := [(m0, .inr (1, [.ref m1, .ref m2, .int wn1])), (m1, .inl (cI, 48, .inl mk1)), (m2, .inl (cI, 48, .inl wg1)), (a0, .inr (0, [.ref a1, .ref a2, .int (nI co), .int (nI ro), .int sl])), (a1, .inl (cI, 48, .inl th)), (a2, .inl (cI, 48, .inl ow))]) rfl rfl ?_
        refine J.loc [1, 2, 3, 4, 0] (lv' := [(0, .ref m0), (1, .ref a0), (2, .int p0), (3, .int (nI n)), (4, .int (nI (i + 1)))]) rfl ?_
        exact ih_10 (i + 1) n mk1 wg1 wn1 (by first | exact hi |  assumption | omega | rfl) (by first | exact .mk (by rw [cntP_yes (pm_yes (by omega) c_26 hP (fun z => z c_35)), hn.eq]) | exact .mk (by rw [cntP_no (pm_no (by omega) hP (fun _ => c_35)), hn.eq]) | exact .mk (by rw [cntP_no (pm_no (by omega) hP (fun z => absurd z c_26)), hn.eq])) (by first | exact hnl |  assumption | omega | rfl) (by first | exact pm_new (by omega) c_26 hP f0_46 | exact pm_old (by omega) hP (fun _ => c_35) | exact pm_old (by omega) hP (fun z => absurd z c_26)) (by omega)
      · skip
        refine J_aload_n h (i := 0) dX1_piecesOf_29 rfl 0 rfl ?_
        refine J_iload h dX1_piecesOf_30 4 rfl ?_
        refine J.wld [3, 4, 5, 0, 1, 2] (ws' := [(m0, .inr (1, [.ref m1, .ref m2, .int wn1])), (m1, .inl (cI, 48, .inl mk1)), (m2, .inl (cI, 48, .inl wg1)), (a0, .inr (0, [.ref a1, .ref a2, .int (nI co), .int (nI ro), .int sl])), (a1, .inl (cI, 48, .inl th)), (a2, .inl (cI, 48, .inl ow))]) rfl rfl ?_
        refine K_vi h (wr := [(a0, .inr (0, [.ref a1, .ref a2, .int (nI co), .int (nI ro), .int sl])), (a1, .inl (cI, 48, .inl th)), (a2, .inl (cI, 48, .inl ow))]) (c_X1_markOf (xl X) (xD X) cI cE m0 m1 m2 mk1 wg1 wn1 i (by first | assumption | omega | rfl)) yv_X1_markOf nm_X1_36 (by decide) (by decide) rfl rfl 0 rfl rfl rfl rfl (Nat.le_of_ble_eq_true rfl) (Nat.le_refl _) (Nat.le_refl _) dX1_piecesOf_32 (fun r_32 u_32 p_32 => ?_)
        obtain ⟨rfl, -⟩ := p_32
        show J X 5 0 0 35 [(0, .ref m0), (1, .ref a0), (2, .int p0), (3, .int (nI n)), (4, .int (nI i))] [.int (mk1 i)] [(m0, .inr (1, [.ref m1, .ref m2, .int wn1])), (m1, .inl (cI, 48, .inl mk1)), (m2, .inl (cI, 48, .inl wg1)), (a0, .inr (0, [.ref a1, .ref a2, .int (nI co), .int (nI ro), .int sl])), (a1, .inl (cI, 48, .inl th)), (a2, .inl (cI, 48, .inl ow))]
        refine T_if_ne h (A := (mk1 i).toInt) 49 dX1_piecesOf_35 (by decide) (rfl) (fun c_35 => ?_) (fun c_35 => ?_)
        · skip
          refine J_iinc h (v := nI (i + 1)) (lv' := [(4, .int (nI (i + 1))), (0, .ref m0), (1, .ref a0), (2, .int p0), (3, .int (nI n))]) dX1_piecesOf_49 4 rfl (inc_ok _ 1) (by decide) rfl ?_
          refine J_goto h 10 dX1_piecesOf_52 (by decide) ?_
          refine J.loc [1, 2, 3, 4, 0] (lv' := [(0, .ref m0), (1, .ref a0), (2, .int p0), (3, .int (nI n)), (4, .int (nI (i + 1)))]) rfl ?_
          exact ih_10 (i + 1) n mk1 wg1 wn1 (by first | exact hi |  assumption | omega | rfl) (by first | exact .mk (by rw [cntP_yes (pm_yes (by omega) c_26 hP (fun z => z c_35)), hn.eq]) | exact .mk (by rw [cntP_no (pm_no (by omega) hP (fun _ => c_35)), hn.eq]) | exact .mk (by rw [cntP_no (pm_no (by omega) hP (fun z => absurd z c_26)), hn.eq])) (by first | exact hnl |  assumption | omega | rfl) (by first | exact pm_new (by omega) c_26 hP f0_46 | exact pm_old (by omega) hP (fun _ => c_35) | exact pm_old (by omega) hP (fun z => absurd z c_26)) (by omega)
        · skip
          refine J_iinc h (v := nI (n + 1)) (lv' := [(3, .int (nI (n + 1))), (0, .ref m0), (1, .ref a0), (2, .int p0), (4, .int (nI i))]) dX1_piecesOf_38 3 rfl (inc_ok _ 1) (by decide) rfl ?_
          refine J_aload_n h (i := 0) dX1_piecesOf_41 rfl 1 rfl ?_
          refine J_aload_n h (i := 1) dX1_piecesOf_42 rfl 2 rfl ?_
          refine J_iload_n h (i := 2) dX1_piecesOf_43 rfl 3 rfl ?_
          refine J_iload h dX1_piecesOf_44 4 rfl ?_
          refine K_vv h (wr := []) (c_X1_markPieceS (xl X) (xD X) cI cE m0 m1 m2 mk1 wg1 wn1 a0 a1 a2 th ow co ro sl p0 i (by first | exact hrc |  assumption | omega | rfl) (by first | exact hc0 |  assumption | omega | rfl) (by first | assumption | omega | rfl) (by exact c_26) (by exact fun z => z c_35) (by exact pm_cl hP) (by exact fun c hc z => ((hP c hc).mp z).1)) yv_X1_markPiece nm_X1_39 (by decide) (by decide) rfl rfl 0 rfl rfl rfl rfl (Nat.le_of_ble_eq_true rfl) (Nat.le_refl _) (Nat.le_refl _) dX1_piecesOf_46 (fun u_46 p_46 => ?_)
          obtain ⟨mk2_46, wg2_46, wn2_46⟩ := u_46
          try dsimp only at p_46
          obtain ⟨f0_46, -⟩ := p_46
          show J X 5 0 0 49 [(3, .int (nI (n + 1))), (0, .ref m0), (1, .ref a0), (2, .int p0), (4, .int (nI i))] [] [(m0, .inr (1, [.ref m1, .ref m2, .int (nI wn2_46)])), (m1, .inl (cI, 48, .inl mk2_46)), (m2, .inl (cI, 48, .inl wg2_46)), (a0, .inr (0, [.ref a1, .ref a2, .int (nI co), .int (nI ro), .int sl])), (a1, .inl (cI, 48, .inl th)), (a2, .inl (cI, 48, .inl ow))]
          refine J_iinc h (v := nI (i + 1)) (lv' := [(4, .int (nI (i + 1))), (3, .int (nI (n + 1))), (0, .ref m0), (1, .ref a0), (2, .int p0)]) dX1_piecesOf_49 4 rfl (inc_ok _ 1) (by decide) rfl ?_
          refine J_goto h 10 dX1_piecesOf_52 (by decide) ?_
          refine J.loc [2, 3, 4, 1, 0] (lv' := [(0, .ref m0), (1, .ref a0), (2, .int p0), (3, .int (nI (n + 1))), (4, .int (nI (i + 1)))]) rfl ?_
          exact ih_10 (i + 1) (n + 1) mk2_46 wg2_46 (nI wn2_46) (by first | exact hi |  assumption | omega | rfl) (by first | exact .mk (by rw [cntP_yes (pm_yes (by omega) c_26 hP (fun z => z c_35)), hn.eq]) | exact .mk (by rw [cntP_no (pm_no (by omega) hP (fun _ => c_35)), hn.eq]) | exact .mk (by rw [cntP_no (pm_no (by omega) hP (fun z => absurd z c_26)), hn.eq])) (by first | exact hnl |  assumption | omega | rfl) (by first | exact pm_new (by omega) c_26 hP f0_46 | exact pm_old (by omega) hP (fun _ => c_35) | exact pm_old (by omega) hP (fun z => absurd z c_26)) (by omega)
set_option maxRecDepth 100000 in
set_option maxHeartbeats 4000000 in
theorem w_X1_piecesOfS (X : Cx) {cI cE : ClassId} (h : Ok X cX1_piecesOf RX1 5 cI cE 3 0 0) (m0 : Nat) (m1 : Nat) (m2 : Nat) (mk : Nat → Int32) (wg : Nat → Int32) (wn : Int32) (a0 : Nat) (a1 : Nat) (a2 : Nat) (th : Nat → Int32) (ow : Nat → Int32) (co : Nat) (ro : Nat) (sl : Int32) (p0 : Int32) (hrc : ro * co ≤ 48) (hc0 : 0 < co) (hR : ∀ (r : Int32) (u : (Nat → Int32) × (Nat → Int32) × (Int32)), ((nI (pcN ow p0 co ro) = r) ∧ (True)) → RetI X cX1_piecesOf 5 0 0 r [(m0, .inr (1, [.ref m1, .ref m2, .int u.2.2])), (m1, .inl (cI, 48, .inl u.1)), (m2, .inl (cI, 48, .inl u.2.1)), (a0, .inr (0, [.ref a1, .ref a2, .int (nI co), .int (nI ro), .int sl])), (a1, .inl (cI, 48, .inl th)), (a2, .inl (cI, 48, .inl ow))]) : J X 5 0 0 0 [(0, .ref m0), (1, .ref a0), (2, .int p0)] [] [(m0, .inr (1, [.ref m1, .ref m2, .int wn])), (m1, .inl (cI, 48, .inl mk)), (m2, .inl (cI, 48, .inl wg)), (a0, .inr (0, [.ref a1, .ref a2, .int (nI co), .int (nI ro), .int sl])), (a1, .inl (cI, 48, .inl th)), (a2, .inl (cI, 48, .inl ow))] := by
  refine J_aload_n h (i := 0) dX1_piecesOf_0 rfl 0 rfl ?_
  refine J_iconst h (v := nI 0) dX1_piecesOf_1 (by decide) ?_
  refine K_vv h (wr := [(a0, .inr (0, [.ref a1, .ref a2, .int (nI co), .int (nI ro), .int sl])), (a1, .inl (cI, 48, .inl th)), (a2, .inl (cI, 48, .inl ow))]) (c_X1_fillMarks (xl X) (xD X) cI cE m0 m1 m2 mk wg wn (nI 0) ) yv_X1_fillMarks nm_X1_22 (by decide) (by decide) rfl rfl 0 rfl rfl rfl rfl (Nat.le_of_ble_eq_true rfl) (Nat.le_refl _) (Nat.le_refl _) dX1_piecesOf_2 (fun u_2 p_2 => ?_)
  show J X 5 0 0 5 [(0, .ref m0), (1, .ref a0), (2, .int p0)] [] [(m0, .inr (1, [.ref m1, .ref m2, .int wn])), (m1, .inl (cI, 48, .inl (fun _ => (nI 0)))), (m2, .inl (cI, 48, .inl wg)), (a0, .inr (0, [.ref a1, .ref a2, .int (nI co), .int (nI ro), .int sl])), (a1, .inl (cI, 48, .inl th)), (a2, .inl (cI, 48, .inl ow))]
  refine J_iconst h (v := nI 0) dX1_piecesOf_5 (by decide) ?_
  refine J_istore_n h (i := 3) (lv' := [(3, .int (nI 0)), (0, .ref m0), (1, .ref a0), (2, .int p0)]) dX1_piecesOf_6 rfl (by decide) rfl ?_
  refine J_iconst h (v := nI 0) dX1_piecesOf_7 (by decide) ?_
  refine J_istore h (lv' := [(4, .int (nI 0)), (3, .int (nI 0)), (0, .ref m0), (1, .ref a0), (2, .int p0)]) dX1_piecesOf_8 (by decide) rfl ?_
  refine J.loc [2, 3, 4, 1, 0] (lv' := [(0, .ref m0), (1, .ref a0), (2, .int p0), (3, .int (nI 0)), (4, .int (nI 0))]) rfl ?_
  exact w_X1_piecesOfS_10 X h m0 m1 m2 mk wg wn a0 a1 a2 th ow co ro sl p0 hrc hc0 hR  (ro * co - 0 + 1) 0 0 (fun _ => (nI 0)) wg wn (by first | assumption | omega | rfl) (by exact .mk rfl) (by first | assumption | omega | rfl) (by exact pm_0) (by omega)
theorem c_X1_piecesOfS (l : Launch) (D : va_G) (cI cE : ClassId) (m0 : Nat) (m1 : Nat) (m2 : Nat) (mk : Nat → Int32) (wg : Nat → Int32) (wn : Int32) (a0 : Nat) (a1 : Nat) (a2 : Nat) (th : Nat → Int32) (ow : Nat → Int32) (co : Nat) (ro : Nat) (sl : Int32) (p0 : Int32) (hrc : ro * co ≤ 48) (hc0 : 0 < co) : Ci l D cI cE yX1_piecesOf cX1_piecesOf 5 (some .int) 3 0 0 [.ref m0, .ref a0, .int p0] [(m0, .inr (1, [.ref m1, .ref m2, .int wn])), (m1, .inl (cI, 48, .inl mk)), (m2, .inl (cI, 48, .inl wg)), (a0, .inr (0, [.ref a1, .ref a2, .int (nI co), .int (nI ro), .int sl])), (a1, .inl (cI, 48, .inl th)), (a2, .inl (cI, 48, .inl ow))] (fun (r : Int32) (u : (Nat → Int32) × (Nat → Int32) × (Int32)) => ((nI (pcN ow p0 co ro) = r) ∧ (True))) (fun (u : (Nat → Int32) × (Nat → Int32) × (Int32)) => ([(m0, .inr (1, [.ref m1, .ref m2, .int u.2.2])), (m1, .inl (cI, 48, .inl u.1)), (m2, .inl (cI, 48, .inl u.2.1)), (a0, .inr (0, [.ref a1, .ref a2, .int (nI co), .int (nI ro), .int sl])), (a1, .inl (cI, 48, .inl th)), (a2, .inl (cI, 48, .inl ow))] : va_W)) :=
  Ci.of (by decide) (Nat.le_of_ble_eq_true rfl) (fun _ _ _ => rfl) (fun X h hR => w_X1_piecesOfS X h m0 m1 m2 mk wg wn a0 a1 a2 th ow co ro sl p0 hrc hc0 hR)
set_option maxRecDepth 100000 in
set_option maxHeartbeats 4000000 in
theorem w_X8_piecesS (X : Cx) {cI cE : ClassId} (h : Ok X cX8_pieces RX8 2 cI cE 4 0 0) (z0 : Nat) (g0 : Nat) (a0 : Nat) (f0 : Nat) (s0 : Nat) (k0 : Nat) (v0 : Nat) (d0 : Nat) (y0 : Nat) (m0 : Nat) (o0 : Nat) (a1 : Nat) (a2 : Nat) (th : Nat → Int32) (ow : Nat → Int32) (co : Nat) (ro : Nat) (sl : Int32) (m1 : Nat) (m2 : Nat) (mk : Nat → Int32) (wg : Nat → Int32) (wn : Int32) (p0 : Int32) (hrc : ro * co ≤ 48) (hco : co ≤ 6) (hro : ro ≤ 8) (hc0 : 0 < co) (hR : ∀ (r : Int32) (u : (Nat → Int32) × (Nat → Int32) × (Int32)), ((fPieces ow co ro p0 = r) ∧ (True)) → RetI X cX8_pieces 2 0 0 r [(z0, .inr (8, [.ref g0, .ref a0, .ref f0, .ref s0, .ref k0, .ref v0, .ref d0, .ref y0, .ref m0, .ref o0])), (a0, .inr (0, [.ref a1, .ref a2, .int (nI co), .int (nI ro), .int sl])), (a1, .inl (cI, 48, .inl th)), (a2, .inl (cI, 48, .inl ow)), (m0, .inr (1, [.ref m1, .ref m2, .int u.2.2])), (m1, .inl (cI, 48, .inl u.1)), (m2, .inl (cI, 48, .inl u.2.1))]) : J X 2 0 0 0 [(0, .ref z0), (1, .int p0)] [] [(z0, .inr (8, [.ref g0, .ref a0, .ref f0, .ref s0, .ref k0, .ref v0, .ref d0, .ref y0, .ref m0, .ref o0])), (a0, .inr (0, [.ref a1, .ref a2, .int (nI co), .int (nI ro), .int sl])), (a1, .inl (cI, 48, .inl th)), (a2, .inl (cI, 48, .inl ow)), (m0, .inr (1, [.ref m1, .ref m2, .int wn])), (m1, .inl (cI, 48, .inl mk)), (m2, .inl (cI, 48, .inl wg))] := by
  refine J_iload_n h (i := 1) dX8_pieces_0 rfl 1 rfl ?_
  refine K_si h (wr := [(z0, .inr (8, [.ref g0, .ref a0, .ref f0, .ref s0, .ref k0, .ref v0, .ref d0, .ref y0, .ref m0, .ref o0])), (a0, .inr (0, [.ref a1, .ref a2, .int (nI co), .int (nI ro), .int sl])), (a1, .inl (cI, 48, .inl th)), (a2, .inl (cI, 48, .inl ow)), (m0, .inr (1, [.ref m1, .ref m2, .int wn])), (m1, .inl (cI, 48, .inl mk)), (m2, .inl (cI, 48, .inl wg))]) (c_X8_isSide (xl X) (xD X) cI cE p0 ((p0).toInt) (by exact rfl)) yv_X8_isSide nm_X8_153 (by decide) (by decide) rfl rfl rfl (Nat.le_of_ble_eq_true rfl) (Nat.le_refl _) (Nat.le_refl _) dX8_pieces_1 (fun r_1 u_1 p_1 => ?_)
  rcases p_1 with p_1 | p_1
  · obtain ⟨rfl, f0_1, -⟩ := p_1
    show J X 2 0 0 4 [(0, .ref z0), (1, .int p0)] [.int (nI 1)] [(z0, .inr (8, [.ref g0, .ref a0, .ref f0, .ref s0, .ref k0, .ref v0, .ref d0, .ref y0, .ref m0, .ref o0])), (a0, .inr (0, [.ref a1, .ref a2, .int (nI co), .int (nI ro), .int sl])), (a1, .inl (cI, 48, .inl th)), (a2, .inl (cI, 48, .inl ow)), (m0, .inr (1, [.ref m1, .ref m2, .int wn])), (m1, .inl (cI, 48, .inl mk)), (m2, .inl (cI, 48, .inl wg))]
    refine J_if_eq h 22 dX8_pieces_4 (by decide) (fun z => absurd z (by decide)) (fun _ => ?_)
    refine J_aload_n h (i := 0) dX8_pieces_7 rfl 0 rfl ?_
    refine J_get h inX8 rfl 0 8 (by decide) rfl rfl nf_X8_62 dX8_pieces_8 ?_
    refine J_aload_n h (i := 0) dX8_pieces_11 rfl 0 rfl ?_
    refine J_get h inX8 rfl 0 1 (by decide) rfl rfl nf_X8_19 dX8_pieces_12 ?_
    refine J_iload_n h (i := 1) dX8_pieces_15 rfl 1 rfl ?_
    refine J.wld [4, 5, 6, 1, 2, 3, 0] (ws' := [(m0, .inr (1, [.ref m1, .ref m2, .int wn])), (m1, .inl (cI, 48, .inl mk)), (m2, .inl (cI, 48, .inl wg)), (a0, .inr (0, [.ref a1, .ref a2, .int (nI co), .int (nI ro), .int sl])), (a1, .inl (cI, 48, .inl th)), (a2, .inl (cI, 48, .inl ow)), (z0, .inr (8, [.ref g0, .ref a0, .ref f0, .ref s0, .ref k0, .ref v0, .ref d0, .ref y0, .ref m0, .ref o0]))]) rfl rfl ?_
    refine K_vi h (wr := [(z0, .inr (8, [.ref g0, .ref a0, .ref f0, .ref s0, .ref k0, .ref v0, .ref d0, .ref y0, .ref m0, .ref o0]))]) (c_X1_piecesOfS (xl X) (xD X) cI cE m0 m1 m2 mk wg wn a0 a1 a2 th ow co ro sl p0 (by first | exact hrc |  assumption | omega | rfl) (by first | exact hc0 |  assumption | omega | rfl)) yv_X1_piecesOf nm_X8_207 (by decide) (by decide) rfl rfl 0 rfl rfl rfl rfl (Nat.le_of_ble_eq_true rfl) (Nat.le_refl _) (Nat.le_refl _) dX8_pieces_16 (fun r_16 u_16 p_16 => ?_)
    obtain ⟨mk2_16, wg2_16, wn2_16⟩ := u_16
    try dsimp only at p_16
    obtain ⟨rfl, -⟩ := p_16
    show J X 2 0 0 19 [(0, .ref z0), (1, .int p0)] [.int (nI (pcN ow p0 co ro))] [(m0, .inr (1, [.ref m1, .ref m2, .int wn2_16])), (m1, .inl (cI, 48, .inl mk2_16)), (m2, .inl (cI, 48, .inl wg2_16)), (a0, .inr (0, [.ref a1, .ref a2, .int (nI co), .int (nI ro), .int sl])), (a1, .inl (cI, 48, .inl th)), (a2, .inl (cI, 48, .inl ow)), (z0, .inr (8, [.ref g0, .ref a0, .ref f0, .ref s0, .ref k0, .ref v0, .ref d0, .ref y0, .ref m0, .ref o0]))]
    refine J_goto h 23 dX8_pieces_19 (by decide) ?_
    refine J.wld [6, 3, 4, 5, 0, 1, 2] (ws' := [(z0, .inr (8, [.ref g0, .ref a0, .ref f0, .ref s0, .ref k0, .ref v0, .ref d0, .ref y0, .ref m0, .ref o0])), (a0, .inr (0, [.ref a1, .ref a2, .int (nI co), .int (nI ro), .int sl])), (a1, .inl (cI, 48, .inl th)), (a2, .inl (cI, 48, .inl ow)), (m0, .inr (1, [.ref m1, .ref m2, .int wn2_16])), (m1, .inl (cI, 48, .inl mk2_16)), (m2, .inl (cI, 48, .inl wg2_16))]) rfl rfl ?_
    exact hR (nI (pcN ow p0 co ro)) (mk2_16, wg2_16, wn2_16) (⟨(by (try dsimp only); unfold fPieces; first | (rw [if_pos (by omega)]; done) | (rw [if_neg (by omega)]; done)), trivial⟩) 23 _ dX8_pieces_23
  · obtain ⟨rfl, f0_1, -⟩ := p_1
    show J X 2 0 0 4 [(0, .ref z0), (1, .int p0)] [.int (nI 0)] [(z0, .inr (8, [.ref g0, .ref a0, .ref f0, .ref s0, .ref k0, .ref v0, .ref d0, .ref y0, .ref m0, .ref o0])), (a0, .inr (0, [.ref a1, .ref a2, .int (nI co), .int (nI ro), .int sl])), (a1, .inl (cI, 48, .inl th)), (a2, .inl (cI, 48, .inl ow)), (m0, .inr (1, [.ref m1, .ref m2, .int wn])), (m1, .inl (cI, 48, .inl mk)), (m2, .inl (cI, 48, .inl wg))]
    refine J_if_eq h 22 dX8_pieces_4 (by decide) (fun _ => ?_) (fun z => absurd z (by decide))
    refine J_iconst h (v := (-1)) dX8_pieces_22 (by decide) ?_
    exact hR ((-1)) (mk, wg, wn) (⟨(by (try dsimp only); unfold fPieces; first | (rw [if_pos (by omega)]; done) | (rw [if_neg (by omega)]; done)), trivial⟩) 23 _ dX8_pieces_23
theorem c_X8_piecesS (l : Launch) (D : va_G) (cI cE : ClassId) (z0 : Nat) (g0 : Nat) (a0 : Nat) (f0 : Nat) (s0 : Nat) (k0 : Nat) (v0 : Nat) (d0 : Nat) (y0 : Nat) (m0 : Nat) (o0 : Nat) (a1 : Nat) (a2 : Nat) (th : Nat → Int32) (ow : Nat → Int32) (co : Nat) (ro : Nat) (sl : Int32) (m1 : Nat) (m2 : Nat) (mk : Nat → Int32) (wg : Nat → Int32) (wn : Int32) (p0 : Int32) (hrc : ro * co ≤ 48) (hco : co ≤ 6) (hro : ro ≤ 8) (hc0 : 0 < co) : Ci l D cI cE yX8_pieces cX8_pieces 2 (some .int) 4 0 0 [.ref z0, .int p0] [(z0, .inr (8, [.ref g0, .ref a0, .ref f0, .ref s0, .ref k0, .ref v0, .ref d0, .ref y0, .ref m0, .ref o0])), (a0, .inr (0, [.ref a1, .ref a2, .int (nI co), .int (nI ro), .int sl])), (a1, .inl (cI, 48, .inl th)), (a2, .inl (cI, 48, .inl ow)), (m0, .inr (1, [.ref m1, .ref m2, .int wn])), (m1, .inl (cI, 48, .inl mk)), (m2, .inl (cI, 48, .inl wg))] (fun (r : Int32) (u : (Nat → Int32) × (Nat → Int32) × (Int32)) => ((fPieces ow co ro p0 = r) ∧ (True))) (fun (u : (Nat → Int32) × (Nat → Int32) × (Int32)) => ([(z0, .inr (8, [.ref g0, .ref a0, .ref f0, .ref s0, .ref k0, .ref v0, .ref d0, .ref y0, .ref m0, .ref o0])), (a0, .inr (0, [.ref a1, .ref a2, .int (nI co), .int (nI ro), .int sl])), (a1, .inl (cI, 48, .inl th)), (a2, .inl (cI, 48, .inl ow)), (m0, .inr (1, [.ref m1, .ref m2, .int u.2.2])), (m1, .inl (cI, 48, .inl u.1)), (m2, .inl (cI, 48, .inl u.2.1))] : va_W)) :=
  Ci.of (by decide) (Nat.le_of_ble_eq_true rfl) (fun _ _ _ => rfl) (fun X h hR => w_X8_piecesS X h z0 g0 a0 f0 s0 k0 v0 d0 y0 m0 o0 a1 a2 th ow co ro sl m1 m2 mk wg wn p0 hrc hco hro hc0 hR)
theorem px_go {P : Nat → Nat → Prop} {m : Nat → Nat} {a b fl : Nat} (h : fl = 0 → ∀ a2 b2, (a2 < a ∨ (a2 = a ∧ b2 < b)) → P a2 b2 → m a2 ≤ m b2) (h2 : P a b → m a ≤ m b) : fl = 0 → ∀ a2 b2, (a2 < a ∨ (a2 = a ∧ b2 < b + 1)) → P a2 b2 → m a2 ≤ m b2 := fun z a2 b2 hh hp => by
  by_cases e : a2 = a ∧ b2 = b
  · rw [e.1, e.2] at hp ⊢; exact h2 hp
  · exact h z a2 b2 (by omega) hp
theorem px_up {ow : Nat → Int32} {f : Int32} {co ro a b : Nat} {m : Nat → Nat} (h : ∀ j, j < ro * co → m j ≤ j ∧ cnn (eG ow f co ro) (m j) j) (ha : a < ro * co) (hb : b < ro * co) (hlt : m b < m a) (he : eG ow f co ro b a) : ∀ j, j < ro * co → va_up m a (m b) j ≤ j ∧ cnn (eG ow f co ro) (va_up m a (m b) j) j := fun j hj => by
  unfold va_up
  by_cases e : j = a
  · rw [if_pos e, e]
    have h1 := h a ha
    have h2 := h b hb
    exact ⟨by omega, cnn_step h2.2 he⟩
  · rw [if_neg e]; exact h j hj
set_option maxRecDepth 100000 in
set_option maxHeartbeats 4000000 in
theorem w_X9_piecesS_144 (X : Cx) {cI cE : ClassId} (h : Ok X cX9_pieces RX9 5 cI cE 2 0 0) (q0 : Nat) (q3 : Nat) (q4 : Nat) (q6 : Nat) (q7 : Nat) (q8 : Nat) (q9 : Nat) (q14 : Nat) (q15 : Nat) (q17 : Nat) (q18 : Nat) (q19 : Nat) (q23 : Nat) (q24 : Nat) (q25 : Nat) (ro : Nat) (co : Nat) (sl : Int32) (sn : Int32) (ts : Int32) (ra : Int32) (rr : Int32) (rw : Int32) (rn : Int32) (um : Int32) (bs : Int32) (bh : Int32) (km : Int32) (th : Nat → Int32) (mo : Nat → Int32) (mk : Nat → Int32) (cth : Nat → Int32) (cow : Nat → Int32) (p0 : Int32) (hrc : ro * co ≤ 48) (hco : co ≤ 6) (hro : ro ≤ 8) (hrel : rel (ro * co) th mo cth cow) (hc0 : 0 < co) (hR : ∀ (r : Int32) (u : (Nat → Int32)), ((fPieces cow co ro p0 = r) ∧ (True)) → RetI X cX9_pieces 5 0 0 r [(q0, .inr (9, [.int (nI ro), .int (nI co), .int sl, .ref q3, .ref q4, .int sn, .ref q6, .ref q7, .ref q8, .ref q9, .int ts, .int ra, .int rr, .int rw, .ref q14, .ref q15, .int rn, .ref q17, .ref q18, .ref q19, .int um, .int bs, .int bh, .ref q23, .ref q24, .ref q25, .int km])), (q3, .inl (cI, 48, .inl th)), (q4, .inl (cI, 48, .inl mo)), (q23, .inl (cI, 48, .inl u))]) : ∀ (n_144 : Nat) (i : Nat) (n : Nat) (m : Nat → Nat), (i ≤ ro * co) → (EqN n (cntP (pcB cow p0 co ro) i)) → (n ≤ i) → (∀ j, j < ro * co → m j ≤ 1048576) → (0 ≤ p0.toInt ∧ p0.toInt < 4) → (∀ j, j < ro * co → (m j = j ↔ ∀ d, d < j → ¬ cnn (eG cow p0 co ro) d j)) → ro * co - i < n_144 → J X 5 0 0 144 [(0, .ref q0), (1, .int p0), (3, .int (nI n)), (4, .int (nI i))] [] [(q0, .inr (9, [.int (nI ro), .int (nI co), .int sl, .ref q3, .ref q4, .int sn, .ref q6, .ref q7, .ref q8, .ref q9, .int ts, .int ra, .int rr, .int rw, .ref q14, .ref q15, .int rn, .ref q17, .ref q18, .ref q19, .int um, .int bs, .int bh, .ref q23, .ref q24, .ref q25, .int km])), (q3, .inl (cI, 48, .inl th)), (q4, .inl (cI, 48, .inl mo)), (q23, .inl (cI, 48, .inl (mrk mk (ro * co) m)))] := by
  intro n_144
  induction n_144 with
  | zero => intro i n m hi hn hnl hmb hvs hfin hn_; exact absurd hn_ (Nat.not_lt_zero _)
  | succ n_144 ih_144 =>
    intro i n m hi hn hnl hmb hvs hfin hn_144
    refine J_iload h dX9_pieces_144 3 rfl ?_
    refine J_aload_n h (i := 0) dX9_pieces_146 rfl 0 rfl ?_
    refine K_vi h (wr := [(q3, .inl (cI, 48, .inl th)), (q4, .inl (cI, 48, .inl mo)), (q23, .inl (cI, 48, .inl (mrk mk (ro * co) m)))]) (c_X9_cells (xl X) (xD X) cI cE q0 q3 q4 q6 q7 q8 q9 q14 q15 q17 q18 q19 q23 q24 q25 ro co sl sn ts ra rr rw rn um bs bh km ) yv_X9_cells nm_X9_63 (by decide) (by decide) rfl rfl 0 rfl rfl rfl rfl (Nat.le_of_ble_eq_true rfl) (Nat.le_refl _) (Nat.le_refl _) dX9_pieces_147 (fun r_147 u_147 p_147 => ?_)
    obtain ⟨rfl, -⟩ := p_147
    show J X 5 0 0 150 [(0, .ref q0), (1, .int p0), (3, .int (nI n)), (4, .int (nI i))] [.int (nI (ro * co)), .int (nI i)] [(q0, .inr (9, [.int (nI ro), .int (nI co), .int sl, .ref q3, .ref q4, .int sn, .ref q6, .ref q7, .ref q8, .ref q9, .int ts, .int ra, .int rr, .int rw, .ref q14, .ref q15, .int rn, .ref q17, .ref q18, .ref q19, .int um, .int bs, .int bh, .ref q23, .ref q24, .ref q25, .int km])), (q3, .inl (cI, 48, .inl th)), (q4, .inl (cI, 48, .inl mo)), (q23, .inl (cI, 48, .inl (mrk mk (ro * co) m)))]
    refine N_icmp_ge h 190 dX9_pieces_150 (by decide) (by omega) (by omega) (fun c_150 => ?_) (fun c_150 => ?_)
    · skip
      refine J_iload_n h (i := 3) dX9_pieces_190 rfl 2 rfl ?_
      exact hR (nI n) (mrk mk (ro * co) m) (⟨(by unfold fPieces; rw [if_pos (by omega), hn.eq, show i = ro * co by omega]; rfl), trivial⟩) 191 _ dX9_pieces_191
    · skip
      refine J_iload_n h (i := 3) dX9_pieces_153 rfl 2 rfl ?_
      refine J_aload_n h (i := 0) dX9_pieces_154 rfl 0 rfl ?_
      refine J_get h inX9 rfl 0 4 (by decide) rfl rfl nf_X9_13 dX9_pieces_155 ?_
      refine J_iload h dX9_pieces_158 3 rfl ?_
      refine N_iald h 2 rfl (by decide) (by omega) dX9_pieces_160 ?_
      refine J_iload_n h (i := 1) dX9_pieces_161 rfl 1 rfl ?_
      refine J_icmp_ne h 181 dX9_pieces_162 (by decide) (fun c_162 => ?_) (fun c_162 => ?_)
      · skip
        refine J_iconst h (v := nI 0) dX9_pieces_181 (by decide) ?_
        refine N_iadd h dX9_pieces_182 ?_
        refine J_istore_n h (i := 3) (lv' := [(3, .int (nI (n + 0))), (0, .ref q0), (1, .int p0), (4, .int (nI i))]) dX9_pieces_183 rfl (by decide) rfl ?_
        refine J_iinc h (v := nI (i + 1)) (lv' := [(4, .int (nI (i + 1))), (3, .int (nI (n + 0))), (0, .ref q0), (1, .int p0)]) dX9_pieces_184 3 rfl (inc_ok _ 1) (by decide) rfl ?_
        refine J_goto h 144 dX9_pieces_187 (by decide) ?_
        refine J.loc [2, 3, 1, 0] (lv' := [(0, .ref q0), (1, .int p0), (3, .int (nI (n + 0))), (4, .int (nI (i + 1)))]) rfl ?_
        exact ih_144 (i + 1) (n + 0) _ (by first | exact hi |  assumption | omega | rfl) (by first | exact .mk (by rw [cntP_yes (pcB_iff.mpr ⟨(rel_own hrel (by omega) hvs).mp c_162, (hfin i (by omega)).mp c_174⟩), hn.eq]) | exact .mk (by rw [cntP_no (fun z => c_174 ((hfin i (by omega)).mpr (pcB_iff.mp z).2)), hn.eq]; rfl) | exact .mk (by rw [cntP_no (fun z => c_162 ((rel_own hrel (by omega) hvs).mpr (pcB_iff.mp z).1)), hn.eq]; rfl)) (by first | exact hnl |  assumption | omega | rfl) (by first | exact hmb |  assumption | omega | rfl) (by first | exact hvs |  assumption | omega | rfl) (by exact hfin) (by omega)
      · skip
        refine J_aload_n h (i := 0) dX9_pieces_165 rfl 0 rfl ?_
        refine J_get h inX9 rfl 0 23 (by decide) rfl rfl nf_X9_43 dX9_pieces_166 ?_
        refine J_iload h dX9_pieces_169 3 rfl ?_
        refine N_iald h 3 rfl (by decide) (by omega) dX9_pieces_171 ?_
        have hmi_ := hmb i (by omega)
        refine J_eqs (st' := [.int (nI (m i)), .int (nI n)]) (by rw [mrk_at (by omega)]) ?_
        refine J_iload h dX9_pieces_172 3 rfl ?_
        refine N_icmp_ne h 181 dX9_pieces_174 (by decide) (by omega) (by omega) (fun c_174 => ?_) (fun c_174 => ?_)
        · skip
          refine J_iconst h (v := nI 0) dX9_pieces_181 (by decide) ?_
          refine N_iadd h dX9_pieces_182 ?_
          refine J_istore_n h (i := 3) (lv' := [(3, .int (nI (n + 0))), (0, .ref q0), (1, .int p0), (4, .int (nI i))]) dX9_pieces_183 rfl (by decide) rfl ?_
          refine J_iinc h (v := nI (i + 1)) (lv' := [(4, .int (nI (i + 1))), (3, .int (nI (n + 0))), (0, .ref q0), (1, .int p0)]) dX9_pieces_184 3 rfl (inc_ok _ 1) (by decide) rfl ?_
          refine J_goto h 144 dX9_pieces_187 (by decide) ?_
          refine J.loc [2, 3, 1, 0] (lv' := [(0, .ref q0), (1, .int p0), (3, .int (nI (n + 0))), (4, .int (nI (i + 1)))]) rfl ?_
          exact ih_144 (i + 1) (n + 0) _ (by first | exact hi |  assumption | omega | rfl) (by first | exact .mk (by rw [cntP_yes (pcB_iff.mpr ⟨(rel_own hrel (by omega) hvs).mp c_162, (hfin i (by omega)).mp c_174⟩), hn.eq]) | exact .mk (by rw [cntP_no (fun z => c_174 ((hfin i (by omega)).mpr (pcB_iff.mp z).2)), hn.eq]; rfl) | exact .mk (by rw [cntP_no (fun z => c_162 ((rel_own hrel (by omega) hvs).mpr (pcB_iff.mp z).1)), hn.eq]; rfl)) (by first | exact hnl |  assumption | omega | rfl) (by first | exact hmb |  assumption | omega | rfl) (by first | exact hvs |  assumption | omega | rfl) (by exact hfin) (by omega)
        · skip
          refine J_iconst h (v := nI 1) dX9_pieces_177 (by decide) ?_
          refine J_goto h 182 dX9_pieces_178 (by decide) ?_
          refine N_iadd h dX9_pieces_182 ?_
          refine J_istore_n h (i := 3) (lv' := [(3, .int (nI (n + 1))), (0, .ref q0), (1, .int p0), (4, .int (nI i))]) dX9_pieces_183 rfl (by decide) rfl ?_
          refine J_iinc h (v := nI (i + 1)) (lv' := [(4, .int (nI (i + 1))), (3, .int (nI (n + 1))), (0, .ref q0), (1, .int p0)]) dX9_pieces_184 3 rfl (inc_ok _ 1) (by decide) rfl ?_
          refine J_goto h 144 dX9_pieces_187 (by decide) ?_
          refine J.loc [2, 3, 1, 0] (lv' := [(0, .ref q0), (1, .int p0), (3, .int (nI (n + 1))), (4, .int (nI (i + 1)))]) rfl ?_
          exact ih_144 (i + 1) (n + 1) _ (by first | exact hi |  assumption | omega | rfl) (by first | exact .mk (by rw [cntP_yes (pcB_iff.mpr ⟨(rel_own hrel (by omega) hvs).mp c_162, (hfin i (by omega)).mp c_174⟩), hn.eq]) | exact .mk (by rw [cntP_no (fun z => c_174 ((hfin i (by omega)).mpr (pcB_iff.mp z).2)), hn.eq]; rfl) | exact .mk (by rw [cntP_no (fun z => c_162 ((rel_own hrel (by omega) hvs).mpr (pcB_iff.mp z).1)), hn.eq]; rfl)) (by first | exact hnl |  assumption | omega | rfl) (by first | exact hmb |  assumption | omega | rfl) (by first | exact hvs |  assumption | omega | rfl) (by exact hfin) (by omega)
set_option maxRecDepth 100000 in
set_option maxHeartbeats 4000000 in
theorem w_X9_piecesS_53 (X : Cx) {cI cE : ClassId} (h : Ok X cX9_pieces RX9 5 cI cE 2 0 0) (q0 : Nat) (q3 : Nat) (q4 : Nat) (q6 : Nat) (q7 : Nat) (q8 : Nat) (q9 : Nat) (q14 : Nat) (q15 : Nat) (q17 : Nat) (q18 : Nat) (q19 : Nat) (q23 : Nat) (q24 : Nat) (q25 : Nat) (ro : Nat) (co : Nat) (sl : Int32) (sn : Int32) (ts : Int32) (ra : Int32) (rr : Int32) (rw : Int32) (rn : Int32) (um : Int32) (bs : Int32) (bh : Int32) (km : Int32) (th : Nat → Int32) (mo : Nat → Int32) (mk : Nat → Int32) (cth : Nat → Int32) (cow : Nat → Int32) (p0 : Int32) (hrc : ro * co ≤ 48) (hco : co ≤ 6) (hro : ro ≤ 8) (hrel : rel (ro * co) th mo cth cow) (hc0 : 0 < co) (hR : ∀ (r : Int32) (u : (Nat → Int32)), ((fPieces cow co ro p0 = r) ∧ (True)) → RetI X cX9_pieces 5 0 0 r [(q0, .inr (9, [.int (nI ro), .int (nI co), .int sl, .ref q3, .ref q4, .int sn, .ref q6, .ref q7, .ref q8, .ref q9, .int ts, .int ra, .int rr, .int rw, .ref q14, .ref q15, .int rn, .ref q17, .ref q18, .ref q19, .int um, .int bs, .int bh, .ref q23, .ref q24, .ref q25, .int km])), (q3, .inl (cI, 48, .inl th)), (q4, .inl (cI, 48, .inl mo)), (q23, .inl (cI, 48, .inl u))]) (n_34 : Nat) (ih_34 : ∀ (fl : Nat) (m : Nat → Nat), (fl ≤ 1) → (∀ j, j < ro * co → m j ≤ 1048576) → (0 ≤ p0.toInt ∧ p0.toInt < 4) → (∀ j, j < ro * co → m j ≤ j ∧ cnn (eG cow p0 co ro) (m j) j) → (fl = 0 → ∀ a2 b2, eG cow p0 co ro a2 b2 → m a2 ≤ m b2) → 2 * sumP m (ro * co) + fl < n_34 → J X 5 0 0 34 [(0, .ref q0), (1, .int p0), (2, .int (nI fl))] [] [(q0, .inr (9, [.int (nI ro), .int (nI co), .int sl, .ref q3, .ref q4, .int sn, .ref q6, .ref q7, .ref q8, .ref q9, .int ts, .int ra, .int rr, .int rw, .ref q14, .ref q15, .int rn, .ref q17, .ref q18, .ref q19, .int um, .int bs, .int bh, .ref q23, .ref q24, .ref q25, .int km])), (q3, .inl (cI, 48, .inl th)), (q4, .inl (cI, 48, .inl mo)), (q23, .inl (cI, 48, .inl (mrk mk (ro * co) m)))]) (n_42 : Nat) (ih_42 : ∀ (a : Nat) (fl : Nat) (m : Nat → Nat) (s0 : Nat), (a ≤ ro * co) → (∀ j, j < ro * co → m j ≤ 1048576) → ((fl = 0 ∧ sumP m (ro * co) ≤ s0) ∨ (fl = 1 ∧ sumP m (ro * co) < s0)) → (2 * s0 + 1 < n_34 + 1) → (0 ≤ p0.toInt ∧ p0.toInt < 4) → (∀ j, j < ro * co → m j ≤ j ∧ cnn (eG cow p0 co ro) (m j) j) → (fl = 0 → ∀ a2 b2, a2 < a → eG cow p0 co ro a2 b2 → m a2 ≤ m b2) → ro * co - a < n_42 → J X 5 0 0 42 [(0, .ref q0), (1, .int p0), (2, .int (nI fl)), (3, .int (nI a))] [] [(q0, .inr (9, [.int (nI ro), .int (nI co), .int sl, .ref q3, .ref q4, .int sn, .ref q6, .ref q7, .ref q8, .ref q9, .int ts, .int ra, .int rr, .int rw, .ref q14, .ref q15, .int rn, .ref q17, .ref q18, .ref q19, .int um, .int bs, .int bh, .ref q23, .ref q24, .ref q25, .int km])), (q3, .inl (cI, 48, .inl th)), (q4, .inl (cI, 48, .inl mo)), (q23, .inl (cI, 48, .inl (mrk mk (ro * co) m)))]) : ∀ (n_53 : Nat) (a : Nat) (b : Nat) (fl : Nat) (m : Nat → Nat) (s0 : Nat), (a < ro * co) → (b ≤ ro * co) → (∀ j, j < ro * co → m j ≤ 1048576) → ((fl = 0 ∧ sumP m (ro * co) ≤ s0) ∨ (fl = 1 ∧ sumP m (ro * co) < s0)) → (2 * s0 + 1 < n_34 + 1) → (ro * co - a < n_42 + 1) → (0 ≤ p0.toInt ∧ p0.toInt < 4) → (∀ j, j < ro * co → m j ≤ j ∧ cnn (eG cow p0 co ro) (m j) j) → (fl = 0 → ∀ a2 b2, (a2 < a ∨ (a2 = a ∧ b2 < b)) → eG cow p0 co ro a2 b2 → m a2 ≤ m b2) → ro * co - b < n_53 → J X 5 0 0 53 [(0, .ref q0), (1, .int p0), (2, .int (nI fl)), (3, .int (nI a)), (4, .int (nI b))] [] [(q0, .inr (9, [.int (nI ro), .int (nI co), .int sl, .ref q3, .ref q4, .int sn, .ref q6, .ref q7, .ref q8, .ref q9, .int ts, .int ra, .int rr, .int rw, .ref q14, .ref q15, .int rn, .ref q17, .ref q18, .ref q19, .int um, .int bs, .int bh, .ref q23, .ref q24, .ref q25, .int km])), (q3, .inl (cI, 48, .inl th)), (q4, .inl (cI, 48, .inl mo)), (q23, .inl (cI, 48, .inl (mrk mk (ro * co) m)))] := by
  intro n_53
  induction n_53 with
  | zero => intro a b fl m s0 ha hb hmb hsm h0 h42 hvs hmi hfx hn_; exact absurd hn_ (Nat.not_lt_zero _)
  | succ n_53 ih_53 =>
    intro a b fl m s0 ha hb hmb hsm h0 h42 hvs hmi hfx hn_53
    refine J_iload h dX9_pieces_53 4 rfl ?_
    refine J_aload_n h (i := 0) dX9_pieces_55 rfl 0 rfl ?_
    refine K_vi h (wr := [(q3, .inl (cI, 48, .inl th)), (q4, .inl (cI, 48, .inl mo)), (q23, .inl (cI, 48, .inl (mrk mk (ro * co) m)))]) (c_X9_cells (xl X) (xD X) cI cE q0 q3 q4 q6 q7 q8 q9 q14 q15 q17 q18 q19 q23 q24 q25 ro co sl sn ts ra rr rw rn um bs bh km ) yv_X9_cells nm_X9_63 (by decide) (by decide) rfl rfl 0 rfl rfl rfl rfl (Nat.le_of_ble_eq_true rfl) (Nat.le_refl _) (Nat.le_refl _) dX9_pieces_56 (fun r_56 u_56 p_56 => ?_)
    obtain ⟨rfl, -⟩ := p_56
    show J X 5 0 0 59 [(0, .ref q0), (1, .int p0), (2, .int (nI fl)), (3, .int (nI a)), (4, .int (nI b))] [.int (nI (ro * co)), .int (nI b)] [(q0, .inr (9, [.int (nI ro), .int (nI co), .int sl, .ref q3, .ref q4, .int sn, .ref q6, .ref q7, .ref q8, .ref q9, .int ts, .int ra, .int rr, .int rw, .ref q14, .ref q15, .int rn, .ref q17, .ref q18, .ref q19, .int um, .int bs, .int bh, .ref q23, .ref q24, .ref q25, .int km])), (q3, .inl (cI, 48, .inl th)), (q4, .inl (cI, 48, .inl mo)), (q23, .inl (cI, 48, .inl (mrk mk (ro * co) m)))]
    refine N_icmp_ge h 130 dX9_pieces_59 (by decide) (by omega) (by omega) (fun c_59 => ?_) (fun c_59 => ?_)
    · skip
      refine J_iinc h (v := nI (a + 1)) (lv' := [(3, .int (nI (a + 1))), (0, .ref q0), (1, .int p0), (2, .int (nI fl)), (4, .int (nI b))]) dX9_pieces_130 3 rfl (inc_ok _ 1) (by decide) rfl ?_
      refine J_goto h 42 dX9_pieces_133 (by decide) ?_
      refine J.loc [1, 2, 3, 0] (lv' := [(0, .ref q0), (1, .int p0), (2, .int (nI fl)), (3, .int (nI (a + 1)))]) rfl ?_
      exact ih_42 (a + 1) fl _ s0 (by first | exact ha |  assumption | omega | rfl) (by first | exact hmb |  assumption | omega | rfl) (by first | exact hsm |  assumption | omega | rfl) (by first | exact h0 |  assumption | omega | rfl) (by first | exact hvs |  assumption | omega | rfl) (by exact hmi) (by exact fun z a2 b2 h he => hfx z a2 b2 (by have := he.2.1; omega) he) (by omega)
    · skip
      have hma := hmb a (by omega)
      have hbn : b < ro * co := by omega
      have hmb1 := hmb b (by omega)
      refine J_aload_n h (i := 0) dX9_pieces_62 rfl 0 rfl ?_
      refine J_iload_n h (i := 3) dX9_pieces_63 rfl 3 rfl ?_
      refine J_iload h dX9_pieces_64 4 rfl ?_
      refine K_vi h (wr := [(q3, .inl (cI, 48, .inl th)), (q4, .inl (cI, 48, .inl mo)), (q23, .inl (cI, 48, .inl (mrk mk (ro * co) m)))]) (c_X9_isBeside (xl X) (xD X) cI cE q0 q3 q4 q6 q7 q8 q9 q14 q15 q17 q18 q19 q23 q24 q25 ro co sl sn ts ra rr rw rn um bs bh km a b (by first | exact hco |  assumption | omega | rfl) (by first | assumption | omega | rfl) (by first | assumption | omega | rfl) (by first | exact hc0 |  assumption | omega | rfl)) yv_X9_isBeside nm_X9_183 (by decide) (by decide) rfl rfl 0 rfl rfl rfl rfl (Nat.le_of_ble_eq_true rfl) (Nat.le_refl _) (Nat.le_refl _) dX9_pieces_66 (fun r_66 u_66 p_66 => ?_)
      rcases p_66 with p_66 | p_66
      · obtain ⟨rfl, f0_66, -⟩ := p_66
        show J X 5 0 0 69 [(0, .ref q0), (1, .int p0), (2, .int (nI fl)), (3, .int (nI a)), (4, .int (nI b))] [.int (nI 1)] [(q0, .inr (9, [.int (nI ro), .int (nI co), .int sl, .ref q3, .ref q4, .int sn, .ref q6, .ref q7, .ref q8, .ref q9, .int ts, .int ra, .int rr, .int rw, .ref q14, .ref q15, .int rn, .ref q17, .ref q18, .ref q19, .int um, .int bs, .int bh, .ref q23, .ref q24, .ref q25, .int km])), (q3, .inl (cI, 48, .inl th)), (q4, .inl (cI, 48, .inl mo)), (q23, .inl (cI, 48, .inl (mrk mk (ro * co) m)))]
        refine J_if_eq h 124 dX9_pieces_69 (by decide) (fun z => absurd z (by decide)) (fun _ => ?_)
        refine J_aload_n h (i := 0) dX9_pieces_72 rfl 0 rfl ?_
        refine J_get h inX9 rfl 0 4 (by decide) rfl rfl nf_X9_13 dX9_pieces_73 ?_
        refine J_iload_n h (i := 3) dX9_pieces_76 rfl 3 rfl ?_
        refine N_iald h 2 rfl (by decide) (by omega) dX9_pieces_77 ?_
        refine J_iload_n h (i := 1) dX9_pieces_78 rfl 1 rfl ?_
        refine J_icmp_ne h 124 dX9_pieces_79 (by decide) (fun c_79 => ?_) (fun c_79 => ?_)
        · skip
          refine J_iinc h (v := nI (b + 1)) (lv' := [(4, .int (nI (b + 1))), (0, .ref q0), (1, .int p0), (2, .int (nI fl)), (3, .int (nI a))]) dX9_pieces_124 4 rfl (inc_ok _ 1) (by decide) rfl ?_
          refine J_goto h 53 dX9_pieces_127 (by decide) ?_
          refine J.loc [1, 2, 3, 4, 0] (lv' := [(0, .ref q0), (1, .int p0), (2, .int (nI fl)), (3, .int (nI a)), (4, .int (nI (b + 1)))]) rfl ?_
          exact ih_53 a (b + 1) fl _ s0 (by first | exact ha |  assumption | omega | rfl) (by first | exact hb |  assumption | omega | rfl) (by first | exact hmb | exact mb_up hmb (hmb _ (by omega))) (by first | exact hsm | (have hlt := sumP_lt (m := m) (a := a) (x := m b) (by omega) ha; exact Or.inr ⟨rfl, by omega⟩)) (by first | exact h0 |  assumption | omega | rfl) (by first | exact h42 |  assumption | omega | rfl) (by first | exact hvs |  assumption | omega | rfl) (by first | exact hmi | exact px_up hmi ha hbn (by omega) ⟨hbn, ha, (rel_own hrel hbn hvs).mp c_90, (rel_own hrel ha hvs).mp c_79, adjB_symm f0_66⟩) (by first | exact fun z => absurd z (by decide) | exact px_go hfx (fun he => absurd he.2.2.2.2 f0_66) | exact px_go hfx (fun he => absurd ((rel_own hrel ha hvs).mpr he.2.2.1) c_79) | exact px_go hfx (fun he => absurd ((rel_own hrel hbn hvs).mpr he.2.2.2.1) c_90) | exact px_go hfx (fun _ => by omega)) (by omega)
        · skip
          refine J_aload_n h (i := 0) dX9_pieces_82 rfl 0 rfl ?_
          refine J_get h inX9 rfl 0 4 (by decide) rfl rfl nf_X9_13 dX9_pieces_83 ?_
          refine J_iload h dX9_pieces_86 4 rfl ?_
          refine N_iald h 2 rfl (by decide) (by omega) dX9_pieces_88 ?_
          refine J_iload_n h (i := 1) dX9_pieces_89 rfl 1 rfl ?_
          refine J_icmp_ne h 124 dX9_pieces_90 (by decide) (fun c_90 => ?_) (fun c_90 => ?_)
          · skip
            refine J_iinc h (v := nI (b + 1)) (lv' := [(4, .int (nI (b + 1))), (0, .ref q0), (1, .int p0), (2, .int (nI fl)), (3, .int (nI a))]) dX9_pieces_124 4 rfl (inc_ok _ 1) (by decide) rfl ?_
            refine J_goto h 53 dX9_pieces_127 (by decide) ?_
            refine J.loc [1, 2, 3, 4, 0] (lv' := [(0, .ref q0), (1, .int p0), (2, .int (nI fl)), (3, .int (nI a)), (4, .int (nI (b + 1)))]) rfl ?_
            exact ih_53 a (b + 1) fl _ s0 (by first | exact ha |  assumption | omega | rfl) (by first | exact hb |  assumption | omega | rfl) (by first | exact hmb | exact mb_up hmb (hmb _ (by omega))) (by first | exact hsm | (have hlt := sumP_lt (m := m) (a := a) (x := m b) (by omega) ha; exact Or.inr ⟨rfl, by omega⟩)) (by first | exact h0 |  assumption | omega | rfl) (by first | exact h42 |  assumption | omega | rfl) (by first | exact hvs |  assumption | omega | rfl) (by first | exact hmi | exact px_up hmi ha hbn (by omega) ⟨hbn, ha, (rel_own hrel hbn hvs).mp c_90, (rel_own hrel ha hvs).mp c_79, adjB_symm f0_66⟩) (by first | exact fun z => absurd z (by decide) | exact px_go hfx (fun he => absurd he.2.2.2.2 f0_66) | exact px_go hfx (fun he => absurd ((rel_own hrel ha hvs).mpr he.2.2.1) c_79) | exact px_go hfx (fun he => absurd ((rel_own hrel hbn hvs).mpr he.2.2.2.1) c_90) | exact px_go hfx (fun _ => by omega)) (by omega)
          · skip
            refine J_aload_n h (i := 0) dX9_pieces_93 rfl 0 rfl ?_
            refine J_get h inX9 rfl 0 23 (by decide) rfl rfl nf_X9_43 dX9_pieces_94 ?_
            refine J_iload h dX9_pieces_97 4 rfl ?_
            refine N_iald h 3 rfl (by decide) (by omega) dX9_pieces_99 ?_
            refine J_eqs (st' := [.int (nI (m b))]) (by rw [mrk_at (by omega)]) ?_
            refine J_aload_n h (i := 0) dX9_pieces_100 rfl 0 rfl ?_
            refine J_get h inX9 rfl 0 23 (by decide) rfl rfl nf_X9_43 dX9_pieces_101 ?_
            refine J_iload_n h (i := 3) dX9_pieces_104 rfl 3 rfl ?_
            refine N_iald h 3 rfl (by decide) (by omega) dX9_pieces_105 ?_
            refine J_eqs (st' := [.int (nI (m a)), .int (nI (m b))]) (by rw [mrk_at (by omega)]) ?_
            refine N_icmp_ge h 124 dX9_pieces_106 (by decide) (by omega) (by omega) (fun c_106 => ?_) (fun c_106 => ?_)
            · skip
              refine J_iinc h (v := nI (b + 1)) (lv' := [(4, .int (nI (b + 1))), (0, .ref q0), (1, .int p0), (2, .int (nI fl)), (3, .int (nI a))]) dX9_pieces_124 4 rfl (inc_ok _ 1) (by decide) rfl ?_
              refine J_goto h 53 dX9_pieces_127 (by decide) ?_
              refine J.loc [1, 2, 3, 4, 0] (lv' := [(0, .ref q0), (1, .int p0), (2, .int (nI fl)), (3, .int (nI a)), (4, .int (nI (b + 1)))]) rfl ?_
              exact ih_53 a (b + 1) fl _ s0 (by first | exact ha |  assumption | omega | rfl) (by first | exact hb |  assumption | omega | rfl) (by first | exact hmb | exact mb_up hmb (hmb _ (by omega))) (by first | exact hsm | (have hlt := sumP_lt (m := m) (a := a) (x := m b) (by omega) ha; exact Or.inr ⟨rfl, by omega⟩)) (by first | exact h0 |  assumption | omega | rfl) (by first | exact h42 |  assumption | omega | rfl) (by first | exact hvs |  assumption | omega | rfl) (by first | exact hmi | exact px_up hmi ha hbn (by omega) ⟨hbn, ha, (rel_own hrel hbn hvs).mp c_90, (rel_own hrel ha hvs).mp c_79, adjB_symm f0_66⟩) (by first | exact fun z => absurd z (by decide) | exact px_go hfx (fun he => absurd he.2.2.2.2 f0_66) | exact px_go hfx (fun he => absurd ((rel_own hrel ha hvs).mpr he.2.2.1) c_79) | exact px_go hfx (fun he => absurd ((rel_own hrel hbn hvs).mpr he.2.2.2.1) c_90) | exact px_go hfx (fun _ => by omega)) (by omega)
            · skip
              refine J_aload_n h (i := 0) dX9_pieces_109 rfl 0 rfl ?_
              refine J_get h inX9 rfl 0 23 (by decide) rfl rfl nf_X9_43 dX9_pieces_110 ?_
              refine J_iload_n h (i := 3) dX9_pieces_113 rfl 3 rfl ?_
              refine J_aload_n h (i := 0) dX9_pieces_114 rfl 0 rfl ?_
              refine J_get h inX9 rfl 0 23 (by decide) rfl rfl nf_X9_43 dX9_pieces_115 ?_
              refine J_iload h dX9_pieces_118 4 rfl ?_
              refine N_iald h 3 rfl (by decide) (by omega) dX9_pieces_120 ?_
              refine J_eqs (st' := [.int (nI (m b)), .int (nI a), .ref q23]) (by rw [mrk_at (by omega)]) ?_
              refine N_iast h (ws' := [(q0, .inr (9, [.int (nI ro), .int (nI co), .int sl, .ref q3, .ref q4, .int sn, .ref q6, .ref q7, .ref q8, .ref q9, .int ts, .int ra, .int rr, .int rw, .ref q14, .ref q15, .int rn, .ref q17, .ref q18, .ref q19, .int um, .int bs, .int bh, .ref q23, .ref q24, .ref q25, .int km])), (q3, .inl (cI, 48, .inl th)), (q4, .inl (cI, 48, .inl mo)), (q23, .inl (cI, 48, .inl (upd (mrk mk (ro * co) m) a (nI (m b)))))]) 3 rfl (by decide) (by omega) dX9_pieces_121 rfl ?_
              refine J_eqw (ws' := [(q0, .inr (9, [.int (nI ro), .int (nI co), .int sl, .ref q3, .ref q4, .int sn, .ref q6, .ref q7, .ref q8, .ref q9, .int ts, .int ra, .int rr, .int rw, .ref q14, .ref q15, .int rn, .ref q17, .ref q18, .ref q19, .int um, .int bs, .int bh, .ref q23, .ref q24, .ref q25, .int km])), (q3, .inl (cI, 48, .inl th)), (q4, .inl (cI, 48, .inl mo)), (q23, .inl (cI, 48, .inl (mrk mk (ro * co) (va_up m a (m b)))))]) (by rw [mrk_up ha]) ?_
              refine J_iconst h (v := nI 1) dX9_pieces_122 (by decide) ?_
              refine J_istore_n h (i := 2) (lv' := [(2, .int (nI 1)), (0, .ref q0), (1, .int p0), (3, .int (nI a)), (4, .int (nI b))]) dX9_pieces_123 rfl (by decide) rfl ?_
              refine J_iinc h (v := nI (b + 1)) (lv' := [(4, .int (nI (b + 1))), (2, .int (nI 1)), (0, .ref q0), (1, .int p0), (3, .int (nI a))]) dX9_pieces_124 4 rfl (inc_ok _ 1) (by decide) rfl ?_
              refine J_goto h 53 dX9_pieces_127 (by decide) ?_
              refine J.loc [2, 3, 1, 4, 0] (lv' := [(0, .ref q0), (1, .int p0), (2, .int (nI 1)), (3, .int (nI a)), (4, .int (nI (b + 1)))]) rfl ?_
              exact ih_53 a (b + 1) 1 _ s0 (by first | exact ha |  assumption | omega | rfl) (by first | exact hb |  assumption | omega | rfl) (by first | exact hmb | exact mb_up hmb (hmb _ (by omega))) (by first | exact hsm | (have hlt := sumP_lt (m := m) (a := a) (x := m b) (by omega) ha; exact Or.inr ⟨rfl, by omega⟩)) (by first | exact h0 |  assumption | omega | rfl) (by first | exact h42 |  assumption | omega | rfl) (by first | exact hvs |  assumption | omega | rfl) (by first | exact hmi | exact px_up hmi ha hbn (by omega) ⟨hbn, ha, (rel_own hrel hbn hvs).mp c_90, (rel_own hrel ha hvs).mp c_79, adjB_symm f0_66⟩) (by first | exact fun z => absurd z (by decide) | exact px_go hfx (fun he => absurd he.2.2.2.2 f0_66) | exact px_go hfx (fun he => absurd ((rel_own hrel ha hvs).mpr he.2.2.1) c_79) | exact px_go hfx (fun he => absurd ((rel_own hrel hbn hvs).mpr he.2.2.2.1) c_90) | exact px_go hfx (fun _ => by omega)) (by omega)
      · obtain ⟨rfl, f0_66, -⟩ := p_66
        show J X 5 0 0 69 [(0, .ref q0), (1, .int p0), (2, .int (nI fl)), (3, .int (nI a)), (4, .int (nI b))] [.int (nI 0)] [(q0, .inr (9, [.int (nI ro), .int (nI co), .int sl, .ref q3, .ref q4, .int sn, .ref q6, .ref q7, .ref q8, .ref q9, .int ts, .int ra, .int rr, .int rw, .ref q14, .ref q15, .int rn, .ref q17, .ref q18, .ref q19, .int um, .int bs, .int bh, .ref q23, .ref q24, .ref q25, .int km])), (q3, .inl (cI, 48, .inl th)), (q4, .inl (cI, 48, .inl mo)), (q23, .inl (cI, 48, .inl (mrk mk (ro * co) m)))]
        refine J_if_eq h 124 dX9_pieces_69 (by decide) (fun _ => ?_) (fun z => absurd z (by decide))
        refine J_iinc h (v := nI (b + 1)) (lv' := [(4, .int (nI (b + 1))), (0, .ref q0), (1, .int p0), (2, .int (nI fl)), (3, .int (nI a))]) dX9_pieces_124 4 rfl (inc_ok _ 1) (by decide) rfl ?_
        refine J_goto h 53 dX9_pieces_127 (by decide) ?_
        refine J.loc [1, 2, 3, 4, 0] (lv' := [(0, .ref q0), (1, .int p0), (2, .int (nI fl)), (3, .int (nI a)), (4, .int (nI (b + 1)))]) rfl ?_
        exact ih_53 a (b + 1) fl _ s0 (by first | exact ha |  assumption | omega | rfl) (by first | exact hb |  assumption | omega | rfl) (by first | exact hmb | exact mb_up hmb (hmb _ (by omega))) (by first | exact hsm | (have hlt := sumP_lt (m := m) (a := a) (x := m b) (by omega) ha; exact Or.inr ⟨rfl, by omega⟩)) (by first | exact h0 |  assumption | omega | rfl) (by first | exact h42 |  assumption | omega | rfl) (by first | exact hvs |  assumption | omega | rfl) (by first | exact hmi | exact px_up hmi ha hbn (by omega) ⟨hbn, ha, (rel_own hrel hbn hvs).mp c_90, (rel_own hrel ha hvs).mp c_79, adjB_symm f0_66⟩) (by first | exact fun z => absurd z (by decide) | exact px_go hfx (fun he => absurd he.2.2.2.2 f0_66) | exact px_go hfx (fun he => absurd ((rel_own hrel ha hvs).mpr he.2.2.1) c_79) | exact px_go hfx (fun he => absurd ((rel_own hrel hbn hvs).mpr he.2.2.2.1) c_90) | exact px_go hfx (fun _ => by omega)) (by omega)
set_option maxRecDepth 100000 in
set_option maxHeartbeats 4000000 in
theorem w_X9_piecesS_42 (X : Cx) {cI cE : ClassId} (h : Ok X cX9_pieces RX9 5 cI cE 2 0 0) (q0 : Nat) (q3 : Nat) (q4 : Nat) (q6 : Nat) (q7 : Nat) (q8 : Nat) (q9 : Nat) (q14 : Nat) (q15 : Nat) (q17 : Nat) (q18 : Nat) (q19 : Nat) (q23 : Nat) (q24 : Nat) (q25 : Nat) (ro : Nat) (co : Nat) (sl : Int32) (sn : Int32) (ts : Int32) (ra : Int32) (rr : Int32) (rw : Int32) (rn : Int32) (um : Int32) (bs : Int32) (bh : Int32) (km : Int32) (th : Nat → Int32) (mo : Nat → Int32) (mk : Nat → Int32) (cth : Nat → Int32) (cow : Nat → Int32) (p0 : Int32) (hrc : ro * co ≤ 48) (hco : co ≤ 6) (hro : ro ≤ 8) (hrel : rel (ro * co) th mo cth cow) (hc0 : 0 < co) (hR : ∀ (r : Int32) (u : (Nat → Int32)), ((fPieces cow co ro p0 = r) ∧ (True)) → RetI X cX9_pieces 5 0 0 r [(q0, .inr (9, [.int (nI ro), .int (nI co), .int sl, .ref q3, .ref q4, .int sn, .ref q6, .ref q7, .ref q8, .ref q9, .int ts, .int ra, .int rr, .int rw, .ref q14, .ref q15, .int rn, .ref q17, .ref q18, .ref q19, .int um, .int bs, .int bh, .ref q23, .ref q24, .ref q25, .int km])), (q3, .inl (cI, 48, .inl th)), (q4, .inl (cI, 48, .inl mo)), (q23, .inl (cI, 48, .inl u))]) (n_34 : Nat) (ih_34 : ∀ (fl : Nat) (m : Nat → Nat), (fl ≤ 1) → (∀ j, j < ro * co → m j ≤ 1048576) → (0 ≤ p0.toInt ∧ p0.toInt < 4) → (∀ j, j < ro * co → m j ≤ j ∧ cnn (eG cow p0 co ro) (m j) j) → (fl = 0 → ∀ a2 b2, eG cow p0 co ro a2 b2 → m a2 ≤ m b2) → 2 * sumP m (ro * co) + fl < n_34 → J X 5 0 0 34 [(0, .ref q0), (1, .int p0), (2, .int (nI fl))] [] [(q0, .inr (9, [.int (nI ro), .int (nI co), .int sl, .ref q3, .ref q4, .int sn, .ref q6, .ref q7, .ref q8, .ref q9, .int ts, .int ra, .int rr, .int rw, .ref q14, .ref q15, .int rn, .ref q17, .ref q18, .ref q19, .int um, .int bs, .int bh, .ref q23, .ref q24, .ref q25, .int km])), (q3, .inl (cI, 48, .inl th)), (q4, .inl (cI, 48, .inl mo)), (q23, .inl (cI, 48, .inl (mrk mk (ro * co) m)))]) : ∀ (n_42 : Nat) (a : Nat) (fl : Nat) (m : Nat → Nat) (s0 : Nat), (a ≤ ro * co) → (∀ j, j < ro * co → m j ≤ 1048576) → ((fl = 0 ∧ sumP m (ro * co) ≤ s0) ∨ (fl = 1 ∧ sumP m (ro * co) < s0)) → (2 * s0 + 1 < n_34 + 1) → (0 ≤ p0.toInt ∧ p0.toInt < 4) → (∀ j, j < ro * co → m j ≤ j ∧ cnn (eG cow p0 co ro) (m j) j) → (fl = 0 → ∀ a2 b2, a2 < a → eG cow p0 co ro a2 b2 → m a2 ≤ m b2) → ro * co - a < n_42 → J X 5 0 0 42 [(0, .ref q0), (1, .int p0), (2, .int (nI fl)), (3, .int (nI a))] [] [(q0, .inr (9, [.int (nI ro), .int (nI co), .int sl, .ref q3, .ref q4, .int sn, .ref q6, .ref q7, .ref q8, .ref q9, .int ts, .int ra, .int rr, .int rw, .ref q14, .ref q15, .int rn, .ref q17, .ref q18, .ref q19, .int um, .int bs, .int bh, .ref q23, .ref q24, .ref q25, .int km])), (q3, .inl (cI, 48, .inl th)), (q4, .inl (cI, 48, .inl mo)), (q23, .inl (cI, 48, .inl (mrk mk (ro * co) m)))] := by
  intro n_42
  induction n_42 with
  | zero => intro a fl m s0 ha hmb hsm h0 hvs hmi hfx hn_; exact absurd hn_ (Nat.not_lt_zero _)
  | succ n_42 ih_42 =>
    intro a fl m s0 ha hmb hsm h0 hvs hmi hfx hn_42
    refine J_iload_n h (i := 3) dX9_pieces_42 rfl 3 rfl ?_
    refine J_aload_n h (i := 0) dX9_pieces_43 rfl 0 rfl ?_
    refine K_vi h (wr := [(q3, .inl (cI, 48, .inl th)), (q4, .inl (cI, 48, .inl mo)), (q23, .inl (cI, 48, .inl (mrk mk (ro * co) m)))]) (c_X9_cells (xl X) (xD X) cI cE q0 q3 q4 q6 q7 q8 q9 q14 q15 q17 q18 q19 q23 q24 q25 ro co sl sn ts ra rr rw rn um bs bh km ) yv_X9_cells nm_X9_63 (by decide) (by decide) rfl rfl 0 rfl rfl rfl rfl (Nat.le_of_ble_eq_true rfl) (Nat.le_refl _) (Nat.le_refl _) dX9_pieces_44 (fun r_44 u_44 p_44 => ?_)
    obtain ⟨rfl, -⟩ := p_44
    show J X 5 0 0 47 [(0, .ref q0), (1, .int p0), (2, .int (nI fl)), (3, .int (nI a))] [.int (nI (ro * co)), .int (nI a)] [(q0, .inr (9, [.int (nI ro), .int (nI co), .int sl, .ref q3, .ref q4, .int sn, .ref q6, .ref q7, .ref q8, .ref q9, .int ts, .int ra, .int rr, .int rw, .ref q14, .ref q15, .int rn, .ref q17, .ref q18, .ref q19, .int um, .int bs, .int bh, .ref q23, .ref q24, .ref q25, .int km])), (q3, .inl (cI, 48, .inl th)), (q4, .inl (cI, 48, .inl mo)), (q23, .inl (cI, 48, .inl (mrk mk (ro * co) m)))]
    refine N_icmp_ge h 136 dX9_pieces_47 (by decide) (by omega) (by omega) (fun c_47 => ?_) (fun c_47 => ?_)
    · skip
      refine J_goto h 34 dX9_pieces_136 (by decide) ?_
      refine J.loc [0, 1, 2] (lv' := [(0, .ref q0), (1, .int p0), (2, .int (nI fl))]) rfl ?_
      exact ih_34 fl _ (by first | assumption | omega | rfl) (by first | exact hmb |  assumption | omega | rfl) (by first | exact hvs |  assumption | omega | rfl) (by exact hmi) (by exact fun z a2 b2 he => hfx z a2 b2 (by have := he.1; omega) he) (by omega)
    · skip
      refine J_iconst h (v := nI 0) dX9_pieces_50 (by decide) ?_
      refine J_istore h (lv' := [(4, .int (nI 0)), (0, .ref q0), (1, .int p0), (2, .int (nI fl)), (3, .int (nI a))]) dX9_pieces_51 (by decide) rfl ?_
      refine J.loc [1, 2, 3, 4, 0] (lv' := [(0, .ref q0), (1, .int p0), (2, .int (nI fl)), (3, .int (nI a)), (4, .int (nI 0))]) rfl ?_
      exact w_X9_piecesS_53 X h q0 q3 q4 q6 q7 q8 q9 q14 q15 q17 q18 q19 q23 q24 q25 ro co sl sn ts ra rr rw rn um bs bh km th mo mk cth cow p0 hrc hco hro hrel hc0 hR n_34 ih_34 n_42 ih_42 (ro * co - 0 + 1) a 0 fl _ s0 (by first | exact ha |  assumption | omega | rfl) (by first | assumption | omega | rfl) (by first | exact hmb |  assumption | omega | rfl) (by first | exact hsm |  assumption | omega | rfl) (by first | exact h0 |  assumption | omega | rfl) (by first | assumption | omega | rfl) (by first | exact hvs |  assumption | omega | rfl) (by exact hmi) (by exact fun z a2 b2 h he => hfx z a2 b2 (by omega) he) (by omega)
set_option maxRecDepth 100000 in
set_option maxHeartbeats 4000000 in
theorem w_X9_piecesS_34 (X : Cx) {cI cE : ClassId} (h : Ok X cX9_pieces RX9 5 cI cE 2 0 0) (q0 : Nat) (q3 : Nat) (q4 : Nat) (q6 : Nat) (q7 : Nat) (q8 : Nat) (q9 : Nat) (q14 : Nat) (q15 : Nat) (q17 : Nat) (q18 : Nat) (q19 : Nat) (q23 : Nat) (q24 : Nat) (q25 : Nat) (ro : Nat) (co : Nat) (sl : Int32) (sn : Int32) (ts : Int32) (ra : Int32) (rr : Int32) (rw : Int32) (rn : Int32) (um : Int32) (bs : Int32) (bh : Int32) (km : Int32) (th : Nat → Int32) (mo : Nat → Int32) (mk : Nat → Int32) (cth : Nat → Int32) (cow : Nat → Int32) (p0 : Int32) (hrc : ro * co ≤ 48) (hco : co ≤ 6) (hro : ro ≤ 8) (hrel : rel (ro * co) th mo cth cow) (hc0 : 0 < co) (hR : ∀ (r : Int32) (u : (Nat → Int32)), ((fPieces cow co ro p0 = r) ∧ (True)) → RetI X cX9_pieces 5 0 0 r [(q0, .inr (9, [.int (nI ro), .int (nI co), .int sl, .ref q3, .ref q4, .int sn, .ref q6, .ref q7, .ref q8, .ref q9, .int ts, .int ra, .int rr, .int rw, .ref q14, .ref q15, .int rn, .ref q17, .ref q18, .ref q19, .int um, .int bs, .int bh, .ref q23, .ref q24, .ref q25, .int km])), (q3, .inl (cI, 48, .inl th)), (q4, .inl (cI, 48, .inl mo)), (q23, .inl (cI, 48, .inl u))]) : ∀ (n_34 : Nat) (fl : Nat) (m : Nat → Nat), (fl ≤ 1) → (∀ j, j < ro * co → m j ≤ 1048576) → (0 ≤ p0.toInt ∧ p0.toInt < 4) → (∀ j, j < ro * co → m j ≤ j ∧ cnn (eG cow p0 co ro) (m j) j) → (fl = 0 → ∀ a2 b2, eG cow p0 co ro a2 b2 → m a2 ≤ m b2) → 2 * sumP m (ro * co) + fl < n_34 → J X 5 0 0 34 [(0, .ref q0), (1, .int p0), (2, .int (nI fl))] [] [(q0, .inr (9, [.int (nI ro), .int (nI co), .int sl, .ref q3, .ref q4, .int sn, .ref q6, .ref q7, .ref q8, .ref q9, .int ts, .int ra, .int rr, .int rw, .ref q14, .ref q15, .int rn, .ref q17, .ref q18, .ref q19, .int um, .int bs, .int bh, .ref q23, .ref q24, .ref q25, .int km])), (q3, .inl (cI, 48, .inl th)), (q4, .inl (cI, 48, .inl mo)), (q23, .inl (cI, 48, .inl (mrk mk (ro * co) m)))] := by
  intro n_34
  induction n_34 with
  | zero => intro fl m hfl hmb hvs hmi hfx hn_; exact absurd hn_ (Nat.not_lt_zero _)
  | succ n_34 ih_34 =>
    intro fl m hfl hmb hvs hmi hfx hn_34
    refine J_iload_n h (i := 2) dX9_pieces_34 rfl 2 rfl ?_
    refine N_if_eq h 139 dX9_pieces_35 (by decide) (by omega) (fun c_35 => ?_) (fun c_35 => ?_)
    · skip
      refine J_iconst h (v := nI 0) dX9_pieces_139 (by decide) ?_
      refine J_istore_n h (i := 3) (lv' := [(3, .int (nI 0)), (0, .ref q0), (1, .int p0), (2, .int (nI fl))]) dX9_pieces_140 rfl (by decide) rfl ?_
      refine J_iconst h (v := nI 0) dX9_pieces_141 (by decide) ?_
      refine J_istore h (lv' := [(4, .int (nI 0)), (3, .int (nI 0)), (0, .ref q0), (1, .int p0), (2, .int (nI fl))]) dX9_pieces_142 (by decide) rfl ?_
      refine J.loc [2, 3, 1, 0] (lv' := [(0, .ref q0), (1, .int p0), (3, .int (nI 0)), (4, .int (nI 0))]) rfl ?_
      exact w_X9_piecesS_144 X h q0 q3 q4 q6 q7 q8 q9 q14 q15 q17 q18 q19 q23 q24 q25 ro co sl sn ts ra rr rw rn um bs bh km th mo mk cth cow p0 hrc hco hro hrel hc0 hR  (ro * co - 0 + 1) 0 0 _ (by first | assumption | omega | rfl) (by exact .mk rfl) (by first | assumption | omega | rfl) (by first | exact hmb |  assumption | omega | rfl) (by first | exact hvs |  assumption | omega | rfl) (by exact fun j hj => pc_fix hmi (hfx (by omega)) hj) (by omega)
    · skip
      refine J_iconst h (v := nI 0) dX9_pieces_38 (by decide) ?_
      refine J_istore_n h (i := 2) (lv' := [(2, .int (nI 0)), (0, .ref q0), (1, .int p0)]) dX9_pieces_39 rfl (by decide) rfl ?_
      refine J_iconst h (v := nI 0) dX9_pieces_40 (by decide) ?_
      refine J_istore_n h (i := 3) (lv' := [(3, .int (nI 0)), (2, .int (nI 0)), (0, .ref q0), (1, .int p0)]) dX9_pieces_41 rfl (by decide) rfl ?_
      refine J.loc [2, 3, 1, 0] (lv' := [(0, .ref q0), (1, .int p0), (2, .int (nI 0)), (3, .int (nI 0))]) rfl ?_
      exact w_X9_piecesS_42 X h q0 q3 q4 q6 q7 q8 q9 q14 q15 q17 q18 q19 q23 q24 q25 ro co sl sn ts ra rr rw rn um bs bh km th mo mk cth cow p0 hrc hco hro hrel hc0 hR n_34 ih_34 (ro * co - 0 + 1) 0 0 m (sumP m (ro * co)) (by first | assumption | omega | rfl) (by first | exact hmb |  assumption | omega | rfl) (by exact Or.inl ⟨rfl, Nat.le_refl _⟩) (by first | assumption | omega | rfl) (by first | exact hvs |  assumption | omega | rfl) (by exact hmi) (by intro _ a2 b2 h; omega) (by omega)
set_option maxRecDepth 100000 in
set_option maxHeartbeats 4000000 in
theorem w_X9_piecesS_11 (X : Cx) {cI cE : ClassId} (h : Ok X cX9_pieces RX9 5 cI cE 2 0 0) (q0 : Nat) (q3 : Nat) (q4 : Nat) (q6 : Nat) (q7 : Nat) (q8 : Nat) (q9 : Nat) (q14 : Nat) (q15 : Nat) (q17 : Nat) (q18 : Nat) (q19 : Nat) (q23 : Nat) (q24 : Nat) (q25 : Nat) (ro : Nat) (co : Nat) (sl : Int32) (sn : Int32) (ts : Int32) (ra : Int32) (rr : Int32) (rw : Int32) (rn : Int32) (um : Int32) (bs : Int32) (bh : Int32) (km : Int32) (th : Nat → Int32) (mo : Nat → Int32) (mk : Nat → Int32) (cth : Nat → Int32) (cow : Nat → Int32) (p0 : Int32) (hrc : ro * co ≤ 48) (hco : co ≤ 6) (hro : ro ≤ 8) (hrel : rel (ro * co) th mo cth cow) (hc0 : 0 < co) (hR : ∀ (r : Int32) (u : (Nat → Int32)), ((fPieces cow co ro p0 = r) ∧ (True)) → RetI X cX9_pieces 5 0 0 r [(q0, .inr (9, [.int (nI ro), .int (nI co), .int sl, .ref q3, .ref q4, .int sn, .ref q6, .ref q7, .ref q8, .ref q9, .int ts, .int ra, .int rr, .int rw, .ref q14, .ref q15, .int rn, .ref q17, .ref q18, .ref q19, .int um, .int bs, .int bh, .ref q23, .ref q24, .ref q25, .int km])), (q3, .inl (cI, 48, .inl th)), (q4, .inl (cI, 48, .inl mo)), (q23, .inl (cI, 48, .inl u))]) : ∀ (n_11 : Nat) (i : Nat), (i ≤ ro * co) → (0 ≤ p0.toInt ∧ p0.toInt < 4) → ro * co - i < n_11 → J X 5 0 0 11 [(0, .ref q0), (1, .int p0), (2, .int (nI i))] [] [(q0, .inr (9, [.int (nI ro), .int (nI co), .int sl, .ref q3, .ref q4, .int sn, .ref q6, .ref q7, .ref q8, .ref q9, .int ts, .int ra, .int rr, .int rw, .ref q14, .ref q15, .int rn, .ref q17, .ref q18, .ref q19, .int um, .int bs, .int bh, .ref q23, .ref q24, .ref q25, .int km])), (q3, .inl (cI, 48, .inl th)), (q4, .inl (cI, 48, .inl mo)), (q23, .inl (cI, 48, .inl (mrk mk i (fun j => j))))] := by
  intro n_11
  induction n_11 with
  | zero => intro i hi hvs hn_; exact absurd hn_ (Nat.not_lt_zero _)
  | succ n_11 ih_11 =>
    intro i hi hvs hn_11
    refine J_iload_n h (i := 2) dX9_pieces_11 rfl 2 rfl ?_
    refine J_aload_n h (i := 0) dX9_pieces_12 rfl 0 rfl ?_
    refine K_vi h (wr := [(q3, .inl (cI, 48, .inl th)), (q4, .inl (cI, 48, .inl mo)), (q23, .inl (cI, 48, .inl (mrk mk i (fun j => j))))]) (c_X9_cells (xl X) (xD X) cI cE q0 q3 q4 q6 q7 q8 q9 q14 q15 q17 q18 q19 q23 q24 q25 ro co sl sn ts ra rr rw rn um bs bh km ) yv_X9_cells nm_X9_63 (by decide) (by decide) rfl rfl 0 rfl rfl rfl rfl (Nat.le_of_ble_eq_true rfl) (Nat.le_refl _) (Nat.le_refl _) dX9_pieces_13 (fun r_13 u_13 p_13 => ?_)
    obtain ⟨rfl, -⟩ := p_13
    show J X 5 0 0 16 [(0, .ref q0), (1, .int p0), (2, .int (nI i))] [.int (nI (ro * co)), .int (nI i)] [(q0, .inr (9, [.int (nI ro), .int (nI co), .int sl, .ref q3, .ref q4, .int sn, .ref q6, .ref q7, .ref q8, .ref q9, .int ts, .int ra, .int rr, .int rw, .ref q14, .ref q15, .int rn, .ref q17, .ref q18, .ref q19, .int um, .int bs, .int bh, .ref q23, .ref q24, .ref q25, .int km])), (q3, .inl (cI, 48, .inl th)), (q4, .inl (cI, 48, .inl mo)), (q23, .inl (cI, 48, .inl (mrk mk i (fun j => j))))]
    refine N_icmp_ge h 32 dX9_pieces_16 (by decide) (by omega) (by omega) (fun c_16 => ?_) (fun c_16 => ?_)
    · skip
      refine J_eqw (ws' := [(q0, .inr (9, [.int (nI ro), .int (nI co), .int sl, .ref q3, .ref q4, .int sn, .ref q6, .ref q7, .ref q8, .ref q9, .int ts, .int ra, .int rr, .int rw, .ref q14, .ref q15, .int rn, .ref q17, .ref q18, .ref q19, .int um, .int bs, .int bh, .ref q23, .ref q24, .ref q25, .int km])), (q3, .inl (cI, 48, .inl th)), (q4, .inl (cI, 48, .inl mo)), (q23, .inl (cI, 48, .inl (mrk mk (ro * co) (fun j => j))))]) (by rw [show i = ro * co by omega]) ?_
      refine J_iconst h (v := nI 1) dX9_pieces_32 (by decide) ?_
      refine J_istore_n h (i := 2) (lv' := [(2, .int (nI 1)), (0, .ref q0), (1, .int p0)]) dX9_pieces_33 rfl (by decide) rfl ?_
      refine J.loc [1, 2, 0] (lv' := [(0, .ref q0), (1, .int p0), (2, .int (nI 1))]) rfl ?_
      exact w_X9_piecesS_34 X h q0 q3 q4 q6 q7 q8 q9 q14 q15 q17 q18 q19 q23 q24 q25 ro co sl sn ts ra rr rw rn um bs bh km th mo mk cth cow p0 hrc hco hro hrel hc0 hR  (2 * sumP (fun j => j) (ro * co) + 1 + 1) 1 (fun j => j) (by first | assumption | omega | rfl) (by intro j hj; omega) (by first | exact hvs |  assumption | omega | rfl) (by exact fun j _ => ⟨Nat.le_refl _, cnn_refl _ _⟩) (by intro z; omega) (by omega)
    · skip
      refine J_aload_n h (i := 0) dX9_pieces_19 rfl 0 rfl ?_
      refine J_get h inX9 rfl 0 23 (by decide) rfl rfl nf_X9_43 dX9_pieces_20 ?_
      refine J_iload_n h (i := 2) dX9_pieces_23 rfl 2 rfl ?_
      refine J_iload_n h (i := 2) dX9_pieces_24 rfl 2 rfl ?_
      refine N_iast h (ws' := [(q0, .inr (9, [.int (nI ro), .int (nI co), .int sl, .ref q3, .ref q4, .int sn, .ref q6, .ref q7, .ref q8, .ref q9, .int ts, .int ra, .int rr, .int rw, .ref q14, .ref q15, .int rn, .ref q17, .ref q18, .ref q19, .int um, .int bs, .int bh, .ref q23, .ref q24, .ref q25, .int km])), (q3, .inl (cI, 48, .inl th)), (q4, .inl (cI, 48, .inl mo)), (q23, .inl (cI, 48, .inl (upd (mrk mk i (fun j => j)) i (nI i))))]) 3 rfl (by decide) (by omega) dX9_pieces_25 rfl ?_
      refine J_eqw (ws' := [(q0, .inr (9, [.int (nI ro), .int (nI co), .int sl, .ref q3, .ref q4, .int sn, .ref q6, .ref q7, .ref q8, .ref q9, .int ts, .int ra, .int rr, .int rw, .ref q14, .ref q15, .int rn, .ref q17, .ref q18, .ref q19, .int um, .int bs, .int bh, .ref q23, .ref q24, .ref q25, .int km])), (q3, .inl (cI, 48, .inl th)), (q4, .inl (cI, 48, .inl mo)), (q23, .inl (cI, 48, .inl (mrk mk (i + 1) (fun j => j))))]) (by rw [← mrk_s]) ?_
      refine J_iinc h (v := nI (i + 1)) (lv' := [(2, .int (nI (i + 1))), (0, .ref q0), (1, .int p0)]) dX9_pieces_26 2 rfl (inc_ok _ 1) (by decide) rfl ?_
      refine J_goto h 11 dX9_pieces_29 (by decide) ?_
      refine J.loc [1, 2, 0] (lv' := [(0, .ref q0), (1, .int p0), (2, .int (nI (i + 1)))]) rfl ?_
      exact ih_11 (i + 1) (by first | exact hi |  assumption | omega | rfl) (by first | exact hvs |  assumption | omega | rfl) (by omega)
set_option maxRecDepth 100000 in
set_option maxHeartbeats 4000000 in
theorem w_X9_piecesS (X : Cx) {cI cE : ClassId} (h : Ok X cX9_pieces RX9 5 cI cE 2 0 0) (q0 : Nat) (q3 : Nat) (q4 : Nat) (q6 : Nat) (q7 : Nat) (q8 : Nat) (q9 : Nat) (q14 : Nat) (q15 : Nat) (q17 : Nat) (q18 : Nat) (q19 : Nat) (q23 : Nat) (q24 : Nat) (q25 : Nat) (ro : Nat) (co : Nat) (sl : Int32) (sn : Int32) (ts : Int32) (ra : Int32) (rr : Int32) (rw : Int32) (rn : Int32) (um : Int32) (bs : Int32) (bh : Int32) (km : Int32) (th : Nat → Int32) (mo : Nat → Int32) (mk : Nat → Int32) (cth : Nat → Int32) (cow : Nat → Int32) (p0 : Int32) (hrc : ro * co ≤ 48) (hco : co ≤ 6) (hro : ro ≤ 8) (hrel : rel (ro * co) th mo cth cow) (hc0 : 0 < co) (hR : ∀ (r : Int32) (u : (Nat → Int32)), ((fPieces cow co ro p0 = r) ∧ (True)) → RetI X cX9_pieces 5 0 0 r [(q0, .inr (9, [.int (nI ro), .int (nI co), .int sl, .ref q3, .ref q4, .int sn, .ref q6, .ref q7, .ref q8, .ref q9, .int ts, .int ra, .int rr, .int rw, .ref q14, .ref q15, .int rn, .ref q17, .ref q18, .ref q19, .int um, .int bs, .int bh, .ref q23, .ref q24, .ref q25, .int km])), (q3, .inl (cI, 48, .inl th)), (q4, .inl (cI, 48, .inl mo)), (q23, .inl (cI, 48, .inl u))]) : J X 5 0 0 0 [(0, .ref q0), (1, .int p0)] [] [(q0, .inr (9, [.int (nI ro), .int (nI co), .int sl, .ref q3, .ref q4, .int sn, .ref q6, .ref q7, .ref q8, .ref q9, .int ts, .int ra, .int rr, .int rw, .ref q14, .ref q15, .int rn, .ref q17, .ref q18, .ref q19, .int um, .int bs, .int bh, .ref q23, .ref q24, .ref q25, .int km])), (q3, .inl (cI, 48, .inl th)), (q4, .inl (cI, 48, .inl mo)), (q23, .inl (cI, 48, .inl mk))] := by
  refine J_iload_n h (i := 1) dX9_pieces_0 rfl 1 rfl ?_
  refine K_si h (wr := [(q0, .inr (9, [.int (nI ro), .int (nI co), .int sl, .ref q3, .ref q4, .int sn, .ref q6, .ref q7, .ref q8, .ref q9, .int ts, .int ra, .int rr, .int rw, .ref q14, .ref q15, .int rn, .ref q17, .ref q18, .ref q19, .int um, .int bs, .int bh, .ref q23, .ref q24, .ref q25, .int km])), (q3, .inl (cI, 48, .inl th)), (q4, .inl (cI, 48, .inl mo)), (q23, .inl (cI, 48, .inl mk))]) (c_X9_isSide (xl X) (xD X) cI cE p0 ((p0).toInt) (by exact rfl)) yv_X9_isSide nm_X9_141 (by decide) (by decide) rfl rfl rfl (Nat.le_of_ble_eq_true rfl) (Nat.le_refl _) (Nat.le_refl _) dX9_pieces_1 (fun r_1 u_1 p_1 => ?_)
  rcases p_1 with p_1 | p_1
  · obtain ⟨rfl, f0_1, -⟩ := p_1
    show J X 5 0 0 4 [(0, .ref q0), (1, .int p0)] [.int (nI 1)] [(q0, .inr (9, [.int (nI ro), .int (nI co), .int sl, .ref q3, .ref q4, .int sn, .ref q6, .ref q7, .ref q8, .ref q9, .int ts, .int ra, .int rr, .int rw, .ref q14, .ref q15, .int rn, .ref q17, .ref q18, .ref q19, .int um, .int bs, .int bh, .ref q23, .ref q24, .ref q25, .int km])), (q3, .inl (cI, 48, .inl th)), (q4, .inl (cI, 48, .inl mo)), (q23, .inl (cI, 48, .inl mk))]
    refine J_if_ne h 9 dX9_pieces_4 (by decide) (fun _ => ?_) (fun z => absurd z (by decide))
    refine J_eqw (ws' := [(q0, .inr (9, [.int (nI ro), .int (nI co), .int sl, .ref q3, .ref q4, .int sn, .ref q6, .ref q7, .ref q8, .ref q9, .int ts, .int ra, .int rr, .int rw, .ref q14, .ref q15, .int rn, .ref q17, .ref q18, .ref q19, .int um, .int bs, .int bh, .ref q23, .ref q24, .ref q25, .int km])), (q3, .inl (cI, 48, .inl th)), (q4, .inl (cI, 48, .inl mo)), (q23, .inl (cI, 48, .inl (mrk mk 0 (fun j => j))))]) (by rw [mrk_0]) ?_
    refine J_iconst h (v := nI 0) dX9_pieces_9 (by decide) ?_
    refine J_istore_n h (i := 2) (lv' := [(2, .int (nI 0)), (0, .ref q0), (1, .int p0)]) dX9_pieces_10 rfl (by decide) rfl ?_
    refine J.loc [1, 2, 0] (lv' := [(0, .ref q0), (1, .int p0), (2, .int (nI 0))]) rfl ?_
    exact w_X9_piecesS_11 X h q0 q3 q4 q6 q7 q8 q9 q14 q15 q17 q18 q19 q23 q24 q25 ro co sl sn ts ra rr rw rn um bs bh km th mo mk cth cow p0 hrc hco hro hrel hc0 hR  (ro * co - 0 + 1) 0 (by first | assumption | omega | rfl) (by first | assumption | omega | rfl) (by omega)
  · obtain ⟨rfl, f0_1, -⟩ := p_1
    show J X 5 0 0 4 [(0, .ref q0), (1, .int p0)] [.int (nI 0)] [(q0, .inr (9, [.int (nI ro), .int (nI co), .int sl, .ref q3, .ref q4, .int sn, .ref q6, .ref q7, .ref q8, .ref q9, .int ts, .int ra, .int rr, .int rw, .ref q14, .ref q15, .int rn, .ref q17, .ref q18, .ref q19, .int um, .int bs, .int bh, .ref q23, .ref q24, .ref q25, .int km])), (q3, .inl (cI, 48, .inl th)), (q4, .inl (cI, 48, .inl mo)), (q23, .inl (cI, 48, .inl mk))]
    refine J_if_ne h 9 dX9_pieces_4 (by decide) (fun z => absurd z (by decide)) (fun _ => ?_)
    refine J_iconst h (v := (-1)) dX9_pieces_7 (by decide) ?_
    exact hR ((-1)) mk (⟨(by unfold fPieces; rw [if_neg (by omega)]), trivial⟩) 8 _ dX9_pieces_8
theorem c_X9_piecesS (l : Launch) (D : va_G) (cI cE : ClassId) (q0 : Nat) (q3 : Nat) (q4 : Nat) (q6 : Nat) (q7 : Nat) (q8 : Nat) (q9 : Nat) (q14 : Nat) (q15 : Nat) (q17 : Nat) (q18 : Nat) (q19 : Nat) (q23 : Nat) (q24 : Nat) (q25 : Nat) (ro : Nat) (co : Nat) (sl : Int32) (sn : Int32) (ts : Int32) (ra : Int32) (rr : Int32) (rw : Int32) (rn : Int32) (um : Int32) (bs : Int32) (bh : Int32) (km : Int32) (th : Nat → Int32) (mo : Nat → Int32) (mk : Nat → Int32) (cth : Nat → Int32) (cow : Nat → Int32) (p0 : Int32) (hrc : ro * co ≤ 48) (hco : co ≤ 6) (hro : ro ≤ 8) (hrel : rel (ro * co) th mo cth cow) (hc0 : 0 < co) : Ci l D cI cE yX9_pieces cX9_pieces 5 (some .int) 2 0 0 [.ref q0, .int p0] [(q0, .inr (9, [.int (nI ro), .int (nI co), .int sl, .ref q3, .ref q4, .int sn, .ref q6, .ref q7, .ref q8, .ref q9, .int ts, .int ra, .int rr, .int rw, .ref q14, .ref q15, .int rn, .ref q17, .ref q18, .ref q19, .int um, .int bs, .int bh, .ref q23, .ref q24, .ref q25, .int km])), (q3, .inl (cI, 48, .inl th)), (q4, .inl (cI, 48, .inl mo)), (q23, .inl (cI, 48, .inl mk))] (fun (r : Int32) (u : (Nat → Int32)) => ((fPieces cow co ro p0 = r) ∧ (True))) (fun (u : (Nat → Int32)) => ([(q0, .inr (9, [.int (nI ro), .int (nI co), .int sl, .ref q3, .ref q4, .int sn, .ref q6, .ref q7, .ref q8, .ref q9, .int ts, .int ra, .int rr, .int rw, .ref q14, .ref q15, .int rn, .ref q17, .ref q18, .ref q19, .int um, .int bs, .int bh, .ref q23, .ref q24, .ref q25, .int km])), (q3, .inl (cI, 48, .inl th)), (q4, .inl (cI, 48, .inl mo)), (q23, .inl (cI, 48, .inl u))] : va_W)) :=
  Ci.of (by decide) (Nat.le_of_ble_eq_true rfl) (fun _ _ _ => rfl) (fun X h hR => w_X9_piecesS X h q0 q3 q4 q6 q7 q8 q9 q14 q15 q17 q18 q19 q23 q24 q25 ro co sl sn ts ra rr rw rn um bs bh km th mo mk cth cow p0 hrc hco hro hrel hc0 hR)
