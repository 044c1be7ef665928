set_option maxRecDepth 100000 in
set_option maxHeartbeats 4000000 in
theorem w_X5_clear (X : Cx) {cI cE : ClassId} (h : Ok X cX5_clear RX5 1 cI cE 0 0 0) (s0 : Nat) (s1 : Nat) (nx : Int32) (sz : Int32)  (hR : ∀ (u : Unit), ((True)) → RetV X cX5_clear 1 0 0 [(s0, .inr (5, [.ref s1, .int nx, .int (nI 0)]))]) : J X 1 0 0 0 [(0, .ref s0)] [] [(s0, .inr (5, [.ref s1, .int nx, .int sz]))] := by
  refine J_aload_n h (i := 0) dX5_clear_0 rfl 0 rfl ?_
  refine J_iconst h (v := nI 0) dX5_clear_1 (by decide) ?_
  refine J_put h (ws' := [(s0, .inr (5, [.ref s1, .int nx, .int (nI 0)]))]) inX5 tyX5 tyX5_ok nmX5 rfl 0 2 (by decide) rfl nf_X5_13 rfl rfl rfl rfl (Nat.le_of_ble_eq_true rfl) dX5_clear_2 rfl ?_
  exact hR () (trivial) 5 _ dX5_clear_5
theorem c_X5_clear (l : Launch) (D : va_G) (cI cE : ClassId) (s0 : Nat) (s1 : Nat) (nx : Int32) (sz : Int32)  : Cv l D cI cE yX5_clear cX5_clear 1 none 0 0 0 [.ref s0] [(s0, .inr (5, [.ref s1, .int nx, .int sz]))] (fun (u : Unit) => ((True))) (fun (u : Unit) => ([(s0, .inr (5, [.ref s1, .int nx, .int (nI 0)]))] : va_W)) :=
  Cv.of (by decide) (Nat.le_of_ble_eq_true rfl) (fun X h hR _ => w_X5_clear X h s0 s1 nx sz hR)
theorem yv_X5_clear : YV yX5_clear cX5_clear 1 none 0 := ⟨no_X5_clear, nv_X5_clear, ni_X5, nk_X5_clear, by decide +kernel⟩
set_option maxRecDepth 100000 in
set_option maxHeartbeats 4000000 in
theorem w_X5_push8 (X : Cx) {cI cE : ClassId} (h : Ok X cX5_push RX5 3 cI cE 1 0 0) (s0 : Nat) (s1 : Nat) (eA : Nat → Nat) (tA : Nat → Nat) (oA : Nat → Nat) (thS : Nat → Nat → Int32) (owS : Nat → Nat → Int32) (coS : Nat → Int32) (roS : Nat → Int32) (slS : Nat → Int32) (nx : Nat) (sz : Nat) (a0 : Nat) (a1 : Nat) (a2 : Nat) (th : Nat → Int32) (ow : Nat → Int32) (co : Int32) (ro : Int32) (sl : Int32) (hnx : nx < 8) (hsz : sz ≤ 8) (hR : ∀ (u : (Nat → Nat → Int32) × (Nat → Nat → Int32) × (Nat → Int32) × (Nat → Int32) × (Nat → Int32) × (Nat) × (Nat)), (((va_up thS nx th) = u.1) ∧ ((va_up owS nx ow) = u.2.1) ∧ ((va_up coS nx co) = u.2.2.1) ∧ ((va_up roS nx ro) = u.2.2.2.1) ∧ ((va_up slS nx sl) = u.2.2.2.2.1) ∧ ((nxtP 8 nx) = u.2.2.2.2.2.1) ∧ ((min (sz + 1) 8) = u.2.2.2.2.2.2) ∧ (True)) → RetV X cX5_push 3 0 0 [(s0, .inr (5, [.ref s1, .int (nI u.2.2.2.2.2.1), .int (nI u.2.2.2.2.2.2)])), (s1, .inl (cE, 8, .inr (.inr (.inr (.inr (aS eA)))))), (eA 0, .inr (0, [.ref (tA 0), .ref (oA 0), .int (u.2.2.1 0), .int (u.2.2.2.1 0), .int (u.2.2.2.2.1 0)])), (tA 0, .inl (cI, 48, .inl (u.1 0))), (oA 0, .inl (cI, 48, .inl (u.2.1 0))), (eA 1, .inr (0, [.ref (tA 1), .ref (oA 1), .int (u.2.2.1 1), .int (u.2.2.2.1 1), .int (u.2.2.2.2.1 1)])), (tA 1, .inl (cI, 48, .inl (u.1 1))), (oA 1, .inl (cI, 48, .inl (u.2.1 1))), (eA 2, .inr (0, [.ref (tA 2), .ref (oA 2), .int (u.2.2.1 2), .int (u.2.2.2.1 2), .int (u.2.2.2.2.1 2)])), (tA 2, .inl (cI, 48, .inl (u.1 2))), (oA 2, .inl (cI, 48, .inl (u.2.1 2))), (eA 3, .inr (0, [.ref (tA 3), .ref (oA 3), .int (u.2.2.1 3), .int (u.2.2.2.1 3), .int (u.2.2.2.2.1 3)])), (tA 3, .inl (cI, 48, .inl (u.1 3))), (oA 3, .inl (cI, 48, .inl (u.2.1 3))), (eA 4, .inr (0, [.ref (tA 4), .ref (oA 4), .int (u.2.2.1 4), .int (u.2.2.2.1 4), .int (u.2.2.2.2.1 4)])), (tA 4, .inl (cI, 48, .inl (u.1 4))), (oA 4, .inl (cI, 48, .inl (u.2.1 4))), (eA 5, .inr (0, [.ref (tA 5), .ref (oA 5), .int (u.2.2.1 5), .int (u.2.2.2.1 5), .int (u.2.2.2.2.1 5)])), (tA 5, .inl (cI, 48, .inl (u.1 5))), (oA 5, .inl (cI, 48, .inl (u.2.1 5))), (eA 6, .inr (0, [.ref (tA 6), .ref (oA 6), .int (u.2.2.1 6), .int (u.2.2.2.1 6), .int (u.2.2.2.2.1 6)])), (tA 6, .inl (cI, 48, .inl (u.1 6))), (oA 6, .inl (cI, 48, .inl (u.2.1 6))), (eA 7, .inr (0, [.ref (tA 7), .ref (oA 7), .int (u.2.2.1 7), .int (u.2.2.2.1 7), .int (u.2.2.2.2.1 7)])), (tA 7, .inl (cI, 48, .inl (u.1 7))), (oA 7, .inl (cI, 48, .inl (u.2.1 7))), (a0, .inr (0, [.ref a1, .ref a2, .int co, .int ro, .int sl])), (a1, .inl (cI, 48, .inl th)), (a2, .inl (cI, 48, .inl ow))]) : J X 3 0 0 0 [(0, .ref s0), (1, .ref a0)] [] [(s0, .inr (5, [.ref s1, .int (nI nx), .int (nI sz)])), (s1, .inl (cE, 8, .inr (.inr (.inr (.inr (aS eA)))))), (eA 0, .inr (0, [.ref (tA 0), .ref (oA 0), .int (coS 0), .int (roS 0), .int (slS 0)])), (tA 0, .inl (cI, 48, .inl (thS 0))), (oA 0, .inl (cI, 48, .inl (owS 0))), (eA 1, .inr (0, [.ref (tA 1), .ref (oA 1), .int (coS 1), .int (roS 1), .int (slS 1)])), (tA 1, .inl (cI, 48, .inl (thS 1))), (oA 1, .inl (cI, 48, .inl (owS 1))), (eA 2, .inr (0, [.ref (tA 2), .ref (oA 2), .int (coS 2), .int (roS 2), .int (slS 2)])), (tA 2, .inl (cI, 48, .inl (thS 2))), (oA 2, .inl (cI, 48, .inl (owS 2))), (eA 3, .inr (0, [.ref (tA 3), .ref (oA 3), .int (coS 3), .int (roS 3), .int (slS 3)])), (tA 3, .inl (cI, 48, .inl (thS 3))), (oA 3, .inl (cI, 48, .inl (owS 3))), (eA 4, .inr (0, [.ref (tA 4), .ref (oA 4), .int (coS 4), .int (roS 4), .int (slS 4)])), (tA 4, .inl (cI, 48, .inl (thS 4))), (oA 4, .inl (cI, 48, .inl (owS 4))), (eA 5, .inr (0, [.ref (tA 5), .ref (oA 5), .int (coS 5), .int (roS 5), .int (slS 5)])), (tA 5, .inl (cI, 48, .inl (thS 5))), (oA 5, .inl (cI, 48, .inl (owS 5))), (eA 6, .inr (0, [.ref (tA 6), .ref (oA 6), .int (coS 6), .int (roS 6), .int (slS 6)])), (tA 6, .inl (cI, 48, .inl (thS 6))), (oA 6, .inl (cI, 48, .inl (owS 6))), (eA 7, .inr (0, [.ref (tA 7), .ref (oA 7), .int (coS 7), .int (roS 7), .int (slS 7)])), (tA 7, .inl (cI, 48, .inl (thS 7))), (oA 7, .inl (cI, 48, .inl (owS 7))), (a0, .inr (0, [.ref a1, .ref a2, .int co, .int ro, .int sl])), (a1, .inl (cI, 48, .inl th)), (a2, .inl (cI, 48, .inl ow))] := by
  have hcs_ : nx = 0 ∨ nx = 1 ∨ nx = 2 ∨ nx = 3 ∨ nx = 4 ∨ nx = 5 ∨ nx = 6 ∨ nx = 7 := by omega
  rcases hcs_ with rfl | rfl | rfl | rfl | rfl | rfl | rfl | rfl
  · skip
    refine J_aload_n h (i := 0) dX5_push_0 rfl 0 rfl ?_
    refine J_get h inX5 rfl 0 1 (by decide) rfl rfl nf_X5_7 dX5_push_1 ?_
    refine J_if_lt h 19 dX5_push_4 (by decide) (fun z => absurd z (by decide)) (fun _ => ?_)
    refine J_aload_n h (i := 0) dX5_push_7 rfl 0 rfl ?_
    refine J_get h inX5 rfl 0 1 (by decide) rfl rfl nf_X5_7 dX5_push_8 ?_
    refine J_aload_n h (i := 0) dX5_push_11 rfl 0 rfl ?_
    refine J_get h inX5 rfl 0 0 (by decide) rfl rfl nf_X5_24 dX5_push_12 ?_
    refine J_alenE h 1 rfl dX5_push_15 ?_
    refine J_icmp_lt h 20 dX5_push_16 (by decide) (fun _ => ?_) (fun z => absurd z (by decide))
    refine J_aload_n h (i := 0) dX5_push_20 rfl 0 rfl ?_
    refine J_get h inX5 rfl 0 0 (by decide) rfl rfl nf_X5_24 dX5_push_21 ?_
    refine J_aload_n h (i := 0) dX5_push_24 rfl 0 rfl ?_
    refine J_get h inX5 rfl 0 1 (by decide) rfl rfl nf_X5_7 dX5_push_25 ?_
    refine N_aald h (b := (eA 0)) 1 rfl (by decide) (by omega) (by rfl) dX5_push_28 ?_
    refine J_astore_n h (i := 2) (lv' := [(2, .ref (eA 0)), (0, .ref s0), (1, .ref a0)]) dX5_push_29 rfl (by decide) rfl ?_
    refine J_aload_n h (i := 2) dX5_push_30 rfl 0 rfl ?_
    refine J_ifnonnull h 35 dX5_push_31 (by decide) ?_
    refine J_aload_n h (i := 2) dX5_push_35 rfl 0 rfl ?_
    refine J_aload_n h (i := 1) dX5_push_36 rfl 2 rfl ?_
    refine K_vv h (c_X0_copyFrom (xl X) (xD X) cI cE (eA 0) (tA 0) (oA 0) (thS 0) (owS 0) (coS 0) (roS 0) (slS 0) a0 a1 a2 th ow co ro sl ) yv_X0_copyFrom nm_X5_29 (by decide) (by decide) rfl [2, 3, 4, 26, 27, 28] rfl rfl 0 rfl rfl rfl (fun _ => rfl) rfl (Nat.le_of_ble_eq_true rfl) (Nat.le_refl _) (Nat.le_refl _) dX5_push_37 (fun u_37 p_37 => ?_)
    show J X 3 0 0 40 [(2, .ref (eA 0)), (0, .ref s0), (1, .ref a0)] [] [(s0, .inr (5, [.ref s1, .int (nI 0), .int (nI sz)])), (s1, .inl (cE, 8, .inr (.inr (.inr (.inr (aS eA)))))), ((eA 0), .inr (0, [.ref (tA 0), .ref (oA 0), .int co, .int ro, .int sl])), ((tA 0), .inl (cI, 48, .inl th)), ((oA 0), .inl (cI, 48, .inl ow)), (eA 1, .inr (0, [.ref (tA 1), .ref (oA 1), .int (coS 1), .int (roS 1), .int (slS 1)])), (tA 1, .inl (cI, 48, .inl (thS 1))), (oA 1, .inl (cI, 48, .inl (owS 1))), (eA 2, .inr (0, [.ref (tA 2), .ref (oA 2), .int (coS 2), .int (roS 2), .int (slS 2)])), (tA 2, .inl (cI, 48, .inl (thS 2))), (oA 2, .inl (cI, 48, .inl (owS 2))), (eA 3, .inr (0, [.ref (tA 3), .ref (oA 3), .int (coS 3), .int (roS 3), .int (slS 3)])), (tA 3, .inl (cI, 48, .inl (thS 3))), (oA 3, .inl (cI, 48, .inl (owS 3))), (eA 4, .inr (0, [.ref (tA 4), .ref (oA 4), .int (coS 4), .int (roS 4), .int (slS 4)])), (tA 4, .inl (cI, 48, .inl (thS 4))), (oA 4, .inl (cI, 48, .inl (owS 4))), (eA 5, .inr (0, [.ref (tA 5), .ref (oA 5), .int (coS 5), .int (roS 5), .int (slS 5)])), (tA 5, .inl (cI, 48, .inl (thS 5))), (oA 5, .inl (cI, 48, .inl (owS 5))), (eA 6, .inr (0, [.ref (tA 6), .ref (oA 6), .int (coS 6), .int (roS 6), .int (slS 6)])), (tA 6, .inl (cI, 48, .inl (thS 6))), (oA 6, .inl (cI, 48, .inl (owS 6))), (eA 7, .inr (0, [.ref (tA 7), .ref (oA 7), .int (coS 7), .int (roS 7), .int (slS 7)])), (tA 7, .inl (cI, 48, .inl (thS 7))), (oA 7, .inl (cI, 48, .inl (owS 7))), (a0, .inr (0, [.ref a1, .ref a2, .int co, .int ro, .int sl])), (a1, .inl (cI, 48, .inl th)), (a2, .inl (cI, 48, .inl ow))]
    refine J_aload_n h (i := 0) dX5_push_40 rfl 1 rfl ?_
    refine J_aload_n h (i := 0) dX5_push_41 rfl 1 rfl ?_
    refine J_get h inX5 rfl 0 1 (by decide) rfl rfl nf_X5_7 dX5_push_42 ?_
    refine J_iconst h (v := nI 1) dX5_push_45 (by decide) ?_
    refine N_iadd h dX5_push_46 ?_
    refine J_eqs (st' := [.int (nI 1), .ref s0]) rfl ?_
    refine J_aload_n h (i := 0) dX5_push_47 rfl 1 rfl ?_
    refine J_get h inX5 rfl 0 0 (by decide) rfl rfl nf_X5_24 dX5_push_48 ?_
    refine J_alenE h 1 rfl dX5_push_51 ?_
    refine J_icmp_ge h 64 dX5_push_52 (by decide) (fun z => absurd z (by decide)) (fun _ => ?_)
    refine J_aload_n h (i := 0) dX5_push_55 rfl 1 rfl ?_
    refine J_get h inX5 rfl 0 1 (by decide) rfl rfl nf_X5_7 dX5_push_56 ?_
    refine J_iconst h (v := nI 1) dX5_push_59 (by decide) ?_
    refine N_iadd h dX5_push_60 ?_
    refine J_eqs (st' := [.int (nI 1), .ref s0]) rfl ?_
    refine J_goto h 65 dX5_push_61 (by decide) ?_
    refine J_put h (ws' := [(s0, .inr (5, [.ref s1, .int (nI 1), .int (nI sz)])), (s1, .inl (cE, 8, .inr (.inr (.inr (.inr (aS eA)))))), ((eA 0), .inr (0, [.ref (tA 0), .ref (oA 0), .int co, .int ro, .int sl])), ((tA 0), .inl (cI, 48, .inl th)), ((oA 0), .inl (cI, 48, .inl ow)), (eA 1, .inr (0, [.ref (tA 1), .ref (oA 1), .int (coS 1), .int (roS 1), .int (slS 1)])), (tA 1, .inl (cI, 48, .inl (thS 1))), (oA 1, .inl (cI, 48, .inl (owS 1))), (eA 2, .inr (0, [.ref (tA 2), .ref (oA 2), .int (coS 2), .int (roS 2), .int (slS 2)])), (tA 2, .inl (cI, 48, .inl (thS 2))), (oA 2, .inl (cI, 48, .inl (owS 2))), (eA 3, .inr (0, [.ref (tA 3), .ref (oA 3), .int (coS 3), .int (roS 3), .int (slS 3)])), (tA 3, .inl (cI, 48, .inl (thS 3))), (oA 3, .inl (cI, 48, .inl (owS 3))), (eA 4, .inr (0, [.ref (tA 4), .ref (oA 4), .int (coS 4), .int (roS 4), .int (slS 4)])), (tA 4, .inl (cI, 48, .inl (thS 4))), (oA 4, .inl (cI, 48, .inl (owS 4))), (eA 5, .inr (0, [.ref (tA 5), .ref (oA 5), .int (coS 5), .int (roS 5), .int (slS 5)])), (tA 5, .inl (cI, 48, .inl (thS 5))), (oA 5, .inl (cI, 48, .inl (owS 5))), (eA 6, .inr (0, [.ref (tA 6), .ref (oA 6), .int (coS 6), .int (roS 6), .int (slS 6)])), (tA 6, .inl (cI, 48, .inl (thS 6))), (oA 6, .inl (cI, 48, .inl (owS 6))), (eA 7, .inr (0, [.ref (tA 7), .ref (oA 7), .int (coS 7), .int (roS 7), .int (slS 7)])), (tA 7, .inl (cI, 48, .inl (thS 7))), (oA 7, .inl (cI, 48, .inl (owS 7))), (a0, .inr (0, [.ref a1, .ref a2, .int co, .int ro, .int sl])), (a1, .inl (cI, 48, .inl th)), (a2, .inl (cI, 48, .inl ow))]) inX5 tyX5 tyX5_ok nmX5 rfl 0 1 (by decide) rfl nf_X5_7 rfl rfl rfl rfl (Nat.le_of_ble_eq_true rfl) dX5_push_65 rfl ?_
    refine J_aload_n h (i := 0) dX5_push_68 rfl 1 rfl ?_
    refine J_aload_n h (i := 0) dX5_push_69 rfl 1 rfl ?_
    refine J_get h inX5 rfl 0 2 (by decide) rfl rfl nf_X5_13 dX5_push_70 ?_
    refine J_iconst h (v := nI 1) dX5_push_73 (by decide) ?_
    refine N_iadd h dX5_push_74 ?_
    refine J_aload_n h (i := 0) dX5_push_75 rfl 1 rfl ?_
    refine J_get h inX5 rfl 0 0 (by decide) rfl rfl nf_X5_24 dX5_push_76 ?_
    refine J_alenE h 1 rfl dX5_push_79 ?_
    refine J_min h (by decide) nm_X5_33 (Nat.zero_le _) (Nat.zero_le _) (Nat.le_of_ble_eq_true rfl) dX5_push_80 ?_
    rw [show (if (nI 8) < (nI (sz + 1)) then (nI 8) else (nI (sz + 1))) = nI (min (sz + 1) 8) from by exact minN (by omega) (by decide)]
    refine J_put h (ws' := [(s0, .inr (5, [.ref s1, .int (nI 1), .int (nI (min (sz + 1) 8))])), (s1, .inl (cE, 8, .inr (.inr (.inr (.inr (aS eA)))))), ((eA 0), .inr (0, [.ref (tA 0), .ref (oA 0), .int co, .int ro, .int sl])), ((tA 0), .inl (cI, 48, .inl th)), ((oA 0), .inl (cI, 48, .inl ow)), (eA 1, .inr (0, [.ref (tA 1), .ref (oA 1), .int (coS 1), .int (roS 1), .int (slS 1)])), (tA 1, .inl (cI, 48, .inl (thS 1))), (oA 1, .inl (cI, 48, .inl (owS 1))), (eA 2, .inr (0, [.ref (tA 2), .ref (oA 2), .int (coS 2), .int (roS 2), .int (slS 2)])), (tA 2, .inl (cI, 48, .inl (thS 2))), (oA 2, .inl (cI, 48, .inl (owS 2))), (eA 3, .inr (0, [.ref (tA 3), .ref (oA 3), .int (coS 3), .int (roS 3), .int (slS 3)])), (tA 3, .inl (cI, 48, .inl (thS 3))), (oA 3, .inl (cI, 48, .inl (owS 3))), (eA 4, .inr (0, [.ref (tA 4), .ref (oA 4), .int (coS 4), .int (roS 4), .int (slS 4)])), (tA 4, .inl (cI, 48, .inl (thS 4))), (oA 4, .inl (cI, 48, .inl (owS 4))), (eA 5, .inr (0, [.ref (tA 5), .ref (oA 5), .int (coS 5), .int (roS 5), .int (slS 5)])), (tA 5, .inl (cI, 48, .inl (thS 5))), (oA 5, .inl (cI, 48, .inl (owS 5))), (eA 6, .inr (0, [.ref (tA 6), .ref (oA 6), .int (coS 6), .int (roS 6), .int (slS 6)])), (tA 6, .inl (cI, 48, .inl (thS 6))), (oA 6, .inl (cI, 48, .inl (owS 6))), (eA 7, .inr (0, [.ref (tA 7), .ref (oA 7), .int (coS 7), .int (roS 7), .int (slS 7)])), (tA 7, .inl (cI, 48, .inl (thS 7))), (oA 7, .inl (cI, 48, .inl (owS 7))), (a0, .inr (0, [.ref a1, .ref a2, .int co, .int ro, .int sl])), (a1, .inl (cI, 48, .inl th)), (a2, .inl (cI, 48, .inl ow))]) inX5 tyX5 tyX5_ok nmX5 rfl 0 2 (by decide) rfl nf_X5_13 rfl rfl rfl rfl (Nat.le_of_ble_eq_true rfl) dX5_push_83 rfl ?_
    exact hR (va_up thS 0 th, va_up owS 0 ow, va_up coS 0 co, va_up roS 0 ro, va_up slS 0 sl, 1, min (sz + 1) 8) (⟨(by first | rfl | ((try dsimp only); first | assumption | omega | rfl)), (by first | rfl | ((try dsimp only); first | assumption | omega | rfl)), (by first | rfl | ((try dsimp only); first | assumption | omega | rfl)), (by first | rfl | ((try dsimp only); first | assumption | omega | rfl)), (by first | rfl | ((try dsimp only); first | assumption | omega | rfl)), (by first | rfl | ((try dsimp only); first | assumption | omega | rfl)), (by first | rfl | ((try dsimp only); first | assumption | omega | rfl)), trivial⟩) 86 _ dX5_push_86
  · skip
    refine J_aload_n h (i := 0) dX5_push_0 rfl 0 rfl ?_
    refine J_get h inX5 rfl 0 1 (by decide) rfl rfl nf_X5_7 dX5_push_1 ?_
    refine J_if_lt h 19 dX5_push_4 (by decide) (fun z => absurd z (by decide)) (fun _ => ?_)
    refine J_aload_n h (i := 0) dX5_push_7 rfl 0 rfl ?_
    refine J_get h inX5 rfl 0 1 (by decide) rfl rfl nf_X5_7 dX5_push_8 ?_
    refine J_aload_n h (i := 0) dX5_push_11 rfl 0 rfl ?_
    refine J_get h inX5 rfl 0 0 (by decide) rfl rfl nf_X5_24 dX5_push_12 ?_
    refine J_alenE h 1 rfl dX5_push_15 ?_
    refine J_icmp_lt h 20 dX5_push_16 (by decide) (fun _ => ?_) (fun z => absurd z (by decide))
    refine J_aload_n h (i := 0) dX5_push_20 rfl 0 rfl ?_
    refine J_get h inX5 rfl 0 0 (by decide) rfl rfl nf_X5_24 dX5_push_21 ?_
    refine J_aload_n h (i := 0) dX5_push_24 rfl 0 rfl ?_
    refine J_get h inX5 rfl 0 1 (by decide) rfl rfl nf_X5_7 dX5_push_25 ?_
    refine N_aald h (b := (eA 1)) 1 rfl (by decide) (by omega) (by rfl) dX5_push_28 ?_
    refine J_astore_n h (i := 2) (lv' := [(2, .ref (eA 1)), (0, .ref s0), (1, .ref a0)]) dX5_push_29 rfl (by decide) rfl ?_
    refine J_aload_n h (i := 2) dX5_push_30 rfl 0 rfl ?_
    refine J_ifnonnull h 35 dX5_push_31 (by decide) ?_
    refine J_aload_n h (i := 2) dX5_push_35 rfl 0 rfl ?_
    refine J_aload_n h (i := 1) dX5_push_36 rfl 2 rfl ?_
    refine K_vv h (c_X0_copyFrom (xl X) (xD X) cI cE (eA 1) (tA 1) (oA 1) (thS 1) (owS 1) (coS 1) (roS 1) (slS 1) a0 a1 a2 th ow co ro sl ) yv_X0_copyFrom nm_X5_29 (by decide) (by decide) rfl [5, 6, 7, 26, 27, 28] rfl rfl 0 rfl rfl rfl (fun _ => rfl) rfl (Nat.le_of_ble_eq_true rfl) (Nat.le_refl _) (Nat.le_refl _) dX5_push_37 (fun u_37 p_37 => ?_)
    show J X 3 0 0 40 [(2, .ref (eA 1)), (0, .ref s0), (1, .ref a0)] [] [(s0, .inr (5, [.ref s1, .int (nI 1), .int (nI sz)])), (s1, .inl (cE, 8, .inr (.inr (.inr (.inr (aS eA)))))), (eA 0, .inr (0, [.ref (tA 0), .ref (oA 0), .int (coS 0), .int (roS 0), .int (slS 0)])), (tA 0, .inl (cI, 48, .inl (thS 0))), (oA 0, .inl (cI, 48, .inl (owS 0))), ((eA 1), .inr (0, [.ref (tA 1), .ref (oA 1), .int co, .int ro, .int sl])), ((tA 1), .inl (cI, 48, .inl th)), ((oA 1), .inl (cI, 48, .inl ow)), (eA 2, .inr (0, [.ref (tA 2), .ref (oA 2), .int (coS 2), .int (roS 2), .int (slS 2)])), (tA 2, .inl (cI, 48, .inl (thS 2))), (oA 2, .inl (cI, 48, .inl (owS 2))), (eA 3, .inr (0, [.ref (tA 3), .ref (oA 3), .int (coS 3), .int (roS 3), .int (slS 3)])), (tA 3, .inl (cI, 48, .inl (thS 3))), (oA 3, .inl (cI, 48, .inl (owS 3))), (eA 4, .inr (0, [.ref (tA 4), .ref (oA 4), .int (coS 4), .int (roS 4), .int (slS 4)])), (tA 4, .inl (cI, 48, .inl (thS 4))), (oA 4, .inl (cI, 48, .inl (owS 4))), (eA 5, .inr (0, [.ref (tA 5), .ref (oA 5), .int (coS 5), .int (roS 5), .int (slS 5)])), (tA 5, .inl (cI, 48, .inl (thS 5))), (oA 5, .inl (cI, 48, .inl (owS 5))), (eA 6, .inr (0, [.ref (tA 6), .ref (oA 6), .int (coS 6), .int (roS 6), .int (slS 6)])), (tA 6, .inl (cI, 48, .inl (thS 6))), (oA 6, .inl (cI, 48, .inl (owS 6))), (eA 7, .inr (0, [.ref (tA 7), .ref (oA 7), .int (coS 7), .int (roS 7), .int (slS 7)])), (tA 7, .inl (cI, 48, .inl (thS 7))), (oA 7, .inl (cI, 48, .inl (owS 7))), (a0, .inr (0, [.ref a1, .ref a2, .int co, .int ro, .int sl])), (a1, .inl (cI, 48, .inl th)), (a2, .inl (cI, 48, .inl ow))]
    refine J_aload_n h (i := 0) dX5_push_40 rfl 1 rfl ?_
    refine J_aload_n h (i := 0) dX5_push_41 rfl 1 rfl ?_
    refine J_get h inX5 rfl 0 1 (by decide) rfl rfl nf_X5_7 dX5_push_42 ?_
    refine J_iconst h (v := nI 1) dX5_push_45 (by decide) ?_
    refine N_iadd h dX5_push_46 ?_
    refine J_eqs (st' := [.int (nI 2), .ref s0]) rfl ?_
    refine J_aload_n h (i := 0) dX5_push_47 rfl 1 rfl ?_
    refine J_get h inX5 rfl 0 0 (by decide) rfl rfl nf_X5_24 dX5_push_48 ?_
    refine J_alenE h 1 rfl dX5_push_51 ?_
    refine J_icmp_ge h 64 dX5_push_52 (by decide) (fun z => absurd z (by decide)) (fun _ => ?_)
    refine J_aload_n h (i := 0) dX5_push_55 rfl 1 rfl ?_
    refine J_get h inX5 rfl 0 1 (by decide) rfl rfl nf_X5_7 dX5_push_56 ?_
    refine J_iconst h (v := nI 1) dX5_push_59 (by decide) ?_
    refine N_iadd h dX5_push_60 ?_
    refine J_eqs (st' := [.int (nI 2), .ref s0]) rfl ?_
    refine J_goto h 65 dX5_push_61 (by decide) ?_
    refine J_put h (ws' := [(s0, .inr (5, [.ref s1, .int (nI 2), .int (nI sz)])), (s1, .inl (cE, 8, .inr (.inr (.inr (.inr (aS eA)))))), (eA 0, .inr (0, [.ref (tA 0), .ref (oA 0), .int (coS 0), .int (roS 0), .int (slS 0)])), (tA 0, .inl (cI, 48, .inl (thS 0))), (oA 0, .inl (cI, 48, .inl (owS 0))), ((eA 1), .inr (0, [.ref (tA 1), .ref (oA 1), .int co, .int ro, .int sl])), ((tA 1), .inl (cI, 48, .inl th)), ((oA 1), .inl (cI, 48, .inl ow)), (eA 2, .inr (0, [.ref (tA 2), .ref (oA 2), .int (coS 2), .int (roS 2), .int (slS 2)])), (tA 2, .inl (cI, 48, .inl (thS 2))), (oA 2, .inl (cI, 48, .inl (owS 2))), (eA 3, .inr (0, [.ref (tA 3), .ref (oA 3), .int (coS 3), .int (roS 3), .int (slS 3)])), (tA 3, .inl (cI, 48, .inl (thS 3))), (oA 3, .inl (cI, 48, .inl (owS 3))), (eA 4, .inr (0, [.ref (tA 4), .ref (oA 4), .int (coS 4), .int (roS 4), .int (slS 4)])), (tA 4, .inl (cI, 48, .inl (thS 4))), (oA 4, .inl (cI, 48, .inl (owS 4))), (eA 5, .inr (0, [.ref (tA 5), .ref (oA 5), .int (coS 5), .int (roS 5), .int (slS 5)])), (tA 5, .inl (cI, 48, .inl (thS 5))), (oA 5, .inl (cI, 48, .inl (owS 5))), (eA 6, .inr (0, [.ref (tA 6), .ref (oA 6), .int (coS 6), .int (roS 6), .int (slS 6)])), (tA 6, .inl (cI, 48, .inl (thS 6))), (oA 6, .inl (cI, 48, .inl (owS 6))), (eA 7, .inr (0, [.ref (tA 7), .ref (oA 7), .int (coS 7), .int (roS 7), .int (slS 7)])), (tA 7, .inl (cI, 48, .inl (thS 7))), (oA 7, .inl (cI, 48, .inl (owS 7))), (a0, .inr (0, [.ref a1, .ref a2, .int co, .int ro, .int sl])), (a1, .inl (cI, 48, .inl th)), (a2, .inl (cI, 48, .inl ow))]) inX5 tyX5 tyX5_ok nmX5 rfl 0 1 (by decide) rfl nf_X5_7 rfl rfl rfl rfl (Nat.le_of_ble_eq_true rfl) dX5_push_65 rfl ?_
    refine J_aload_n h (i := 0) dX5_push_68 rfl 1 rfl ?_
    refine J_aload_n h (i := 0) dX5_push_69 rfl 1 rfl ?_
    refine J_get h inX5 rfl 0 2 (by decide) rfl rfl nf_X5_13 dX5_push_70 ?_
    refine J_iconst h (v := nI 1) dX5_push_73 (by decide) ?_
    refine N_iadd h dX5_push_74 ?_
    refine J_aload_n h (i := 0) dX5_push_75 rfl 1 rfl ?_
    refine J_get h inX5 rfl 0 0 (by decide) rfl rfl nf_X5_24 dX5_push_76 ?_
    refine J_alenE h 1 rfl dX5_push_79 ?_
    refine J_min h (by decide) nm_X5_33 (Nat.zero_le _) (Nat.zero_le _) (Nat.le_of_ble_eq_true rfl) dX5_push_80 ?_
    rw [show (if (nI 8) < (nI (sz + 1)) then (nI 8) else (nI (sz + 1))) = nI (min (sz + 1) 8) from by exact minN (by omega) (by decide)]
    refine J_put h (ws' := [(s0, .inr (5, [.ref s1, .int (nI 2), .int (nI (min (sz + 1) 8))])), (s1, .inl (cE, 8, .inr (.inr (.inr (.inr (aS eA)))))), (eA 0, .inr (0, [.ref (tA 0), .ref (oA 0), .int (coS 0), .int (roS 0), .int (slS 0)])), (tA 0, .inl (cI, 48, .inl (thS 0))), (oA 0, .inl (cI, 48, .inl (owS 0))), ((eA 1), .inr (0, [.ref (tA 1), .ref (oA 1), .int co, .int ro, .int sl])), ((tA 1), .inl (cI, 48, .inl th)), ((oA 1), .inl (cI, 48, .inl ow)), (eA 2, .inr (0, [.ref (tA 2), .ref (oA 2), .int (coS 2), .int (roS 2), .int (slS 2)])), (tA 2, .inl (cI, 48, .inl (thS 2))), (oA 2, .inl (cI, 48, .inl (owS 2))), (eA 3, .inr (0, [.ref (tA 3), .ref (oA 3), .int (coS 3), .int (roS 3), .int (slS 3)])), (tA 3, .inl (cI, 48, .inl (thS 3))), (oA 3, .inl (cI, 48, .inl (owS 3))), (eA 4, .inr (0, [.ref (tA 4), .ref (oA 4), .int (coS 4), .int (roS 4), .int (slS 4)])), (tA 4, .inl (cI, 48, .inl (thS 4))), (oA 4, .inl (cI, 48, .inl (owS 4))), (eA 5, .inr (0, [.ref (tA 5), .ref (oA 5), .int (coS 5), .int (roS 5), .int (slS 5)])), (tA 5, .inl (cI, 48, .inl (thS 5))), (oA 5, .inl (cI, 48, .inl (owS 5))), (eA 6, .inr (0, [.ref (tA 6), .ref (oA 6), .int (coS 6), .int (roS 6), .int (slS 6)])), (tA 6, .inl (cI, 48, .inl (thS 6))), (oA 6, .inl (cI, 48, .inl (owS 6))), (eA 7, .inr (0, [.ref (tA 7), .ref (oA 7), .int (coS 7), .int (roS 7), .int (slS 7)])), (tA 7, .inl (cI, 48, .inl (thS 7))), (oA 7, .inl (cI, 48, .inl (owS 7))), (a0, .inr (0, [.ref a1, .ref a2, .int co, .int ro, .int sl])), (a1, .inl (cI, 48, .inl th)), (a2, .inl (cI, 48, .inl ow))]) inX5 tyX5 tyX5_ok nmX5 rfl 0 2 (by decide) rfl nf_X5_13 rfl rfl rfl rfl (Nat.le_of_ble_eq_true rfl) dX5_push_83 rfl ?_
    exact hR (va_up thS 1 th, va_up owS 1 ow, va_up coS 1 co, va_up roS 1 ro, va_up slS 1 sl, 2, min (sz + 1) 8) (⟨(by first | rfl | ((try dsimp only); first | assumption | omega | rfl)), (by first | rfl | ((try dsimp only); first | assumption | omega | rfl)), (by first | rfl | ((try dsimp only); first | assumption | omega | rfl)), (by first | rfl | ((try dsimp only); first | assumption | omega | rfl)), (by first | rfl | ((try dsimp only); first | assumption | omega | rfl)), (by first | rfl | ((try dsimp only); first | assumption | omega | rfl)), (by first | rfl | ((try dsimp only); first | assumption | omega | rfl)), trivial⟩) 86 _ dX5_push_86
  · skip
    refine J_aload_n h (i := 0) dX5_push_0 rfl 0 rfl ?_
    refine J_get h inX5 rfl 0 1 (by decide) rfl rfl nf_X5_7 dX5_push_1 ?_
    refine J_if_lt h 19 dX5_push_4 (by decide) (fun z => absurd z (by decide)) (fun _ => ?_)
    refine J_aload_n h (i := 0) dX5_push_7 rfl 0 rfl ?_
    refine J_get h inX5 rfl 0 1 (by decide) rfl rfl nf_X5_7 dX5_push_8 ?_
    refine J_aload_n h (i := 0) dX5_push_11 rfl 0 rfl ?_
    refine J_get h inX5 rfl 0 0 (by decide) rfl rfl nf_X5_24 dX5_push_12 ?_
    refine J_alenE h 1 rfl dX5_push_15 ?_
    refine J_icmp_lt h 20 dX5_push_16 (by decide) (fun _ => ?_) (fun z => absurd z (by decide))
    refine J_aload_n h (i := 0) dX5_push_20 rfl 0 rfl ?_
    refine J_get h inX5 rfl 0 0 (by decide) rfl rfl nf_X5_24 dX5_push_21 ?_
    refine J_aload_n h (i := 0) dX5_push_24 rfl 0 rfl ?_
    refine J_get h inX5 rfl 0 1 (by decide) rfl rfl nf_X5_7 dX5_push_25 ?_
    refine N_aald h (b := (eA 2)) 1 rfl (by decide) (by omega) (by rfl) dX5_push_28 ?_
    refine J_astore_n h (i := 2) (lv' := [(2, .ref (eA 2)), (0, .ref s0), (1, .ref a0)]) dX5_push_29 rfl (by decide) rfl ?_
    refine J_aload_n h (i := 2) dX5_push_30 rfl 0 rfl ?_
    refine J_ifnonnull h 35 dX5_push_31 (by decide) ?_
    refine J_aload_n h (i := 2) dX5_push_35 rfl 0 rfl ?_
    refine J_aload_n h (i := 1) dX5_push_36 rfl 2 rfl ?_
    refine K_vv h (c_X0_copyFrom (xl X) (xD X) cI cE (eA 2) (tA 2) (oA 2) (thS 2) (owS 2) (coS 2) (roS 2) (slS 2) a0 a1 a2 th ow co ro sl ) yv_X0_copyFrom nm_X5_29 (by decide) (by decide) rfl [8, 9, 10, 26, 27, 28] rfl rfl 0 rfl rfl rfl (fun _ => rfl) rfl (Nat.le_of_ble_eq_true rfl) (Nat.le_refl _) (Nat.le_refl _) dX5_push_37 (fun u_37 p_37 => ?_)
    show J X 3 0 0 40 [(2, .ref (eA 2)), (0, .ref s0), (1, .ref a0)] [] [(s0, .inr (5, [.ref s1, .int (nI 2), .int (nI sz)])), (s1, .inl (cE, 8, .inr (.inr (.inr (.inr (aS eA)))))), (eA 0, .inr (0, [.ref (tA 0), .ref (oA 0), .int (coS 0), .int (roS 0), .int (slS 0)])), (tA 0, .inl (cI, 48, .inl (thS 0))), (oA 0, .inl (cI, 48, .inl (owS 0))), (eA 1, .inr (0, [.ref (tA 1), .ref (oA 1), .int (coS 1), .int (roS 1), .int (slS 1)])), (tA 1, .inl (cI, 48, .inl (thS 1))), (oA 1, .inl (cI, 48, .inl (owS 1))), ((eA 2), .inr (0, [.ref (tA 2), .ref (oA 2), .int co, .int ro, .int sl])), ((tA 2), .inl (cI, 48, .inl th)), ((oA 2), .inl (cI, 48, .inl ow)), (eA 3, .inr (0, [.ref (tA 3), .ref (oA 3), .int (coS 3), .int (roS 3), .int (slS 3)])), (tA 3, .inl (cI, 48, .inl (thS 3))), (oA 3, .inl (cI, 48, .inl (owS 3))), (eA 4, .inr (0, [.ref (tA 4), .ref (oA 4), .int (coS 4), .int (roS 4), .int (slS 4)])), (tA 4, .inl (cI, 48, .inl (thS 4))), (oA 4, .inl (cI, 48, .inl (owS 4))), (eA 5, .inr (0, [.ref (tA 5), .ref (oA 5), .int (coS 5), .int (roS 5), .int (slS 5)])), (tA 5, .inl (cI, 48, .inl (thS 5))), (oA 5, .inl (cI, 48, .inl (owS 5))), (eA 6, .inr (0, [.ref (tA 6), .ref (oA 6), .int (coS 6), .int (roS 6), .int (slS 6)])), (tA 6, .inl (cI, 48, .inl (thS 6))), (oA 6, .inl (cI, 48, .inl (owS 6))), (eA 7, .inr (0, [.ref (tA 7), .ref (oA 7), .int (coS 7), .int (roS 7), .int (slS 7)])), (tA 7, .inl (cI, 48, .inl (thS 7))), (oA 7, .inl (cI, 48, .inl (owS 7))), (a0, .inr (0, [.ref a1, .ref a2, .int co, .int ro, .int sl])), (a1, .inl (cI, 48, .inl th)), (a2, .inl (cI, 48, .inl ow))]
    refine J_aload_n h (i := 0) dX5_push_40 rfl 1 rfl ?_
    refine J_aload_n h (i := 0) dX5_push_41 rfl 1 rfl ?_
    refine J_get h inX5 rfl 0 1 (by decide) rfl rfl nf_X5_7 dX5_push_42 ?_
    refine J_iconst h (v := nI 1) dX5_push_45 (by decide) ?_
    refine N_iadd h dX5_push_46 ?_
    refine J_eqs (st' := [.int (nI 3), .ref s0]) rfl ?_
    refine J_aload_n h (i := 0) dX5_push_47 rfl 1 rfl ?_
    refine J_get h inX5 rfl 0 0 (by decide) rfl rfl nf_X5_24 dX5_push_48 ?_
    refine J_alenE h 1 rfl dX5_push_51 ?_
    refine J_icmp_ge h 64 dX5_push_52 (by decide) (fun z => absurd z (by decide)) (fun _ => ?_)
    refine J_aload_n h (i := 0) dX5_push_55 rfl 1 rfl ?_
    refine J_get h inX5 rfl 0 1 (by decide) rfl rfl nf_X5_7 dX5_push_56 ?_
    refine J_iconst h (v := nI 1) dX5_push_59 (by decide) ?_
    refine N_iadd h dX5_push_60 ?_
    refine J_eqs (st' := [.int (nI 3), .ref s0]) rfl ?_
    refine J_goto h 65 dX5_push_61 (by decide) ?_
    refine J_put h (ws' := [(s0, .inr (5, [.ref s1, .int (nI 3), .int (nI sz)])), (s1, .inl (cE, 8, .inr (.inr (.inr (.inr (aS eA)))))), (eA 0, .inr (0, [.ref (tA 0), .ref (oA 0), .int (coS 0), .int (roS 0), .int (slS 0)])), (tA 0, .inl (cI, 48, .inl (thS 0))), (oA 0, .inl (cI, 48, .inl (owS 0))), (eA 1, .inr (0, [.ref (tA 1), .ref (oA 1), .int (coS 1), .int (roS 1), .int (slS 1)])), (tA 1, .inl (cI, 48, .inl (thS 1))), (oA 1, .inl (cI, 48, .inl (owS 1))), ((eA 2), .inr (0, [.ref (tA 2), .ref (oA 2), .int co, .int ro, .int sl])), ((tA 2), .inl (cI, 48, .inl th)), ((oA 2), .inl (cI, 48, .inl ow)), (eA 3, .inr (0, [.ref (tA 3), .ref (oA 3), .int (coS 3), .int (roS 3), .int (slS 3)])), (tA 3, .inl (cI, 48, .inl (thS 3))), (oA 3, .inl (cI, 48, .inl (owS 3))), (eA 4, .inr (0, [.ref (tA 4), .ref (oA 4), .int (coS 4), .int (roS 4), .int (slS 4)])), (tA 4, .inl (cI, 48, .inl (thS 4))), (oA 4, .inl (cI, 48, .inl (owS 4))), (eA 5, .inr (0, [.ref (tA 5), .ref (oA 5), .int (coS 5), .int (roS 5), .int (slS 5)])), (tA 5, .inl (cI, 48, .inl (thS 5))), (oA 5, .inl (cI, 48, .inl (owS 5))), (eA 6, .inr (0, [.ref (tA 6), .ref (oA 6), .int (coS 6), .int (roS 6), .int (slS 6)])), (tA 6, .inl (cI, 48, .inl (thS 6))), (oA 6, .inl (cI, 48, .inl (owS 6))), (eA 7, .inr (0, [.ref (tA 7), .ref (oA 7), .int (coS 7), .int (roS 7), .int (slS 7)])), (tA 7, .inl (cI, 48, .inl (thS 7))), (oA 7, .inl (cI, 48, .inl (owS 7))), (a0, .inr (0, [.ref a1, .ref a2, .int co, .int ro, .int sl])), (a1, .inl (cI, 48, .inl th)), (a2, .inl (cI, 48, .inl ow))]) inX5 tyX5 tyX5_ok nmX5 rfl 0 1 (by decide) rfl nf_X5_7 rfl rfl rfl rfl (Nat.le_of_ble_eq_true rfl) dX5_push_65 rfl ?_
    refine J_aload_n h (i := 0) dX5_push_68 rfl 1 rfl ?_
    refine J_aload_n h (i := 0) dX5_push_69 rfl 1 rfl ?_
    refine J_get h inX5 rfl 0 2 (by decide) rfl rfl nf_X5_13 dX5_push_70 ?_
    refine J_iconst h (v := nI 1) dX5_push_73 (by decide) ?_
    refine N_iadd h dX5_push_74 ?_
    refine J_aload_n h (i := 0) dX5_push_75 rfl 1 rfl ?_
    refine J_get h inX5 rfl 0 0 (by decide) rfl rfl nf_X5_24 dX5_push_76 ?_
    refine J_alenE h 1 rfl dX5_push_79 ?_
    refine J_min h (by decide) nm_X5_33 (Nat.zero_le _) (Nat.zero_le _) (Nat.le_of_ble_eq_true rfl) dX5_push_80 ?_
    rw [show (if (nI 8) < (nI (sz + 1)) then (nI 8) else (nI (sz + 1))) = nI (min (sz + 1) 8) from by exact minN (by omega) (by decide)]
    refine J_put h (ws' := [(s0, .inr (5, [.ref s1, .int (nI 3), .int (nI (min (sz + 1) 8))])), (s1, .inl (cE, 8, .inr (.inr (.inr (.inr (aS eA)))))), (eA 0, .inr (0, [.ref (tA 0), .ref (oA 0), .int (coS 0), .int (roS 0), .int (slS 0)])), (tA 0, .inl (cI, 48, .inl (thS 0))), (oA 0, .inl (cI, 48, .inl (owS 0))), (eA 1, .inr (0, [.ref (tA 1), .ref (oA 1), .int (coS 1), .int (roS 1), .int (slS 1)])), (tA 1, .inl (cI, 48, .inl (thS 1))), (oA 1, .inl (cI, 48, .inl (owS 1))), ((eA 2), .inr (0, [.ref (tA 2), .ref (oA 2), .int co, .int ro, .int sl])), ((tA 2), .inl (cI, 48, .inl th)), ((oA 2), .inl (cI, 48, .inl ow)), (eA 3, .inr (0, [.ref (tA 3), .ref (oA 3), .int (coS 3), .int (roS 3), .int (slS 3)])), (tA 3, .inl (cI, 48, .inl (thS 3))), (oA 3, .inl (cI, 48, .inl (owS 3))), (eA 4, .inr (0, [.ref (tA 4), .ref (oA 4), .int (coS 4), .int (roS 4), .int (slS 4)])), (tA 4, .inl (cI, 48, .inl (thS 4))), (oA 4, .inl (cI, 48, .inl (owS 4))), (eA 5, .inr (0, [.ref (tA 5), .ref (oA 5), .int (coS 5), .int (roS 5), .int (slS 5)])), (tA 5, .inl (cI, 48, .inl (thS 5))), (oA 5, .inl (cI, 48, .inl (owS 5))), (eA 6, .inr (0, [.ref (tA 6), .ref (oA 6), .int (coS 6), .int (roS 6), .int (slS 6)])), (tA 6, .inl (cI, 48, .inl (thS 6))), (oA 6, .inl (cI, 48, .inl (owS 6))), (eA 7, .inr (0, [.ref (tA 7), .ref (oA 7), .int (coS 7), .int (roS 7), .int (slS 7)])), (tA 7, .inl (cI, 48, .inl (thS 7))), (oA 7, .inl (cI, 48, .inl (owS 7))), (a0, .inr (0, [.ref a1, .ref a2, .int co, .int ro, .int sl])), (a1, .inl (cI, 48, .inl th)), (a2, .inl (cI, 48, .inl ow))]) inX5 tyX5 tyX5_ok nmX5 rfl 0 2 (by decide) rfl nf_X5_13 rfl rfl rfl rfl (Nat.le_of_ble_eq_true rfl) dX5_push_83 rfl ?_
    exact hR (va_up thS 2 th, va_up owS 2 ow, va_up coS 2 co, va_up roS 2 ro, va_up slS 2 sl, 3, min (sz + 1) 8) (⟨(by first | rfl | ((try dsimp only); first | assumption | omega | rfl)), (by first | rfl | ((try dsimp only); first | assumption | omega | rfl)), (by first | rfl | ((try dsimp only); first | assumption | omega | rfl)), (by first | rfl | ((try dsimp only); first | assumption | omega | rfl)), (by first | rfl | ((try dsimp only); first | assumption | omega | rfl)), (by first | rfl | ((try dsimp only); first | assumption | omega | rfl)), (by first | rfl | ((try dsimp only); first | assumption | omega | rfl)), trivial⟩) 86 _ dX5_push_86
  · skip
    refine J_aload_n h (i := 0) dX5_push_0 rfl 0 rfl ?_
    refine J_get h inX5 rfl 0 1 (by decide) rfl rfl nf_X5_7 dX5_push_1 ?_
    refine J_if_lt h 19 dX5_push_4 (by decide) (fun z => absurd z (by decide)) (fun _ => ?_)
    refine J_aload_n h (i := 0) dX5_push_7 rfl 0 rfl ?_
    refine J_get h inX5 rfl 0 1 (by decide) rfl rfl nf_X5_7 dX5_push_8 ?_
    refine J_aload_n h (i := 0) dX5_push_11 rfl 0 rfl ?_
    refine J_get h inX5 rfl 0 0 (by decide) rfl rfl nf_X5_24 dX5_push_12 ?_
    refine J_alenE h 1 rfl dX5_push_15 ?_
    refine J_icmp_lt h 20 dX5_push_16 (by decide) (fun _ => ?_) (fun z => absurd z (by decide))
    refine J_aload_n h (i := 0) dX5_push_20 rfl 0 rfl ?_
    refine J_get h inX5 rfl 0 0 (by decide) rfl rfl nf_X5_24 dX5_push_21 ?_
    refine J_aload_n h (i := 0) dX5_push_24 rfl 0 rfl ?_
    refine J_get h inX5 rfl 0 1 (by decide) rfl rfl nf_X5_7 dX5_push_25 ?_
    refine N_aald h (b := (eA 3)) 1 rfl (by decide) (by omega) (by rfl) dX5_push_28 ?_
    refine J_astore_n h (i := 2) (lv' := [(2, .ref (eA 3)), (0, .ref s0), (1, .ref a0)]) dX5_push_29 rfl (by decide) rfl ?_
    refine J_aload_n h (i := 2) dX5_push_30 rfl 0 rfl ?_
    refine J_ifnonnull h 35 dX5_push_31 (by decide) ?_
    refine J_aload_n h (i := 2) dX5_push_35 rfl 0 rfl ?_
    refine J_aload_n h (i := 1) dX5_push_36 rfl 2 rfl ?_
    refine K_vv h (c_X0_copyFrom (xl X) (xD X) cI cE (eA 3) (tA 3) (oA 3) (thS 3) (owS 3) (coS 3) (roS 3) (slS 3) a0 a1 a2 th ow co ro sl ) yv_X0_copyFrom nm_X5_29 (by decide) (by decide) rfl [11, 12, 13, 26, 27, 28] rfl rfl 0 rfl rfl rfl (fun _ => rfl) rfl (Nat.le_of_ble_eq_true rfl) (Nat.le_refl _) (Nat.le_refl _) dX5_push_37 (fun u_37 p_37 => ?_)
    show J X 3 0 0 40 [(2, .ref (eA 3)), (0, .ref s0), (1, .ref a0)] [] [(s0, .inr (5, [.ref s1, .int (nI 3), .int (nI sz)])), (s1, .inl (cE, 8, .inr (.inr (.inr (.inr (aS eA)))))), (eA 0, .inr (0, [.ref (tA 0), .ref (oA 0), .int (coS 0), .int (roS 0), .int (slS 0)])), (tA 0, .inl (cI, 48, .inl (thS 0))), (oA 0, .inl (cI, 48, .inl (owS 0))), (eA 1, .inr (0, [.ref (tA 1), .ref (oA 1), .int (coS 1), .int (roS 1), .int (slS 1)])), (tA 1, .inl (cI, 48, .inl (thS 1))), (oA 1, .inl (cI, 48, .inl (owS 1))), (eA 2, .inr (0, [.ref (tA 2), .ref (oA 2), .int (coS 2), .int (roS 2), .int (slS 2)])), (tA 2, .inl (cI, 48, .inl (thS 2))), (oA 2, .inl (cI, 48, .inl (owS 2))), ((eA 3), .inr (0, [.ref (tA 3), .ref (oA 3), .int co, .int ro, .int sl])), ((tA 3), .inl (cI, 48, .inl th)), ((oA 3), .inl (cI, 48, .inl ow)), (eA 4, .inr (0, [.ref (tA 4), .ref (oA 4), .int (coS 4), .int (roS 4), .int (slS 4)])), (tA 4, .inl (cI, 48, .inl (thS 4))), (oA 4, .inl (cI, 48, .inl (owS 4))), (eA 5, .inr (0, [.ref (tA 5), .ref (oA 5), .int (coS 5), .int (roS 5), .int (slS 5)])), (tA 5, .inl (cI, 48, .inl (thS 5))), (oA 5, .inl (cI, 48, .inl (owS 5))), (eA 6, .inr (0, [.ref (tA 6), .ref (oA 6), .int (coS 6), .int (roS 6), .int (slS 6)])), (tA 6, .inl (cI, 48, .inl (thS 6))), (oA 6, .inl (cI, 48, .inl (owS 6))), (eA 7, .inr (0, [.ref (tA 7), .ref (oA 7), .int (coS 7), .int (roS 7), .int (slS 7)])), (tA 7, .inl (cI, 48, .inl (thS 7))), (oA 7, .inl (cI, 48, .inl (owS 7))), (a0, .inr (0, [.ref a1, .ref a2, .int co, .int ro, .int sl])), (a1, .inl (cI, 48, .inl th)), (a2, .inl (cI, 48, .inl ow))]
    refine J_aload_n h (i := 0) dX5_push_40 rfl 1 rfl ?_
    refine J_aload_n h (i := 0) dX5_push_41 rfl 1 rfl ?_
    refine J_get h inX5 rfl 0 1 (by decide) rfl rfl nf_X5_7 dX5_push_42 ?_
    refine J_iconst h (v := nI 1) dX5_push_45 (by decide) ?_
    refine N_iadd h dX5_push_46 ?_
    refine J_eqs (st' := [.int (nI 4), .ref s0]) rfl ?_
    refine J_aload_n h (i := 0) dX5_push_47 rfl 1 rfl ?_
    refine J_get h inX5 rfl 0 0 (by decide) rfl rfl nf_X5_24 dX5_push_48 ?_
    refine J_alenE h 1 rfl dX5_push_51 ?_
    refine J_icmp_ge h 64 dX5_push_52 (by decide) (fun z => absurd z (by decide)) (fun _ => ?_)
    refine J_aload_n h (i := 0) dX5_push_55 rfl 1 rfl ?_
    refine J_get h inX5 rfl 0 1 (by decide) rfl rfl nf_X5_7 dX5_push_56 ?_
    refine J_iconst h (v := nI 1) dX5_push_59 (by decide) ?_
    refine N_iadd h dX5_push_60 ?_
    refine J_eqs (st' := [.int (nI 4), .ref s0]) rfl ?_
    refine J_goto h 65 dX5_push_61 (by decide) ?_
    refine J_put h (ws' := [(s0, .inr (5, [.ref s1, .int (nI 4), .int (nI sz)])), (s1, .inl (cE, 8, .inr (.inr (.inr (.inr (aS eA)))))), (eA 0, .inr (0, [.ref (tA 0), .ref (oA 0), .int (coS 0), .int (roS 0), .int (slS 0)])), (tA 0, .inl (cI, 48, .inl (thS 0))), (oA 0, .inl (cI, 48, .inl (owS 0))), (eA 1, .inr (0, [.ref (tA 1), .ref (oA 1), .int (coS 1), .int (roS 1), .int (slS 1)])), (tA 1, .inl (cI, 48, .inl (thS 1))), (oA 1, .inl (cI, 48, .inl (owS 1))), (eA 2, .inr (0, [.ref (tA 2), .ref (oA 2), .int (coS 2), .int (roS 2), .int (slS 2)])), (tA 2, .inl (cI, 48, .inl (thS 2))), (oA 2, .inl (cI, 48, .inl (owS 2))), ((eA 3), .inr (0, [.ref (tA 3), .ref (oA 3), .int co, .int ro, .int sl])), ((tA 3), .inl (cI, 48, .inl th)), ((oA 3), .inl (cI, 48, .inl ow)), (eA 4, .inr (0, [.ref (tA 4), .ref (oA 4), .int (coS 4), .int (roS 4), .int (slS 4)])), (tA 4, .inl (cI, 48, .inl (thS 4))), (oA 4, .inl (cI, 48, .inl (owS 4))), (eA 5, .inr (0, [.ref (tA 5), .ref (oA 5), .int (coS 5), .int (roS 5), .int (slS 5)])), (tA 5, .inl (cI, 48, .inl (thS 5))), (oA 5, .inl (cI, 48, .inl (owS 5))), (eA 6, .inr (0, [.ref (tA 6), .ref (oA 6), .int (coS 6), .int (roS 6), .int (slS 6)])), (tA 6, .inl (cI, 48, .inl (thS 6))), (oA 6, .inl (cI, 48, .inl (owS 6))), (eA 7, .inr (0, [.ref (tA 7), .ref (oA 7), .int (coS 7), .int (roS 7), .int (slS 7)])), (tA 7, .inl (cI, 48, .inl (thS 7))), (oA 7, .inl (cI, 48, .inl (owS 7))), (a0, .inr (0, [.ref a1, .ref a2, .int co, .int ro, .int sl])), (a1, .inl (cI, 48, .inl th)), (a2, .inl (cI, 48, .inl ow))]) inX5 tyX5 tyX5_ok nmX5 rfl 0 1 (by decide) rfl nf_X5_7 rfl rfl rfl rfl (Nat.le_of_ble_eq_true rfl) dX5_push_65 rfl ?_
    refine J_aload_n h (i := 0) dX5_push_68 rfl 1 rfl ?_
    refine J_aload_n h (i := 0) dX5_push_69 rfl 1 rfl ?_
    refine J_get h inX5 rfl 0 2 (by decide) rfl rfl nf_X5_13 dX5_push_70 ?_
    refine J_iconst h (v := nI 1) dX5_push_73 (by decide) ?_
    refine N_iadd h dX5_push_74 ?_
    refine J_aload_n h (i := 0) dX5_push_75 rfl 1 rfl ?_
    refine J_get h inX5 rfl 0 0 (by decide) rfl rfl nf_X5_24 dX5_push_76 ?_
    refine J_alenE h 1 rfl dX5_push_79 ?_
    refine J_min h (by decide) nm_X5_33 (Nat.zero_le _) (Nat.zero_le _) (Nat.le_of_ble_eq_true rfl) dX5_push_80 ?_
    rw [show (if (nI 8) < (nI (sz + 1)) then (nI 8) else (nI (sz + 1))) = nI (min (sz + 1) 8) from by exact minN (by omega) (by decide)]
    refine J_put h (ws' := [(s0, .inr (5, [.ref s1, .int (nI 4), .int (nI (min (sz + 1) 8))])), (s1, .inl (cE, 8, .inr (.inr (.inr (.inr (aS eA)))))), (eA 0, .inr (0, [.ref (tA 0), .ref (oA 0), .int (coS 0), .int (roS 0), .int (slS 0)])), (tA 0, .inl (cI, 48, .inl (thS 0))), (oA 0, .inl (cI, 48, .inl (owS 0))), (eA 1, .inr (0, [.ref (tA 1), .ref (oA 1), .int (coS 1), .int (roS 1), .int (slS 1)])), (tA 1, .inl (cI, 48, .inl (thS 1))), (oA 1, .inl (cI, 48, .inl (owS 1))), (eA 2, .inr (0, [.ref (tA 2), .ref (oA 2), .int (coS 2), .int (roS 2), .int (slS 2)])), (tA 2, .inl (cI, 48, .inl (thS 2))), (oA 2, .inl (cI, 48, .inl (owS 2))), ((eA 3), .inr (0, [.ref (tA 3), .ref (oA 3), .int co, .int ro, .int sl])), ((tA 3), .inl (cI, 48, .inl th)), ((oA 3), .inl (cI, 48, .inl ow)), (eA 4, .inr (0, [.ref (tA 4), .ref (oA 4), .int (coS 4), .int (roS 4), .int (slS 4)])), (tA 4, .inl (cI, 48, .inl (thS 4))), (oA 4, .inl (cI, 48, .inl (owS 4))), (eA 5, .inr (0, [.ref (tA 5), .ref (oA 5), .int (coS 5), .int (roS 5), .int (slS 5)])), (tA 5, .inl (cI, 48, .inl (thS 5))), (oA 5, .inl (cI, 48, .inl (owS 5))), (eA 6, .inr (0, [.ref (tA 6), .ref (oA 6), .int (coS 6), .int (roS 6), .int (slS 6)])), (tA 6, .inl (cI, 48, .inl (thS 6))), (oA 6, .inl (cI, 48, .inl (owS 6))), (eA 7, .inr (0, [.ref (tA 7), .ref (oA 7), .int (coS 7), .int (roS 7), .int (slS 7)])), (tA 7, .inl (cI, 48, .inl (thS 7))), (oA 7, .inl (cI, 48, .inl (owS 7))), (a0, .inr (0, [.ref a1, .ref a2, .int co, .int ro, .int sl])), (a1, .inl (cI, 48, .inl th)), (a2, .inl (cI, 48, .inl ow))]) inX5 tyX5 tyX5_ok nmX5 rfl 0 2 (by decide) rfl nf_X5_13 rfl rfl rfl rfl (Nat.le_of_ble_eq_true rfl) dX5_push_83 rfl ?_
    exact hR (va_up thS 3 th, va_up owS 3 ow, va_up coS 3 co, va_up roS 3 ro, va_up slS 3 sl, 4, min (sz + 1) 8) (⟨(by first | rfl | ((try dsimp only); first | assumption | omega | rfl)), (by first | rfl | ((try dsimp only); first | assumption | omega | rfl)), (by first | rfl | ((try dsimp only); first | assumption | omega | rfl)), (by first | rfl | ((try dsimp only); first | assumption | omega | rfl)), (by first | rfl | ((try dsimp only); first | assumption | omega | rfl)), (by first | rfl | ((try dsimp only); first | assumption | omega | rfl)), (by first | rfl | ((try dsimp only); first | assumption | omega | rfl)), trivial⟩) 86 _ dX5_push_86
  · skip
    refine J_aload_n h (i := 0) dX5_push_0 rfl 0 rfl ?_
    refine J_get h inX5 rfl 0 1 (by decide) rfl rfl nf_X5_7 dX5_push_1 ?_
    refine J_if_lt h 19 dX5_push_4 (by decide) (fun z => absurd z (by decide)) (fun _ => ?_)
    refine J_aload_n h (i := 0) dX5_push_7 rfl 0 rfl ?_
    refine J_get h inX5 rfl 0 1 (by decide) rfl rfl nf_X5_7 dX5_push_8 ?_
    refine J_aload_n h (i := 0) dX5_push_11 rfl 0 rfl ?_
    refine J_get h inX5 rfl 0 0 (by decide) rfl rfl nf_X5_24 dX5_push_12 ?_
    refine J_alenE h 1 rfl dX5_push_15 ?_
    refine J_icmp_lt h 20 dX5_push_16 (by decide) (fun _ => ?_) (fun z => absurd z (by decide))
    refine J_aload_n h (i := 0) dX5_push_20 rfl 0 rfl ?_
    refine J_get h inX5 rfl 0 0 (by decide) rfl rfl nf_X5_24 dX5_push_21 ?_
    refine J_aload_n h (i := 0) dX5_push_24 rfl 0 rfl ?_
    refine J_get h inX5 rfl 0 1 (by decide) rfl rfl nf_X5_7 dX5_push_25 ?_
    refine N_aald h (b := (eA 4)) 1 rfl (by decide) (by omega) (by rfl) dX5_push_28 ?_
    refine J_astore_n h (i := 2) (lv' := [(2, .ref (eA 4)), (0, .ref s0), (1, .ref a0)]) dX5_push_29 rfl (by decide) rfl ?_
    refine J_aload_n h (i := 2) dX5_push_30 rfl 0 rfl ?_
    refine J_ifnonnull h 35 dX5_push_31 (by decide) ?_
    refine J_aload_n h (i := 2) dX5_push_35 rfl 0 rfl ?_
    refine J_aload_n h (i := 1) dX5_push_36 rfl 2 rfl ?_
    refine K_vv h (c_X0_copyFrom (xl X) (xD X) cI cE (eA 4) (tA 4) (oA 4) (thS 4) (owS 4) (coS 4) (roS 4) (slS 4) a0 a1 a2 th ow co ro sl ) yv_X0_copyFrom nm_X5_29 (by decide) (by decide) rfl [14, 15, 16, 26, 27, 28] rfl rfl 0 rfl rfl rfl (fun _ => rfl) rfl (Nat.le_of_ble_eq_true rfl) (Nat.le_refl _) (Nat.le_refl _) dX5_push_37 (fun u_37 p_37 => ?_)
    show J X 3 0 0 40 [(2, .ref (eA 4)), (0, .ref s0), (1, .ref a0)] [] [(s0, .inr (5, [.ref s1, .int (nI 4), .int (nI sz)])), (s1, .inl (cE, 8, .inr (.inr (.inr (.inr (aS eA)))))), (eA 0, .inr (0, [.ref (tA 0), .ref (oA 0), .int (coS 0), .int (roS 0), .int (slS 0)])), (tA 0, .inl (cI, 48, .inl (thS 0))), (oA 0, .inl (cI, 48, .inl (owS 0))), (eA 1, .inr (0, [.ref (tA 1), .ref (oA 1), .int (coS 1), .int (roS 1), .int (slS 1)])), (tA 1, .inl (cI, 48, .inl (thS 1))), (oA 1, .inl (cI, 48, .inl (owS 1))), (eA 2, .inr (0, [.ref (tA 2), .ref (oA 2), .int (coS 2), .int (roS 2), .int (slS 2)])), (tA 2, .inl (cI, 48, .inl (thS 2))), (oA 2, .inl (cI, 48, .inl (owS 2))), (eA 3, .inr (0, [.ref (tA 3), .ref (oA 3), .int (coS 3), .int (roS 3), .int (slS 3)])), (tA 3, .inl (cI, 48, .inl (thS 3))), (oA 3, .inl (cI, 48, .inl (owS 3))), ((eA 4), .inr (0, [.ref (tA 4), .ref (oA 4), .int co, .int ro, .int sl])), ((tA 4), .inl (cI, 48, .inl th)), ((oA 4), .inl (cI, 48, .inl ow)), (eA 5, .inr (0, [.ref (tA 5), .ref (oA 5), .int (coS 5), .int (roS 5), .int (slS 5)])), (tA 5, .inl (cI, 48, .inl (thS 5))), (oA 5, .inl (cI, 48, .inl (owS 5))), (eA 6, .inr (0, [.ref (tA 6), .ref (oA 6), .int (coS 6), .int (roS 6), .int (slS 6)])), (tA 6, .inl (cI, 48, .inl (thS 6))), (oA 6, .inl (cI, 48, .inl (owS 6))), (eA 7, .inr (0, [.ref (tA 7), .ref (oA 7), .int (coS 7), .int (roS 7), .int (slS 7)])), (tA 7, .inl (cI, 48, .inl (thS 7))), (oA 7, .inl (cI, 48, .inl (owS 7))), (a0, .inr (0, [.ref a1, .ref a2, .int co, .int ro, .int sl])), (a1, .inl (cI, 48, .inl th)), (a2, .inl (cI, 48, .inl ow))]
    refine J_aload_n h (i := 0) dX5_push_40 rfl 1 rfl ?_
    refine J_aload_n h (i := 0) dX5_push_41 rfl 1 rfl ?_
    refine J_get h inX5 rfl 0 1 (by decide) rfl rfl nf_X5_7 dX5_push_42 ?_
    refine J_iconst h (v := nI 1) dX5_push_45 (by decide) ?_
    refine N_iadd h dX5_push_46 ?_
    refine J_eqs (st' := [.int (nI 5), .ref s0]) rfl ?_
    refine J_aload_n h (i := 0) dX5_push_47 rfl 1 rfl ?_
    refine J_get h inX5 rfl 0 0 (by decide) rfl rfl nf_X5_24 dX5_push_48 ?_
    refine J_alenE h 1 rfl dX5_push_51 ?_
    refine J_icmp_ge h 64 dX5_push_52 (by decide) (fun z => absurd z (by decide)) (fun _ => ?_)
    refine J_aload_n h (i := 0) dX5_push_55 rfl 1 rfl ?_
    refine J_get h inX5 rfl 0 1 (by decide) rfl rfl nf_X5_7 dX5_push_56 ?_
    refine J_iconst h (v := nI 1) dX5_push_59 (by decide) ?_
    refine N_iadd h dX5_push_60 ?_
    refine J_eqs (st' := [.int (nI 5), .ref s0]) rfl ?_
    refine J_goto h 65 dX5_push_61 (by decide) ?_
    refine J_put h (ws' := [(s0, .inr (5, [.ref s1, .int (nI 5), .int (nI sz)])), (s1, .inl (cE, 8, .inr (.inr (.inr (.inr (aS eA)))))), (eA 0, .inr (0, [.ref (tA 0), .ref (oA 0), .int (coS 0), .int (roS 0), .int (slS 0)])), (tA 0, .inl (cI, 48, .inl (thS 0))), (oA 0, .inl (cI, 48, .inl (owS 0))), (eA 1, .inr (0, [.ref (tA 1), .ref (oA 1), .int (coS 1), .int (roS 1), .int (slS 1)])), (tA 1, .inl (cI, 48, .inl (thS 1))), (oA 1, .inl (cI, 48, .inl (owS 1))), (eA 2, .inr (0, [.ref (tA 2), .ref (oA 2), .int (coS 2), .int (roS 2), .int (slS 2)])), (tA 2, .inl (cI, 48, .inl (thS 2))), (oA 2, .inl (cI, 48, .inl (owS 2))), (eA 3, .inr (0, [.ref (tA 3), .ref (oA 3), .int (coS 3), .int (roS 3), .int (slS 3)])), (tA 3, .inl (cI, 48, .inl (thS 3))), (oA 3, .inl (cI, 48, .inl (owS 3))), ((eA 4), .inr (0, [.ref (tA 4), .ref (oA 4), .int co, .int ro, .int sl])), ((tA 4), .inl (cI, 48, .inl th)), ((oA 4), .inl (cI, 48, .inl ow)), (eA 5, .inr (0, [.ref (tA 5), .ref (oA 5), .int (coS 5), .int (roS 5), .int (slS 5)])), (tA 5, .inl (cI, 48, .inl (thS 5))), (oA 5, .inl (cI, 48, .inl (owS 5))), (eA 6, .inr (0, [.ref (tA 6), .ref (oA 6), .int (coS 6), .int (roS 6), .int (slS 6)])), (tA 6, .inl (cI, 48, .inl (thS 6))), (oA 6, .inl (cI, 48, .inl (owS 6))), (eA 7, .inr (0, [.ref (tA 7), .ref (oA 7), .int (coS 7), .int (roS 7), .int (slS 7)])), (tA 7, .inl (cI, 48, .inl (thS 7))), (oA 7, .inl (cI, 48, .inl (owS 7))), (a0, .inr (0, [.ref a1, .ref a2, .int co, .int ro, .int sl])), (a1, .inl (cI, 48, .inl th)), (a2, .inl (cI, 48, .inl ow))]) inX5 tyX5 tyX5_ok nmX5 rfl 0 1 (by decide) rfl nf_X5_7 rfl rfl rfl rfl (Nat.le_of_ble_eq_true rfl) dX5_push_65 rfl ?_
    refine J_aload_n h (i := 0) dX5_push_68 rfl 1 rfl ?_
    refine J_aload_n h (i := 0) dX5_push_69 rfl 1 rfl ?_
    refine J_get h inX5 rfl 0 2 (by decide) rfl rfl nf_X5_13 dX5_push_70 ?_
    refine J_iconst h (v := nI 1) dX5_push_73 (by decide) ?_
    refine N_iadd h dX5_push_74 ?_
    refine J_aload_n h (i := 0) dX5_push_75 rfl 1 rfl ?_
    refine J_get h inX5 rfl 0 0 (by decide) rfl rfl nf_X5_24 dX5_push_76 ?_
    refine J_alenE h 1 rfl dX5_push_79 ?_
    refine J_min h (by decide) nm_X5_33 (Nat.zero_le _) (Nat.zero_le _) (Nat.le_of_ble_eq_true rfl) dX5_push_80 ?_
    rw [show (if (nI 8) < (nI (sz + 1)) then (nI 8) else (nI (sz + 1))) = nI (min (sz + 1) 8) from by exact minN (by omega) (by decide)]
    refine J_put h (ws' := [(s0, .inr (5, [.ref s1, .int (nI 5), .int (nI (min (sz + 1) 8))])), (s1, .inl (cE, 8, .inr (.inr (.inr (.inr (aS eA)))))), (eA 0, .inr (0, [.ref (tA 0), .ref (oA 0), .int (coS 0), .int (roS 0), .int (slS 0)])), (tA 0, .inl (cI, 48, .inl (thS 0))), (oA 0, .inl (cI, 48, .inl (owS 0))), (eA 1, .inr (0, [.ref (tA 1), .ref (oA 1), .int (coS 1), .int (roS 1), .int (slS 1)])), (tA 1, .inl (cI, 48, .inl (thS 1))), (oA 1, .inl (cI, 48, .inl (owS 1))), (eA 2, .inr (0, [.ref (tA 2), .ref (oA 2), .int (coS 2), .int (roS 2), .int (slS 2)])), (tA 2, .inl (cI, 48, .inl (thS 2))), (oA 2, .inl (cI, 48, .inl (owS 2))), (eA 3, .inr (0, [.ref (tA 3), .ref (oA 3), .int (coS 3), .int (roS 3), .int (slS 3)])), (tA 3, .inl (cI, 48, .inl (thS 3))), (oA 3, .inl (cI, 48, .inl (owS 3))), ((eA 4), .inr (0, [.ref (tA 4), .ref (oA 4), .int co, .int ro, .int sl])), ((tA 4), .inl (cI, 48, .inl th)), ((oA 4), .inl (cI, 48, .inl ow)), (eA 5, .inr (0, [.ref (tA 5), .ref (oA 5), .int (coS 5), .int (roS 5), .int (slS 5)])), (tA 5, .inl (cI, 48, .inl (thS 5))), (oA 5, .inl (cI, 48, .inl (owS 5))), (eA 6, .inr (0, [.ref (tA 6), .ref (oA 6), .int (coS 6), .int (roS 6), .int (slS 6)])), (tA 6, .inl (cI, 48, .inl (thS 6))), (oA 6, .inl (cI, 48, .inl (owS 6))), (eA 7, .inr (0, [.ref (tA 7), .ref (oA 7), .int (coS 7), .int (roS 7), .int (slS 7)])), (tA 7, .inl (cI, 48, .inl (thS 7))), (oA 7, .inl (cI, 48, .inl (owS 7))), (a0, .inr (0, [.ref a1, .ref a2, .int co, .int ro, .int sl])), (a1, .inl (cI, 48, .inl th)), (a2, .inl (cI, 48, .inl ow))]) inX5 tyX5 tyX5_ok nmX5 rfl 0 2 (by decide) rfl nf_X5_13 rfl rfl rfl rfl (Nat.le_of_ble_eq_true rfl) dX5_push_83 rfl ?_
    exact hR (va_up thS 4 th, va_up owS 4 ow, va_up coS 4 co, va_up roS 4 ro, va_up slS 4 sl, 5, min (sz + 1) 8) (⟨(by first | rfl | ((try dsimp only); first | assumption | omega | rfl)), (by first | rfl | ((try dsimp only); first | assumption | omega | rfl)), (by first | rfl | ((try dsimp only); first | assumption | omega | rfl)), (by first | rfl | ((try dsimp only); first | assumption | omega | rfl)), (by first | rfl | ((try dsimp only); first | assumption | omega | rfl)), (by first | rfl | ((try dsimp only); first | assumption | omega | rfl)), (by first | rfl | ((try dsimp only); first | assumption | omega | rfl)), trivial⟩) 86 _ dX5_push_86
  · skip
    refine J_aload_n h (i := 0) dX5_push_0 rfl 0 rfl ?_
    refine J_get h inX5 rfl 0 1 (by decide) rfl rfl nf_X5_7 dX5_push_1 ?_
    refine J_if_lt h 19 dX5_push_4 (by decide) (fun z => absurd z (by decide)) (fun _ => ?_)
    refine J_aload_n h (i := 0) dX5_push_7 rfl 0 rfl ?_
    refine J_get h inX5 rfl 0 1 (by decide) rfl rfl nf_X5_7 dX5_push_8 ?_
    refine J_aload_n h (i := 0) dX5_push_11 rfl 0 rfl ?_
    refine J_get h inX5 rfl 0 0 (by decide) rfl rfl nf_X5_24 dX5_push_12 ?_
    refine J_alenE h 1 rfl dX5_push_15 ?_
    refine J_icmp_lt h 20 dX5_push_16 (by decide) (fun _ => ?_) (fun z => absurd z (by decide))
    refine J_aload_n h (i := 0) dX5_push_20 rfl 0 rfl ?_
    refine J_get h inX5 rfl 0 0 (by decide) rfl rfl nf_X5_24 dX5_push_21 ?_
    refine J_aload_n h (i := 0) dX5_push_24 rfl 0 rfl ?_
    refine J_get h inX5 rfl 0 1 (by decide) rfl rfl nf_X5_7 dX5_push_25 ?_
    refine N_aald h (b := (eA 5)) 1 rfl (by decide) (by omega) (by rfl) dX5_push_28 ?_
    refine J_astore_n h (i := 2) (lv' := [(2, .ref (eA 5)), (0, .ref s0), (1, .ref a0)]) dX5_push_29 rfl (by decide) rfl ?_
    refine J_aload_n h (i := 2) dX5_push_30 rfl 0 rfl ?_
    refine J_ifnonnull h 35 dX5_push_31 (by decide) ?_
    refine J_aload_n h (i := 2) dX5_push_35 rfl 0 rfl ?_
    refine J_aload_n h (i := 1) dX5_push_36 rfl 2 rfl ?_
    refine K_vv h (c_X0_copyFrom (xl X) (xD X) cI cE (eA 5) (tA 5) (oA 5) (thS 5) (owS 5) (coS 5) (roS 5) (slS 5) a0 a1 a2 th ow co ro sl ) yv_X0_copyFrom nm_X5_29 (by decide) (by decide) rfl [17, 18, 19, 26, 27, 28] rfl rfl 0 rfl rfl rfl (fun _ => rfl) rfl (Nat.le_of_ble_eq_true rfl) (Nat.le_refl _) (Nat.le_refl _) dX5_push_37 (fun u_37 p_37 => ?_)
    show J X 3 0 0 40 [(2, .ref (eA 5)), (0, .ref s0), (1, .ref a0)] [] [(s0, .inr (5, [.ref s1, .int (nI 5), .int (nI sz)])), (s1, .inl (cE, 8, .inr (.inr (.inr (.inr (aS eA)))))), (eA 0, .inr (0, [.ref (tA 0), .ref (oA 0), .int (coS 0), .int (roS 0), .int (slS 0)])), (tA 0, .inl (cI, 48, .inl (thS 0))), (oA 0, .inl (cI, 48, .inl (owS 0))), (eA 1, .inr (0, [.ref (tA 1), .ref (oA 1), .int (coS 1), .int (roS 1), .int (slS 1)])), (tA 1, .inl (cI, 48, .inl (thS 1))), (oA 1, .inl (cI, 48, .inl (owS 1))), (eA 2, .inr (0, [.ref (tA 2), .ref (oA 2), .int (coS 2), .int (roS 2), .int (slS 2)])), (tA 2, .inl (cI, 48, .inl (thS 2))), (oA 2, .inl (cI, 48, .inl (owS 2))), (eA 3, .inr (0, [.ref (tA 3), .ref (oA 3), .int (coS 3), .int (roS 3), .int (slS 3)])), (tA 3, .inl (cI, 48, .inl (thS 3))), (oA 3, .inl (cI, 48, .inl (owS 3))), (eA 4, .inr (0, [.ref (tA 4), .ref (oA 4), .int (coS 4), .int (roS 4), .int (slS 4)])), (tA 4, .inl (cI, 48, .inl (thS 4))), (oA 4, .inl (cI, 48, .inl (owS 4))), ((eA 5), .inr (0, [.ref (tA 5), .ref (oA 5), .int co, .int ro, .int sl])), ((tA 5), .inl (cI, 48, .inl th)), ((oA 5), .inl (cI, 48, .inl ow)), (eA 6, .inr (0, [.ref (tA 6), .ref (oA 6), .int (coS 6), .int (roS 6), .int (slS 6)])), (tA 6, .inl (cI, 48, .inl (thS 6))), (oA 6, .inl (cI, 48, .inl (owS 6))), (eA 7, .inr (0, [.ref (tA 7), .ref (oA 7), .int (coS 7), .int (roS 7), .int (slS 7)])), (tA 7, .inl (cI, 48, .inl (thS 7))), (oA 7, .inl (cI, 48, .inl (owS 7))), (a0, .inr (0, [.ref a1, .ref a2, .int co, .int ro, .int sl])), (a1, .inl (cI, 48, .inl th)), (a2, .inl (cI, 48, .inl ow))]
    refine J_aload_n h (i := 0) dX5_push_40 rfl 1 rfl ?_
    refine J_aload_n h (i := 0) dX5_push_41 rfl 1 rfl ?_
    refine J_get h inX5 rfl 0 1 (by decide) rfl rfl nf_X5_7 dX5_push_42 ?_
    refine J_iconst h (v := nI 1) dX5_push_45 (by decide) ?_
    refine N_iadd h dX5_push_46 ?_
    refine J_eqs (st' := [.int (nI 6), .ref s0]) rfl ?_
    refine J_aload_n h (i := 0) dX5_push_47 rfl 1 rfl ?_
    refine J_get h inX5 rfl 0 0 (by decide) rfl rfl nf_X5_24 dX5_push_48 ?_
    refine J_alenE h 1 rfl dX5_push_51 ?_
    refine J_icmp_ge h 64 dX5_push_52 (by decide) (fun z => absurd z (by decide)) (fun _ => ?_)
    refine J_aload_n h (i := 0) dX5_push_55 rfl 1 rfl ?_
    refine J_get h inX5 rfl 0 1 (by decide) rfl rfl nf_X5_7 dX5_push_56 ?_
    refine J_iconst h (v := nI 1) dX5_push_59 (by decide) ?_
    refine N_iadd h dX5_push_60 ?_
    refine J_eqs (st' := [.int (nI 6), .ref s0]) rfl ?_
    refine J_goto h 65 dX5_push_61 (by decide) ?_
    refine J_put h (ws' := [(s0, .inr (5, [.ref s1, .int (nI 6), .int (nI sz)])), (s1, .inl (cE, 8, .inr (.inr (.inr (.inr (aS eA)))))), (eA 0, .inr (0, [.ref (tA 0), .ref (oA 0), .int (coS 0), .int (roS 0), .int (slS 0)])), (tA 0, .inl (cI, 48, .inl (thS 0))), (oA 0, .inl (cI, 48, .inl (owS 0))), (eA 1, .inr (0, [.ref (tA 1), .ref (oA 1), .int (coS 1), .int (roS 1), .int (slS 1)])), (tA 1, .inl (cI, 48, .inl (thS 1))), (oA 1, .inl (cI, 48, .inl (owS 1))), (eA 2, .inr (0, [.ref (tA 2), .ref (oA 2), .int (coS 2), .int (roS 2), .int (slS 2)])), (tA 2, .inl (cI, 48, .inl (thS 2))), (oA 2, .inl (cI, 48, .inl (owS 2))), (eA 3, .inr (0, [.ref (tA 3), .ref (oA 3), .int (coS 3), .int (roS 3), .int (slS 3)])), (tA 3, .inl (cI, 48, .inl (thS 3))), (oA 3, .inl (cI, 48, .inl (owS 3))), (eA 4, .inr (0, [.ref (tA 4), .ref (oA 4), .int (coS 4), .int (roS 4), .int (slS 4)])), (tA 4, .inl (cI, 48, .inl (thS 4))), (oA 4, .inl (cI, 48, .inl (owS 4))), ((eA 5), .inr (0, [.ref (tA 5), .ref (oA 5), .int co, .int ro, .int sl])), ((tA 5), .inl (cI, 48, .inl th)), ((oA 5), .inl (cI, 48, .inl ow)), (eA 6, .inr (0, [.ref (tA 6), .ref (oA 6), .int (coS 6), .int (roS 6), .int (slS 6)])), (tA 6, .inl (cI, 48, .inl (thS 6))), (oA 6, .inl (cI, 48, .inl (owS 6))), (eA 7, .inr (0, [.ref (tA 7), .ref (oA 7), .int (coS 7), .int (roS 7), .int (slS 7)])), (tA 7, .inl (cI, 48, .inl (thS 7))), (oA 7, .inl (cI, 48, .inl (owS 7))), (a0, .inr (0, [.ref a1, .ref a2, .int co, .int ro, .int sl])), (a1, .inl (cI, 48, .inl th)), (a2, .inl (cI, 48, .inl ow))]) inX5 tyX5 tyX5_ok nmX5 rfl 0 1 (by decide) rfl nf_X5_7 rfl rfl rfl rfl (Nat.le_of_ble_eq_true rfl) dX5_push_65 rfl ?_
    refine J_aload_n h (i := 0) dX5_push_68 rfl 1 rfl ?_
    refine J_aload_n h (i := 0) dX5_push_69 rfl 1 rfl ?_
    refine J_get h inX5 rfl 0 2 (by decide) rfl rfl nf_X5_13 dX5_push_70 ?_
    refine J_iconst h (v := nI 1) dX5_push_73 (by decide) ?_
    refine N_iadd h dX5_push_74 ?_
    refine J_aload_n h (i := 0) dX5_push_75 rfl 1 rfl ?_
    refine J_get h inX5 rfl 0 0 (by decide) rfl rfl nf_X5_24 dX5_push_76 ?_
    refine J_alenE h 1 rfl dX5_push_79 ?_
    refine J_min h (by decide) nm_X5_33 (Nat.zero_le _) (Nat.zero_le _) (Nat.le_of_ble_eq_true rfl) dX5_push_80 ?_
    rw [show (if (nI 8) < (nI (sz + 1)) then (nI 8) else (nI (sz + 1))) = nI (min (sz + 1) 8) from by exact minN (by omega) (by decide)]
    refine J_put h (ws' := [(s0, .inr (5, [.ref s1, .int (nI 6), .int (nI (min (sz + 1) 8))])), (s1, .inl (cE, 8, .inr (.inr (.inr (.inr (aS eA)))))), (eA 0, .inr (0, [.ref (tA 0), .ref (oA 0), .int (coS 0), .int (roS 0), .int (slS 0)])), (tA 0, .inl (cI, 48, .inl (thS 0))), (oA 0, .inl (cI, 48, .inl (owS 0))), (eA 1, .inr (0, [.ref (tA 1), .ref (oA 1), .int (coS 1), .int (roS 1), .int (slS 1)])), (tA 1, .inl (cI, 48, .inl (thS 1))), (oA 1, .inl (cI, 48, .inl (owS 1))), (eA 2, .inr (0, [.ref (tA 2), .ref (oA 2), .int (coS 2), .int (roS 2), .int (slS 2)])), (tA 2, .inl (cI, 48, .inl (thS 2))), (oA 2, .inl (cI, 48, .inl (owS 2))), (eA 3, .inr (0, [.ref (tA 3), .ref (oA 3), .int (coS 3), .int (roS 3), .int (slS 3)])), (tA 3, .inl (cI, 48, .inl (thS 3))), (oA 3, .inl (cI, 48, .inl (owS 3))), (eA 4, .inr (0, [.ref (tA 4), .ref (oA 4), .int (coS 4), .int (roS 4), .int (slS 4)])), (tA 4, .inl (cI, 48, .inl (thS 4))), (oA 4, .inl (cI, 48, .inl (owS 4))), ((eA 5), .inr (0, [.ref (tA 5), .ref (oA 5), .int co, .int ro, .int sl])), ((tA 5), .inl (cI, 48, .inl th)), ((oA 5), .inl (cI, 48, .inl ow)), (eA 6, .inr (0, [.ref (tA 6), .ref (oA 6), .int (coS 6), .int (roS 6), .int (slS 6)])), (tA 6, .inl (cI, 48, .inl (thS 6))), (oA 6, .inl (cI, 48, .inl (owS 6))), (eA 7, .inr (0, [.ref (tA 7), .ref (oA 7), .int (coS 7), .int (roS 7), .int (slS 7)])), (tA 7, .inl (cI, 48, .inl (thS 7))), (oA 7, .inl (cI, 48, .inl (owS 7))), (a0, .inr (0, [.ref a1, .ref a2, .int co, .int ro, .int sl])), (a1, .inl (cI, 48, .inl th)), (a2, .inl (cI, 48, .inl ow))]) inX5 tyX5 tyX5_ok nmX5 rfl 0 2 (by decide) rfl nf_X5_13 rfl rfl rfl rfl (Nat.le_of_ble_eq_true rfl) dX5_push_83 rfl ?_
    exact hR (va_up thS 5 th, va_up owS 5 ow, va_up coS 5 co, va_up roS 5 ro, va_up slS 5 sl, 6, min (sz + 1) 8) (⟨(by first | rfl | ((try dsimp only); first | assumption | omega | rfl)), (by first | rfl | ((try dsimp only); first | assumption | omega | rfl)), (by first | rfl | ((try dsimp only); first | assumption | omega | rfl)), (by first | rfl | ((try dsimp only); first | assumption | omega | rfl)), (by first | rfl | ((try dsimp only); first | assumption | omega | rfl)), (by first | rfl | ((try dsimp only); first | assumption | omega | rfl)), (by first | rfl | ((try dsimp only); first | assumption | omega | rfl)), trivial⟩) 86 _ dX5_push_86
  · skip
    refine J_aload_n h (i := 0) dX5_push_0 rfl 0 rfl ?_
    refine J_get h inX5 rfl 0 1 (by decide) rfl rfl nf_X5_7 dX5_push_1 ?_
    refine J_if_lt h 19 dX5_push_4 (by decide) (fun z => absurd z (by decide)) (fun _ => ?_)
    refine J_aload_n h (i := 0) dX5_push_7 rfl 0 rfl ?_
    refine J_get h inX5 rfl 0 1 (by decide) rfl rfl nf_X5_7 dX5_push_8 ?_
    refine J_aload_n h (i := 0) dX5_push_11 rfl 0 rfl ?_
    refine J_get h inX5 rfl 0 0 (by decide) rfl rfl nf_X5_24 dX5_push_12 ?_
    refine J_alenE h 1 rfl dX5_push_15 ?_
    refine J_icmp_lt h 20 dX5_push_16 (by decide) (fun _ => ?_) (fun z => absurd z (by decide))
    refine J_aload_n h (i := 0) dX5_push_20 rfl 0 rfl ?_
    refine J_get h inX5 rfl 0 0 (by decide) rfl rfl nf_X5_24 dX5_push_21 ?_
    refine J_aload_n h (i := 0) dX5_push_24 rfl 0 rfl ?_
    refine J_get h inX5 rfl 0 1 (by decide) rfl rfl nf_X5_7 dX5_push_25 ?_
    refine N_aald h (b := (eA 6)) 1 rfl (by decide) (by omega) (by rfl) dX5_push_28 ?_
    refine J_astore_n h (i := 2) (lv' := [(2, .ref (eA 6)), (0, .ref s0), (1, .ref a0)]) dX5_push_29 rfl (by decide) rfl ?_
    refine J_aload_n h (i := 2) dX5_push_30 rfl 0 rfl ?_
    refine J_ifnonnull h 35 dX5_push_31 (by decide) ?_
    refine J_aload_n h (i := 2) dX5_push_35 rfl 0 rfl ?_
    refine J_aload_n h (i := 1) dX5_push_36 rfl 2 rfl ?_
    refine K_vv h (c_X0_copyFrom (xl X) (xD X) cI cE (eA 6) (tA 6) (oA 6) (thS 6) (owS 6) (coS 6) (roS 6) (slS 6) a0 a1 a2 th ow co ro sl ) yv_X0_copyFrom nm_X5_29 (by decide) (by decide) rfl [20, 21, 22, 26, 27, 28] rfl rfl 0 rfl rfl rfl (fun _ => rfl) rfl (Nat.le_of_ble_eq_true rfl) (Nat.le_refl _) (Nat.le_refl _) dX5_push_37 (fun u_37 p_37 => ?_)
    show J X 3 0 0 40 [(2, .ref (eA 6)), (0, .ref s0), (1, .ref a0)] [] [(s0, .inr (5, [.ref s1, .int (nI 6), .int (nI sz)])), (s1, .inl (cE, 8, .inr (.inr (.inr (.inr (aS eA)))))), (eA 0, .inr (0, [.ref (tA 0), .ref (oA 0), .int (coS 0), .int (roS 0), .int (slS 0)])), (tA 0, .inl (cI, 48, .inl (thS 0))), (oA 0, .inl (cI, 48, .inl (owS 0))), (eA 1, .inr (0, [.ref (tA 1), .ref (oA 1), .int (coS 1), .int (roS 1), .int (slS 1)])), (tA 1, .inl (cI, 48, .inl (thS 1))), (oA 1, .inl (cI, 48, .inl (owS 1))), (eA 2, .inr (0, [.ref (tA 2), .ref (oA 2), .int (coS 2), .int (roS 2), .int (slS 2)])), (tA 2, .inl (cI, 48, .inl (thS 2))), (oA 2, .inl (cI, 48, .inl (owS 2))), (eA 3, .inr (0, [.ref (tA 3), .ref (oA 3), .int (coS 3), .int (roS 3), .int (slS 3)])), (tA 3, .inl (cI, 48, .inl (thS 3))), (oA 3, .inl (cI, 48, .inl (owS 3))), (eA 4, .inr (0, [.ref (tA 4), .ref (oA 4), .int (coS 4), .int (roS 4), .int (slS 4)])), (tA 4, .inl (cI, 48, .inl (thS 4))), (oA 4, .inl (cI, 48, .inl (owS 4))), (eA 5, .inr (0, [.ref (tA 5), .ref (oA 5), .int (coS 5), .int (roS 5), .int (slS 5)])), (tA 5, .inl (cI, 48, .inl (thS 5))), (oA 5, .inl (cI, 48, .inl (owS 5))), ((eA 6), .inr (0, [.ref (tA 6), .ref (oA 6), .int co, .int ro, .int sl])), ((tA 6), .inl (cI, 48, .inl th)), ((oA 6), .inl (cI, 48, .inl ow)), (eA 7, .inr (0, [.ref (tA 7), .ref (oA 7), .int (coS 7), .int (roS 7), .int (slS 7)])), (tA 7, .inl (cI, 48, .inl (thS 7))), (oA 7, .inl (cI, 48, .inl (owS 7))), (a0, .inr (0, [.ref a1, .ref a2, .int co, .int ro, .int sl])), (a1, .inl (cI, 48, .inl th)), (a2, .inl (cI, 48, .inl ow))]
    refine J_aload_n h (i := 0) dX5_push_40 rfl 1 rfl ?_
    refine J_aload_n h (i := 0) dX5_push_41 rfl 1 rfl ?_
    refine J_get h inX5 rfl 0 1 (by decide) rfl rfl nf_X5_7 dX5_push_42 ?_
    refine J_iconst h (v := nI 1) dX5_push_45 (by decide) ?_
    refine N_iadd h dX5_push_46 ?_
    refine J_eqs (st' := [.int (nI 7), .ref s0]) rfl ?_
    refine J_aload_n h (i := 0) dX5_push_47 rfl 1 rfl ?_
    refine J_get h inX5 rfl 0 0 (by decide) rfl rfl nf_X5_24 dX5_push_48 ?_
    refine J_alenE h 1 rfl dX5_push_51 ?_
    refine J_icmp_ge h 64 dX5_push_52 (by decide) (fun z => absurd z (by decide)) (fun _ => ?_)
    refine J_aload_n h (i := 0) dX5_push_55 rfl 1 rfl ?_
    refine J_get h inX5 rfl 0 1 (by decide) rfl rfl nf_X5_7 dX5_push_56 ?_
    refine J_iconst h (v := nI 1) dX5_push_59 (by decide) ?_
    refine N_iadd h dX5_push_60 ?_
    refine J_eqs (st' := [.int (nI 7), .ref s0]) rfl ?_
    refine J_goto h 65 dX5_push_61 (by decide) ?_
    refine J_put h (ws' := [(s0, .inr (5, [.ref s1, .int (nI 7), .int (nI sz)])), (s1, .inl (cE, 8, .inr (.inr (.inr (.inr (aS eA)))))), (eA 0, .inr (0, [.ref (tA 0), .ref (oA 0), .int (coS 0), .int (roS 0), .int (slS 0)])), (tA 0, .inl (cI, 48, .inl (thS 0))), (oA 0, .inl (cI, 48, .inl (owS 0))), (eA 1, .inr (0, [.ref (tA 1), .ref (oA 1), .int (coS 1), .int (roS 1), .int (slS 1)])), (tA 1, .inl (cI, 48, .inl (thS 1))), (oA 1, .inl (cI, 48, .inl (owS 1))), (eA 2, .inr (0, [.ref (tA 2), .ref (oA 2), .int (coS 2), .int (roS 2), .int (slS 2)])), (tA 2, .inl (cI, 48, .inl (thS 2))), (oA 2, .inl (cI, 48, .inl (owS 2))), (eA 3, .inr (0, [.ref (tA 3), .ref (oA 3), .int (coS 3), .int (roS 3), .int (slS 3)])), (tA 3, .inl (cI, 48, .inl (thS 3))), (oA 3, .inl (cI, 48, .inl (owS 3))), (eA 4, .inr (0, [.ref (tA 4), .ref (oA 4), .int (coS 4), .int (roS 4), .int (slS 4)])), (tA 4, .inl (cI, 48, .inl (thS 4))), (oA 4, .inl (cI, 48, .inl (owS 4))), (eA 5, .inr (0, [.ref (tA 5), .ref (oA 5), .int (coS 5), .int (roS 5), .int (slS 5)])), (tA 5, .inl (cI, 48, .inl (thS 5))), (oA 5, .inl (cI, 48, .inl (owS 5))), ((eA 6), .inr (0, [.ref (tA 6), .ref (oA 6), .int co, .int ro, .int sl])), ((tA 6), .inl (cI, 48, .inl th)), ((oA 6), .inl (cI, 48, .inl ow)), (eA 7, .inr (0, [.ref (tA 7), .ref (oA 7), .int (coS 7), .int (roS 7), .int (slS 7)])), (tA 7, .inl (cI, 48, .inl (thS 7))), (oA 7, .inl (cI, 48, .inl (owS 7))), (a0, .inr (0, [.ref a1, .ref a2, .int co, .int ro, .int sl])), (a1, .inl (cI, 48, .inl th)), (a2, .inl (cI, 48, .inl ow))]) inX5 tyX5 tyX5_ok nmX5 rfl 0 1 (by decide) rfl nf_X5_7 rfl rfl rfl rfl (Nat.le_of_ble_eq_true rfl) dX5_push_65 rfl ?_
    refine J_aload_n h (i := 0) dX5_push_68 rfl 1 rfl ?_
    refine J_aload_n h (i := 0) dX5_push_69 rfl 1 rfl ?_
    refine J_get h inX5 rfl 0 2 (by decide) rfl rfl nf_X5_13 dX5_push_70 ?_
    refine J_iconst h (v := nI 1) dX5_push_73 (by decide) ?_
    refine N_iadd h dX5_push_74 ?_
    refine J_aload_n h (i := 0) dX5_push_75 rfl 1 rfl ?_
    refine J_get h inX5 rfl 0 0 (by decide) rfl rfl nf_X5_24 dX5_push_76 ?_
    refine J_alenE h 1 rfl dX5_push_79 ?_
    refine J_min h (by decide) nm_X5_33 (Nat.zero_le _) (Nat.zero_le _) (Nat.le_of_ble_eq_true rfl) dX5_push_80 ?_
    rw [show (if (nI 8) < (nI (sz + 1)) then (nI 8) else (nI (sz + 1))) = nI (min (sz + 1) 8) from by exact minN (by omega) (by decide)]
    refine J_put h (ws' := [(s0, .inr (5, [.ref s1, .int (nI 7), .int (nI (min (sz + 1) 8))])), (s1, .inl (cE, 8, .inr (.inr (.inr (.inr (aS eA)))))), (eA 0, .inr (0, [.ref (tA 0), .ref (oA 0), .int (coS 0), .int (roS 0), .int (slS 0)])), (tA 0, .inl (cI, 48, .inl (thS 0))), (oA 0, .inl (cI, 48, .inl (owS 0))), (eA 1, .inr (0, [.ref (tA 1), .ref (oA 1), .int (coS 1), .int (roS 1), .int (slS 1)])), (tA 1, .inl (cI, 48, .inl (thS 1))), (oA 1, .inl (cI, 48, .inl (owS 1))), (eA 2, .inr (0, [.ref (tA 2), .ref (oA 2), .int (coS 2), .int (roS 2), .int (slS 2)])), (tA 2, .inl (cI, 48, .inl (thS 2))), (oA 2, .inl (cI, 48, .inl (owS 2))), (eA 3, .inr (0, [.ref (tA 3), .ref (oA 3), .int (coS 3), .int (roS 3), .int (slS 3)])), (tA 3, .inl (cI, 48, .inl (thS 3))), (oA 3, .inl (cI, 48, .inl (owS 3))), (eA 4, .inr (0, [.ref (tA 4), .ref (oA 4), .int (coS 4), .int (roS 4), .int (slS 4)])), (tA 4, .inl (cI, 48, .inl (thS 4))), (oA 4, .inl (cI, 48, .inl (owS 4))), (eA 5, .inr (0, [.ref (tA 5), .ref (oA 5), .int (coS 5), .int (roS 5), .int (slS 5)])), (tA 5, .inl (cI, 48, .inl (thS 5))), (oA 5, .inl (cI, 48, .inl (owS 5))), ((eA 6), .inr (0, [.ref (tA 6), .ref (oA 6), .int co, .int ro, .int sl])), ((tA 6), .inl (cI, 48, .inl th)), ((oA 6), .inl (cI, 48, .inl ow)), (eA 7, .inr (0, [.ref (tA 7), .ref (oA 7), .int (coS 7), .int (roS 7), .int (slS 7)])), (tA 7, .inl (cI, 48, .inl (thS 7))), (oA 7, .inl (cI, 48, .inl (owS 7))), (a0, .inr (0, [.ref a1, .ref a2, .int co, .int ro, .int sl])), (a1, .inl (cI, 48, .inl th)), (a2, .inl (cI, 48, .inl ow))]) inX5 tyX5 tyX5_ok nmX5 rfl 0 2 (by decide) rfl nf_X5_13 rfl rfl rfl rfl (Nat.le_of_ble_eq_true rfl) dX5_push_83 rfl ?_
    exact hR (va_up thS 6 th, va_up owS 6 ow, va_up coS 6 co, va_up roS 6 ro, va_up slS 6 sl, 7, min (sz + 1) 8) (⟨(by first | rfl | ((try dsimp only); first | assumption | omega | rfl)), (by first | rfl | ((try dsimp only); first | assumption | omega | rfl)), (by first | rfl | ((try dsimp only); first | assumption | omega | rfl)), (by first | rfl | ((try dsimp only); first | assumption | omega | rfl)), (by first | rfl | ((try dsimp only); first | assumption | omega | rfl)), (by first | rfl | ((try dsimp only); first | assumption | omega | rfl)), (by first | rfl | ((try dsimp only); first | assumption | omega | rfl)), trivial⟩) 86 _ dX5_push_86
  · skip
    refine J_aload_n h (i := 0) dX5_push_0 rfl 0 rfl ?_
    refine J_get h inX5 rfl 0 1 (by decide) rfl rfl nf_X5_7 dX5_push_1 ?_
    refine J_if_lt h 19 dX5_push_4 (by decide) (fun z => absurd z (by decide)) (fun _ => ?_)
    refine J_aload_n h (i := 0) dX5_push_7 rfl 0 rfl ?_
    refine J_get h inX5 rfl 0 1 (by decide) rfl rfl nf_X5_7 dX5_push_8 ?_
    refine J_aload_n h (i := 0) dX5_push_11 rfl 0 rfl ?_
    refine J_get h inX5 rfl 0 0 (by decide) rfl rfl nf_X5_24 dX5_push_12 ?_
    refine J_alenE h 1 rfl dX5_push_15 ?_
    refine J_icmp_lt h 20 dX5_push_16 (by decide) (fun _ => ?_) (fun z => absurd z (by decide))
    refine J_aload_n h (i := 0) dX5_push_20 rfl 0 rfl ?_
    refine J_get h inX5 rfl 0 0 (by decide) rfl rfl nf_X5_24 dX5_push_21 ?_
    refine J_aload_n h (i := 0) dX5_push_24 rfl 0 rfl ?_
    refine J_get h inX5 rfl 0 1 (by decide) rfl rfl nf_X5_7 dX5_push_25 ?_
    refine N_aald h (b := (eA 7)) 1 rfl (by decide) (by omega) (by rfl) dX5_push_28 ?_
    refine J_astore_n h (i := 2) (lv' := [(2, .ref (eA 7)), (0, .ref s0), (1, .ref a0)]) dX5_push_29 rfl (by decide) rfl ?_
    refine J_aload_n h (i := 2) dX5_push_30 rfl 0 rfl ?_
    refine J_ifnonnull h 35 dX5_push_31 (by decide) ?_
    refine J_aload_n h (i := 2) dX5_push_35 rfl 0 rfl ?_
    refine J_aload_n h (i := 1) dX5_push_36 rfl 2 rfl ?_
    refine K_vv h (c_X0_copyFrom (xl X) (xD X) cI cE (eA 7) (tA 7) (oA 7) (thS 7) (owS 7) (coS 7) (roS 7) (slS 7) a0 a1 a2 th ow co ro sl ) yv_X0_copyFrom nm_X5_29 (by decide) (by decide) rfl [23, 24, 25, 26, 27, 28] rfl rfl 0 rfl rfl rfl (fun _ => rfl) rfl (Nat.le_of_ble_eq_true rfl) (Nat.le_refl _) (Nat.le_refl _) dX5_push_37 (fun u_37 p_37 => ?_)
    show J X 3 0 0 40 [(2, .ref (eA 7)), (0, .ref s0), (1, .ref a0)] [] [(s0, .inr (5, [.ref s1, .int (nI 7), .int (nI sz)])), (s1, .inl (cE, 8, .inr (.inr (.inr (.inr (aS eA)))))), (eA 0, .inr (0, [.ref (tA 0), .ref (oA 0), .int (coS 0), .int (roS 0), .int (slS 0)])), (tA 0, .inl (cI, 48, .inl (thS 0))), (oA 0, .inl (cI, 48, .inl (owS 0))), (eA 1, .inr (0, [.ref (tA 1), .ref (oA 1), .int (coS 1), .int (roS 1), .int (slS 1)])), (tA 1, .inl (cI, 48, .inl (thS 1))), (oA 1, .inl (cI, 48, .inl (owS 1))), (eA 2, .inr (0, [.ref (tA 2), .ref (oA 2), .int (coS 2), .int (roS 2), .int (slS 2)])), (tA 2, .inl (cI, 48, .inl (thS 2))), (oA 2, .inl (cI, 48, .inl (owS 2))), (eA 3, .inr (0, [.ref (tA 3), .ref (oA 3), .int (coS 3), .int (roS 3), .int (slS 3)])), (tA 3, .inl (cI, 48, .inl (thS 3))), (oA 3, .inl (cI, 48, .inl (owS 3))), (eA 4, .inr (0, [.ref (tA 4), .ref (oA 4), .int (coS 4), .int (roS 4), .int (slS 4)])), (tA 4, .inl (cI, 48, .inl (thS 4))), (oA 4, .inl (cI, 48, .inl (owS 4))), (eA 5, .inr (0, [.ref (tA 5), .ref (oA 5), .int (coS 5), .int (roS 5), .int (slS 5)])), (tA 5, .inl (cI, 48, .inl (thS 5))), (oA 5, .inl (cI, 48, .inl (owS 5))), (eA 6, .inr (0, [.ref (tA 6), .ref (oA 6), .int (coS 6), .int (roS 6), .int (slS 6)])), (tA 6, .inl (cI, 48, .inl (thS 6))), (oA 6, .inl (cI, 48, .inl (owS 6))), ((eA 7), .inr (0, [.ref (tA 7), .ref (oA 7), .int co, .int ro, .int sl])), ((tA 7), .inl (cI, 48, .inl th)), ((oA 7), .inl (cI, 48, .inl ow)), (a0, .inr (0, [.ref a1, .ref a2, .int co, .int ro, .int sl])), (a1, .inl (cI, 48, .inl th)), (a2, .inl (cI, 48, .inl ow))]
    refine J_aload_n h (i := 0) dX5_push_40 rfl 1 rfl ?_
    refine J_aload_n h (i := 0) dX5_push_41 rfl 1 rfl ?_
    refine J_get h inX5 rfl 0 1 (by decide) rfl rfl nf_X5_7 dX5_push_42 ?_
    refine J_iconst h (v := nI 1) dX5_push_45 (by decide) ?_
    refine N_iadd h dX5_push_46 ?_
    refine J_eqs (st' := [.int (nI 8), .ref s0]) rfl ?_
    refine J_aload_n h (i := 0) dX5_push_47 rfl 1 rfl ?_
    refine J_get h inX5 rfl 0 0 (by decide) rfl rfl nf_X5_24 dX5_push_48 ?_
    refine J_alenE h 1 rfl dX5_push_51 ?_
    refine J_icmp_ge h 64 dX5_push_52 (by decide) (fun _ => ?_) (fun z => absurd z (by decide))
    refine J_iconst h (v := nI 0) dX5_push_64 (by decide) ?_
    refine J_put h (ws' := [(s0, .inr (5, [.ref s1, .int (nI 0), .int (nI sz)])), (s1, .inl (cE, 8, .inr (.inr (.inr (.inr (aS eA)))))), (eA 0, .inr (0, [.ref (tA 0), .ref (oA 0), .int (coS 0), .int (roS 0), .int (slS 0)])), (tA 0, .inl (cI, 48, .inl (thS 0))), (oA 0, .inl (cI, 48, .inl (owS 0))), (eA 1, .inr (0, [.ref (tA 1), .ref (oA 1), .int (coS 1), .int (roS 1), .int (slS 1)])), (tA 1, .inl (cI, 48, .inl (thS 1))), (oA 1, .inl (cI, 48, .inl (owS 1))), (eA 2, .inr (0, [.ref (tA 2), .ref (oA 2), .int (coS 2), .int (roS 2), .int (slS 2)])), (tA 2, .inl (cI, 48, .inl (thS 2))), (oA 2, .inl (cI, 48, .inl (owS 2))), (eA 3, .inr (0, [.ref (tA 3), .ref (oA 3), .int (coS 3), .int (roS 3), .int (slS 3)])), (tA 3, .inl (cI, 48, .inl (thS 3))), (oA 3, .inl (cI, 48, .inl (owS 3))), (eA 4, .inr (0, [.ref (tA 4), .ref (oA 4), .int (coS 4), .int (roS 4), .int (slS 4)])), (tA 4, .inl (cI, 48, .inl (thS 4))), (oA 4, .inl (cI, 48, .inl (owS 4))), (eA 5, .inr (0, [.ref (tA 5), .ref (oA 5), .int (coS 5), .int (roS 5), .int (slS 5)])), (tA 5, .inl (cI, 48, .inl (thS 5))), (oA 5, .inl (cI, 48, .inl (owS 5))), (eA 6, .inr (0, [.ref (tA 6), .ref (oA 6), .int (coS 6), .int (roS 6), .int (slS 6)])), (tA 6, .inl (cI, 48, .inl (thS 6))), (oA 6, .inl (cI, 48, .inl (owS 6))), ((eA 7), .inr (0, [.ref (tA 7), .ref (oA 7), .int co, .int ro, .int sl])), ((tA 7), .inl (cI, 48, .inl th)), ((oA 7), .inl (cI, 48, .inl ow)), (a0, .inr (0, [.ref a1, .ref a2, .int co, .int ro, .int sl])), (a1, .inl (cI, 48, .inl th)), (a2, .inl (cI, 48, .inl ow))]) inX5 tyX5 tyX5_ok nmX5 rfl 0 1 (by decide) rfl nf_X5_7 rfl rfl rfl rfl (Nat.le_of_ble_eq_true rfl) dX5_push_65 rfl ?_
    refine J_aload_n h (i := 0) dX5_push_68 rfl 1 rfl ?_
    refine J_aload_n h (i := 0) dX5_push_69 rfl 1 rfl ?_
    refine J_get h inX5 rfl 0 2 (by decide) rfl rfl nf_X5_13 dX5_push_70 ?_
    refine J_iconst h (v := nI 1) dX5_push_73 (by decide) ?_
    refine N_iadd h dX5_push_74 ?_
    refine J_aload_n h (i := 0) dX5_push_75 rfl 1 rfl ?_
    refine J_get h inX5 rfl 0 0 (by decide) rfl rfl nf_X5_24 dX5_push_76 ?_
    refine J_alenE h 1 rfl dX5_push_79 ?_
    refine J_min h (by decide) nm_X5_33 (Nat.zero_le _) (Nat.zero_le _) (Nat.le_of_ble_eq_true rfl) dX5_push_80 ?_
    rw [show (if (nI 8) < (nI (sz + 1)) then (nI 8) else (nI (sz + 1))) = nI (min (sz + 1) 8) from by exact minN (by omega) (by decide)]
    refine J_put h (ws' := [(s0, .inr (5, [.ref s1, .int (nI 0), .int (nI (min (sz + 1) 8))])), (s1, .inl (cE, 8, .inr (.inr (.inr (.inr (aS eA)))))), (eA 0, .inr (0, [.ref (tA 0), .ref (oA 0), .int (coS 0), .int (roS 0), .int (slS 0)])), (tA 0, .inl (cI, 48, .inl (thS 0))), (oA 0, .inl (cI, 48, .inl (owS 0))), (eA 1, .inr (0, [.ref (tA 1), .ref (oA 1), .int (coS 1), .int (roS 1), .int (slS 1)])), (tA 1, .inl (cI, 48, .inl (thS 1))), (oA 1, .inl (cI, 48, .inl (owS 1))), (eA 2, .inr (0, [.ref (tA 2), .ref (oA 2), .int (coS 2), .int (roS 2), .int (slS 2)])), (tA 2, .inl (cI, 48, .inl (thS 2))), (oA 2, .inl (cI, 48, .inl (owS 2))), (eA 3, .inr (0, [.ref (tA 3), .ref (oA 3), .int (coS 3), .int (roS 3), .int (slS 3)])), (tA 3, .inl (cI, 48, .inl (thS 3))), (oA 3, .inl (cI, 48, .inl (owS 3))), (eA 4, .inr (0, [.ref (tA 4), .ref (oA 4), .int (coS 4), .int (roS 4), .int (slS 4)])), (tA 4, .inl (cI, 48, .inl (thS 4))), (oA 4, .inl (cI, 48, .inl (owS 4))), (eA 5, .inr (0, [.ref (tA 5), .ref (oA 5), .int (coS 5), .int (roS 5), .int (slS 5)])), (tA 5, .inl (cI, 48, .inl (thS 5))), (oA 5, .inl (cI, 48, .inl (owS 5))), (eA 6, .inr (0, [.ref (tA 6), .ref (oA 6), .int (coS 6), .int (roS 6), .int (slS 6)])), (tA 6, .inl (cI, 48, .inl (thS 6))), (oA 6, .inl (cI, 48, .inl (owS 6))), ((eA 7), .inr (0, [.ref (tA 7), .ref (oA 7), .int co, .int ro, .int sl])), ((tA 7), .inl (cI, 48, .inl th)), ((oA 7), .inl (cI, 48, .inl ow)), (a0, .inr (0, [.ref a1, .ref a2, .int co, .int ro, .int sl])), (a1, .inl (cI, 48, .inl th)), (a2, .inl (cI, 48, .inl ow))]) inX5 tyX5 tyX5_ok nmX5 rfl 0 2 (by decide) rfl nf_X5_13 rfl rfl rfl rfl (Nat.le_of_ble_eq_true rfl) dX5_push_83 rfl ?_
    exact hR (va_up thS 7 th, va_up owS 7 ow, va_up coS 7 co, va_up roS 7 ro, va_up slS 7 sl, 0, min (sz + 1) 8) (⟨(by first | rfl | ((try dsimp only); first | assumption | omega | rfl)), (by first | rfl | ((try dsimp only); first | assumption | omega | rfl)), (by first | rfl | ((try dsimp only); first | assumption | omega | rfl)), (by first | rfl | ((try dsimp only); first | assumption | omega | rfl)), (by first | rfl | ((try dsimp only); first | assumption | omega | rfl)), (by first | rfl | ((try dsimp only); first | assumption | omega | rfl)), (by first | rfl | ((try dsimp only); first | assumption | omega | rfl)), trivial⟩) 86 _ dX5_push_86
theorem c_X5_push8 (l : Launch) (D : va_G) (cI cE : ClassId) (s0 : Nat) (s1 : Nat) (eA : Nat → Nat) (tA : Nat → Nat) (oA : Nat → Nat) (thS : Nat → Nat → Int32) (owS : Nat → Nat → Int32) (coS : Nat → Int32) (roS : Nat → Int32) (slS : Nat → Int32) (nx : Nat) (sz : Nat) (a0 : Nat) (a1 : Nat) (a2 : Nat) (th : Nat → Int32) (ow : Nat → Int32) (co : Int32) (ro : Int32) (sl : Int32) (hnx : nx < 8) (hsz : sz ≤ 8) : Cv l D cI cE yX5_push cX5_push 3 none 1 0 0 [.ref s0, .ref a0] [(s0, .inr (5, [.ref s1, .int (nI nx), .int (nI sz)])), (s1, .inl (cE, 8, .inr (.inr (.inr (.inr (aS eA)))))), (eA 0, .inr (0, [.ref (tA 0), .ref (oA 0), .int (coS 0), .int (roS 0), .int (slS 0)])), (tA 0, .inl (cI, 48, .inl (thS 0))), (oA 0, .inl (cI, 48, .inl (owS 0))), (eA 1, .inr (0, [.ref (tA 1), .ref (oA 1), .int (coS 1), .int (roS 1), .int (slS 1)])), (tA 1, .inl (cI, 48, .inl (thS 1))), (oA 1, .inl (cI, 48, .inl (owS 1))), (eA 2, .inr (0, [.ref (tA 2), .ref (oA 2), .int (coS 2), .int (roS 2), .int (slS 2)])), (tA 2, .inl (cI, 48, .inl (thS 2))), (oA 2, .inl (cI, 48, .inl (owS 2))), (eA 3, .inr (0, [.ref (tA 3), .ref (oA 3), .int (coS 3), .int (roS 3), .int (slS 3)])), (tA 3, .inl (cI, 48, .inl (thS 3))), (oA 3, .inl (cI, 48, .inl (owS 3))), (eA 4, .inr (0, [.ref (tA 4), .ref (oA 4), .int (coS 4), .int (roS 4), .int (slS 4)])), (tA 4, .inl (cI, 48, .inl (thS 4))), (oA 4, .inl (cI, 48, .inl (owS 4))), (eA 5, .inr (0, [.ref (tA 5), .ref (oA 5), .int (coS 5), .int (roS 5), .int (slS 5)])), (tA 5, .inl (cI, 48, .inl (thS 5))), (oA 5, .inl (cI, 48, .inl (owS 5))), (eA 6, .inr (0, [.ref (tA 6), .ref (oA 6), .int (coS 6), .int (roS 6), .int (slS 6)])), (tA 6, .inl (cI, 48, .inl (thS 6))), (oA 6, .inl (cI, 48, .inl (owS 6))), (eA 7, .inr (0, [.ref (tA 7), .ref (oA 7), .int (coS 7), .int (roS 7), .int (slS 7)])), (tA 7, .inl (cI, 48, .inl (thS 7))), (oA 7, .inl (cI, 48, .inl (owS 7))), (a0, .inr (0, [.ref a1, .ref a2, .int co, .int ro, .int sl])), (a1, .inl (cI, 48, .inl th)), (a2, .inl (cI, 48, .inl ow))] (fun (u : (Nat → Nat → Int32) × (Nat → Nat → Int32) × (Nat → Int32) × (Nat → Int32) × (Nat → Int32) × (Nat) × (Nat)) => (((va_up thS nx th) = u.1) ∧ ((va_up owS nx ow) = u.2.1) ∧ ((va_up coS nx co) = u.2.2.1) ∧ ((va_up roS nx ro) = u.2.2.2.1) ∧ ((va_up slS nx sl) = u.2.2.2.2.1) ∧ ((nxtP 8 nx) = u.2.2.2.2.2.1) ∧ ((min (sz + 1) 8) = u.2.2.2.2.2.2) ∧ (True))) (fun (u : (Nat → Nat → Int32) × (Nat → Nat → Int32) × (Nat → Int32) × (Nat → Int32) × (Nat → Int32) × (Nat) × (Nat)) => ([(s0, .inr (5, [.ref s1, .int (nI u.2.2.2.2.2.1), .int (nI u.2.2.2.2.2.2)])), (s1, .inl (cE, 8, .inr (.inr (.inr (.inr (aS eA)))))), (eA 0, .inr (0, [.ref (tA 0), .ref (oA 0), .int (u.2.2.1 0), .int (u.2.2.2.1 0), .int (u.2.2.2.2.1 0)])), (tA 0, .inl (cI, 48, .inl (u.1 0))), (oA 0, .inl (cI, 48, .inl (u.2.1 0))), (eA 1, .inr (0, [.ref (tA 1), .ref (oA 1), .int (u.2.2.1 1), .int (u.2.2.2.1 1), .int (u.2.2.2.2.1 1)])), (tA 1, .inl (cI, 48, .inl (u.1 1))), (oA 1, .inl (cI, 48, .inl (u.2.1 1))), (eA 2, .inr (0, [.ref (tA 2), .ref (oA 2), .int (u.2.2.1 2), .int (u.2.2.2.1 2), .int (u.2.2.2.2.1 2)])), (tA 2, .inl (cI, 48, .inl (u.1 2))), (oA 2, .inl (cI, 48, .inl (u.2.1 2))), (eA 3, .inr (0, [.ref (tA 3), .ref (oA 3), .int (u.2.2.1 3), .int (u.2.2.2.1 3), .int (u.2.2.2.2.1 3)])), (tA 3, .inl (cI, 48, .inl (u.1 3))), (oA 3, .inl (cI, 48, .inl (u.2.1 3))), (eA 4, .inr (0, [.ref (tA 4), .ref (oA 4), .int (u.2.2.1 4), .int (u.2.2.2.1 4), .int (u.2.2.2.2.1 4)])), (tA 4, .inl (cI, 48, .inl (u.1 4))), (oA 4, .inl (cI, 48, .inl (u.2.1 4))), (eA 5, .inr (0, [.ref (tA 5), .ref (oA 5), .int (u.2.2.1 5), .int (u.2.2.2.1 5), .int (u.2.2.2.2.1 5)])), (tA 5, .inl (cI, 48, .inl (u.1 5))), (oA 5, .inl (cI, 48, .inl (u.2.1 5))), (eA 6, .inr (0, [.ref (tA 6), .ref (oA 6), .int (u.2.2.1 6), .int (u.2.2.2.1 6), .int (u.2.2.2.2.1 6)])), (tA 6, .inl (cI, 48, .inl (u.1 6))), (oA 6, .inl (cI, 48, .inl (u.2.1 6))), (eA 7, .inr (0, [.ref (tA 7), .ref (oA 7), .int (u.2.2.1 7), .int (u.2.2.2.1 7), .int (u.2.2.2.2.1 7)])), (tA 7, .inl (cI, 48, .inl (u.1 7))), (oA 7, .inl (cI, 48, .inl (u.2.1 7))), (a0, .inr (0, [.ref a1, .ref a2, .int co, .int ro, .int sl])), (a1, .inl (cI, 48, .inl th)), (a2, .inl (cI, 48, .inl ow))] : va_W)) :=
  Cv.of (by decide) (Nat.le_of_ble_eq_true rfl) (fun X h hR _ => w_X5_push8 X h s0 s1 eA tA oA thS owS coS roS slS nx sz a0 a1 a2 th ow co ro sl hnx hsz hR)
theorem yv_X5_push : YV yX5_push cX5_push 3 none 1 := ⟨no_X5_push, nv_X5_push, ni_X5, nk_X5_push, by decide +kernel⟩
set_option maxRecDepth 100000 in
set_option maxHeartbeats 4000000 in
theorem w_X5_pop8 (X : Cx) {cI cE : ClassId} (h : Ok X cX5_popInto RX5 4 cI cE 1 0 0) (s0 : Nat) (s1 : Nat) (eA : Nat → Nat) (tA : Nat → Nat) (oA : Nat → Nat) (thS : Nat → Nat → Int32) (owS : Nat → Nat → Int32) (coS : Nat → Int32) (roS : Nat → Int32) (slS : Nat → Int32) (nx : Nat) (sz : Nat) (a0 : Nat) (a1 : Nat) (a2 : Nat) (th : Nat → Int32) (ow : Nat → Int32) (co : Int32) (ro : Int32) (sl : Int32) (hnx : nx < 8) (hsz : sz ≤ 8) (hR : ∀ (r : Int32) (u : (Nat) × (Nat) × (Nat → Int32) × (Nat → Int32) × (Int32) × (Int32) × (Int32)), ((nI 1 = r) ∧ (0 < sz) ∧ ((lstP 8 nx) = u.1) ∧ ((sz - 1) = u.2.1) ∧ ((thS (lstP 8 nx)) = u.2.2.1) ∧ ((owS (lstP 8 nx)) = u.2.2.2.1) ∧ ((coS (lstP 8 nx)) = u.2.2.2.2.1) ∧ ((roS (lstP 8 nx)) = u.2.2.2.2.2.1) ∧ ((slS (lstP 8 nx)) = u.2.2.2.2.2.2) ∧ (True)) ∨ ((nI 0 = r) ∧ (sz = 0) ∧ ((nx) = u.1) ∧ ((sz) = u.2.1) ∧ ((th) = u.2.2.1) ∧ ((ow) = u.2.2.2.1) ∧ ((co) = u.2.2.2.2.1) ∧ ((ro) = u.2.2.2.2.2.1) ∧ ((sl) = u.2.2.2.2.2.2) ∧ (True)) → RetI X cX5_popInto 4 0 0 r [(s0, .inr (5, [.ref s1, .int (nI u.1), .int (nI u.2.1)])), (s1, .inl (cE, 8, .inr (.inr (.inr (.inr (aS eA)))))), (eA 0, .inr (0, [.ref (tA 0), .ref (oA 0), .int (coS 0), .int (roS 0), .int (slS 0)])), (tA 0, .inl (cI, 48, .inl (thS 0))), (oA 0, .inl (cI, 48, .inl (owS 0))), (eA 1, .inr (0, [.ref (tA 1), .ref (oA 1), .int (coS 1), .int (roS 1), .int (slS 1)])), (tA 1, .inl (cI, 48, .inl (thS 1))), (oA 1, .inl (cI, 48, .inl (owS 1))), (eA 2, .inr (0, [.ref (tA 2), .ref (oA 2), .int (coS 2), .int (roS 2), .int (slS 2)])), (tA 2, .inl (cI, 48, .inl (thS 2))), (oA 2, .inl (cI, 48, .inl (owS 2))), (eA 3, .inr (0, [.ref (tA 3), .ref (oA 3), .int (coS 3), .int (roS 3), .int (slS 3)])), (tA 3, .inl (cI, 48, .inl (thS 3))), (oA 3, .inl (cI, 48, .inl (owS 3))), (eA 4, .inr (0, [.ref (tA 4), .ref (oA 4), .int (coS 4), .int (roS 4), .int (slS 4)])), (tA 4, .inl (cI, 48, .inl (thS 4))), (oA 4, .inl (cI, 48, .inl (owS 4))), (eA 5, .inr (0, [.ref (tA 5), .ref (oA 5), .int (coS 5), .int (roS 5), .int (slS 5)])), (tA 5, .inl (cI, 48, .inl (thS 5))), (oA 5, .inl (cI, 48, .inl (owS 5))), (eA 6, .inr (0, [.ref (tA 6), .ref (oA 6), .int (coS 6), .int (roS 6), .int (slS 6)])), (tA 6, .inl (cI, 48, .inl (thS 6))), (oA 6, .inl (cI, 48, .inl (owS 6))), (eA 7, .inr (0, [.ref (tA 7), .ref (oA 7), .int (coS 7), .int (roS 7), .int (slS 7)])), (tA 7, .inl (cI, 48, .inl (thS 7))), (oA 7, .inl (cI, 48, .inl (owS 7))), (a0, .inr (0, [.ref a1, .ref a2, .int u.2.2.2.2.1, .int u.2.2.2.2.2.1, .int u.2.2.2.2.2.2])), (a1, .inl (cI, 48, .inl u.2.2.1)), (a2, .inl (cI, 48, .inl u.2.2.2.1))]) : J X 4 0 0 0 [(0, .ref s0), (1, .ref a0)] [] [(s0, .inr (5, [.ref s1, .int (nI nx), .int (nI sz)])), (s1, .inl (cE, 8, .inr (.inr (.inr (.inr (aS eA)))))), (eA 0, .inr (0, [.ref (tA 0), .ref (oA 0), .int (coS 0), .int (roS 0), .int (slS 0)])), (tA 0, .inl (cI, 48, .inl (thS 0))), (oA 0, .inl (cI, 48, .inl (owS 0))), (eA 1, .inr (0, [.ref (tA 1), .ref (oA 1), .int (coS 1), .int (roS 1), .int (slS 1)])), (tA 1, .inl (cI, 48, .inl (thS 1))), (oA 1, .inl (cI, 48, .inl (owS 1))), (eA 2, .inr (0, [.ref (tA 2), .ref (oA 2), .int (coS 2), .int (roS 2), .int (slS 2)])), (tA 2, .inl (cI, 48, .inl (thS 2))), (oA 2, .inl (cI, 48, .inl (owS 2))), (eA 3, .inr (0, [.ref (tA 3), .ref (oA 3), .int (coS 3), .int (roS 3), .int (slS 3)])), (tA 3, .inl (cI, 48, .inl (thS 3))), (oA 3, .inl (cI, 48, .inl (owS 3))), (eA 4, .inr (0, [.ref (tA 4), .ref (oA 4), .int (coS 4), .int (roS 4), .int (slS 4)])), (tA 4, .inl (cI, 48, .inl (thS 4))), (oA 4, .inl (cI, 48, .inl (owS 4))), (eA 5, .inr (0, [.ref (tA 5), .ref (oA 5), .int (coS 5), .int (roS 5), .int (slS 5)])), (tA 5, .inl (cI, 48, .inl (thS 5))), (oA 5, .inl (cI, 48, .inl (owS 5))), (eA 6, .inr (0, [.ref (tA 6), .ref (oA 6), .int (coS 6), .int (roS 6), .int (slS 6)])), (tA 6, .inl (cI, 48, .inl (thS 6))), (oA 6, .inl (cI, 48, .inl (owS 6))), (eA 7, .inr (0, [.ref (tA 7), .ref (oA 7), .int (coS 7), .int (roS 7), .int (slS 7)])), (tA 7, .inl (cI, 48, .inl (thS 7))), (oA 7, .inl (cI, 48, .inl (owS 7))), (a0, .inr (0, [.ref a1, .ref a2, .int co, .int ro, .int sl])), (a1, .inl (cI, 48, .inl th)), (a2, .inl (cI, 48, .inl ow))] := by
  have hcs_ : nx = 0 ∨ nx = 1 ∨ nx = 2 ∨ nx = 3 ∨ nx = 4 ∨ nx = 5 ∨ nx = 6 ∨ nx = 7 := by omega
  rcases hcs_ with rfl | rfl | rfl | rfl | rfl | rfl | rfl | rfl
  · skip
    refine J_aload_n h (i := 0) dX5_popInto_0 rfl 0 rfl ?_
    refine J_get h inX5 rfl 0 1 (by decide) rfl rfl nf_X5_7 dX5_popInto_1 ?_
    refine J_if_le h 16 dX5_popInto_4 (by decide) (fun _ => ?_) (fun z => absurd z (by decide))
    refine J_aload_n h (i := 0) dX5_popInto_16 rfl 0 rfl ?_
    refine J_get h inX5 rfl 0 0 (by decide) rfl rfl nf_X5_24 dX5_popInto_17 ?_
    refine J_alenE h 1 rfl dX5_popInto_20 ?_
    refine J_iconst h (v := nI 1) dX5_popInto_21 (by decide) ?_
    refine N_isub h (by omega) dX5_popInto_22 ?_
    refine J_eqs (st' := [.int (nI 7)]) rfl ?_
    refine J_istore_n h (i := 2) (lv' := [(2, .int (nI 7)), (0, .ref s0), (1, .ref a0)]) dX5_popInto_23 rfl (by decide) rfl ?_
    refine J_aload_n h (i := 0) dX5_popInto_24 rfl 1 rfl ?_
    refine J_get h inX5 rfl 0 2 (by decide) rfl rfl nf_X5_13 dX5_popInto_25 ?_
    refine N_if_le h 44 dX5_popInto_28 (by decide) (by omega) (fun c_28 => ?_) (fun c_28 => ?_)
    · skip
      refine J_iconst h (v := nI 0) dX5_popInto_44 (by decide) ?_
      exact hR (nI 0) (0, sz, th, ow, co, ro, sl) (Or.inr (⟨rfl, (by (try dsimp only); first | assumption | omega | rfl), (by first | rfl | ((try dsimp only); first | assumption | omega | rfl)), (by first | rfl | ((try dsimp only); first | assumption | omega | rfl)), (by first | rfl | ((try dsimp only); first | assumption | omega | rfl)), (by first | rfl | ((try dsimp only); first | assumption | omega | rfl)), (by first | rfl | ((try dsimp only); first | assumption | omega | rfl)), (by first | rfl | ((try dsimp only); first | assumption | omega | rfl)), (by first | rfl | ((try dsimp only); first | assumption | omega | rfl)), trivial⟩)) 45 _ dX5_popInto_45
    · skip
      refine J_iload_n h (i := 2) dX5_popInto_31 rfl 0 rfl ?_
      refine J_if_lt h 44 dX5_popInto_32 (by decide) (fun z => absurd z (by decide)) (fun _ => ?_)
      refine J_iload_n h (i := 2) dX5_popInto_35 rfl 0 rfl ?_
      refine J_aload_n h (i := 0) dX5_popInto_36 rfl 1 rfl ?_
      refine J_get h inX5 rfl 0 0 (by decide) rfl rfl nf_X5_24 dX5_popInto_37 ?_
      refine J_alenE h 1 rfl dX5_popInto_40 ?_
      refine J_icmp_lt h 46 dX5_popInto_41 (by decide) (fun _ => ?_) (fun z => absurd z (by decide))
      refine J_aload_n h (i := 0) dX5_popInto_46 rfl 1 rfl ?_
      refine J_get h inX5 rfl 0 0 (by decide) rfl rfl nf_X5_24 dX5_popInto_47 ?_
      refine J_iload_n h (i := 2) dX5_popInto_50 rfl 0 rfl ?_
      refine N_aald h (b := (eA 7)) 1 rfl (by decide) (by omega) (by rfl) dX5_popInto_51 ?_
      refine J_astore_n h (i := 3) (lv' := [(3, .ref (eA 7)), (2, .int (nI 7)), (0, .ref s0), (1, .ref a0)]) dX5_popInto_52 rfl (by decide) rfl ?_
      refine J_aload_n h (i := 3) dX5_popInto_53 rfl 0 rfl ?_
      refine J_ifnonnull h 59 dX5_popInto_54 (by decide) ?_
      refine J_aload_n h (i := 1) dX5_popInto_59 rfl 3 rfl ?_
      refine J_aload_n h (i := 3) dX5_popInto_60 rfl 0 rfl ?_
      refine K_vv h (c_X0_copyFrom (xl X) (xD X) cI cE a0 a1 a2 th ow co ro sl (eA 7) (tA 7) (oA 7) (thS 7) (owS 7) (coS 7) (roS 7) (slS 7) ) yv_X0_copyFrom nm_X5_29 (by decide) (by decide) rfl [26, 27, 28, 23, 24, 25] rfl rfl 0 rfl rfl rfl (fun _ => rfl) rfl (Nat.le_of_ble_eq_true rfl) (Nat.le_refl _) (Nat.le_refl _) dX5_popInto_61 (fun u_61 p_61 => ?_)
      show J X 4 0 0 64 [(3, .ref (eA 7)), (2, .int (nI 7)), (0, .ref s0), (1, .ref a0)] [] [(s0, .inr (5, [.ref s1, .int (nI 0), .int (nI sz)])), (s1, .inl (cE, 8, .inr (.inr (.inr (.inr (aS eA)))))), (eA 0, .inr (0, [.ref (tA 0), .ref (oA 0), .int (coS 0), .int (roS 0), .int (slS 0)])), (tA 0, .inl (cI, 48, .inl (thS 0))), (oA 0, .inl (cI, 48, .inl (owS 0))), (eA 1, .inr (0, [.ref (tA 1), .ref (oA 1), .int (coS 1), .int (roS 1), .int (slS 1)])), (tA 1, .inl (cI, 48, .inl (thS 1))), (oA 1, .inl (cI, 48, .inl (owS 1))), (eA 2, .inr (0, [.ref (tA 2), .ref (oA 2), .int (coS 2), .int (roS 2), .int (slS 2)])), (tA 2, .inl (cI, 48, .inl (thS 2))), (oA 2, .inl (cI, 48, .inl (owS 2))), (eA 3, .inr (0, [.ref (tA 3), .ref (oA 3), .int (coS 3), .int (roS 3), .int (slS 3)])), (tA 3, .inl (cI, 48, .inl (thS 3))), (oA 3, .inl (cI, 48, .inl (owS 3))), (eA 4, .inr (0, [.ref (tA 4), .ref (oA 4), .int (coS 4), .int (roS 4), .int (slS 4)])), (tA 4, .inl (cI, 48, .inl (thS 4))), (oA 4, .inl (cI, 48, .inl (owS 4))), (eA 5, .inr (0, [.ref (tA 5), .ref (oA 5), .int (coS 5), .int (roS 5), .int (slS 5)])), (tA 5, .inl (cI, 48, .inl (thS 5))), (oA 5, .inl (cI, 48, .inl (owS 5))), (eA 6, .inr (0, [.ref (tA 6), .ref (oA 6), .int (coS 6), .int (roS 6), .int (slS 6)])), (tA 6, .inl (cI, 48, .inl (thS 6))), (oA 6, .inl (cI, 48, .inl (owS 6))), ((eA 7), .inr (0, [.ref (tA 7), .ref (oA 7), .int (coS 7), .int (roS 7), .int (slS 7)])), ((tA 7), .inl (cI, 48, .inl ((thS 7)))), ((oA 7), .inl (cI, 48, .inl ((owS 7)))), (a0, .inr (0, [.ref a1, .ref a2, .int (coS 7), .int (roS 7), .int (slS 7)])), (a1, .inl (cI, 48, .inl ((thS 7)))), (a2, .inl (cI, 48, .inl ((owS 7))))]
      refine J_aload_n h (i := 0) dX5_popInto_64 rfl 2 rfl ?_
      refine J_iload_n h (i := 2) dX5_popInto_65 rfl 1 rfl ?_
      refine J_put h (ws' := [(s0, .inr (5, [.ref s1, .int (nI 7), .int (nI sz)])), (s1, .inl (cE, 8, .inr (.inr (.inr (.inr (aS eA)))))), (eA 0, .inr (0, [.ref (tA 0), .ref (oA 0), .int (coS 0), .int (roS 0), .int (slS 0)])), (tA 0, .inl (cI, 48, .inl (thS 0))), (oA 0, .inl (cI, 48, .inl (owS 0))), (eA 1, .inr (0, [.ref (tA 1), .ref (oA 1), .int (coS 1), .int (roS 1), .int (slS 1)])), (tA 1, .inl (cI, 48, .inl (thS 1))), (oA 1, .inl (cI, 48, .inl (owS 1))), (eA 2, .inr (0, [.ref (tA 2), .ref (oA 2), .int (coS 2), .int (roS 2), .int (slS 2)])), (tA 2, .inl (cI, 48, .inl (thS 2))), (oA 2, .inl (cI, 48, .inl (owS 2))), (eA 3, .inr (0, [.ref (tA 3), .ref (oA 3), .int (coS 3), .int (roS 3), .int (slS 3)])), (tA 3, .inl (cI, 48, .inl (thS 3))), (oA 3, .inl (cI, 48, .inl (owS 3))), (eA 4, .inr (0, [.ref (tA 4), .ref (oA 4), .int (coS 4), .int (roS 4), .int (slS 4)])), (tA 4, .inl (cI, 48, .inl (thS 4))), (oA 4, .inl (cI, 48, .inl (owS 4))), (eA 5, .inr (0, [.ref (tA 5), .ref (oA 5), .int (coS 5), .int (roS 5), .int (slS 5)])), (tA 5, .inl (cI, 48, .inl (thS 5))), (oA 5, .inl (cI, 48, .inl (owS 5))), (eA 6, .inr (0, [.ref (tA 6), .ref (oA 6), .int (coS 6), .int (roS 6), .int (slS 6)])), (tA 6, .inl (cI, 48, .inl (thS 6))), (oA 6, .inl (cI, 48, .inl (owS 6))), ((eA 7), .inr (0, [.ref (tA 7), .ref (oA 7), .int (coS 7), .int (roS 7), .int (slS 7)])), ((tA 7), .inl (cI, 48, .inl ((thS 7)))), ((oA 7), .inl (cI, 48, .inl ((owS 7)))), (a0, .inr (0, [.ref a1, .ref a2, .int (coS 7), .int (roS 7), .int (slS 7)])), (a1, .inl (cI, 48, .inl ((thS 7)))), (a2, .inl (cI, 48, .inl ((owS 7))))]) inX5 tyX5 tyX5_ok nmX5 rfl 0 1 (by decide) rfl nf_X5_7 rfl rfl rfl rfl (Nat.le_of_ble_eq_true rfl) dX5_popInto_66 rfl ?_
      refine J_aload_n h (i := 0) dX5_popInto_69 rfl 2 rfl ?_
      refine J_dup h dX5_popInto_70 rfl ?_
      refine J_get h inX5 rfl 0 2 (by decide) rfl rfl nf_X5_13 dX5_popInto_71 ?_
      refine J_iconst h (v := nI 1) dX5_popInto_74 (by decide) ?_
      refine N_isub h (by omega) dX5_popInto_75 ?_
      refine J_put h (ws' := [(s0, .inr (5, [.ref s1, .int (nI 7), .int (nI (sz - 1))])), (s1, .inl (cE, 8, .inr (.inr (.inr (.inr (aS eA)))))), (eA 0, .inr (0, [.ref (tA 0), .ref (oA 0), .int (coS 0), .int (roS 0), .int (slS 0)])), (tA 0, .inl (cI, 48, .inl (thS 0))), (oA 0, .inl (cI, 48, .inl (owS 0))), (eA 1, .inr (0, [.ref (tA 1), .ref (oA 1), .int (coS 1), .int (roS 1), .int (slS 1)])), (tA 1, .inl (cI, 48, .inl (thS 1))), (oA 1, .inl (cI, 48, .inl (owS 1))), (eA 2, .inr (0, [.ref (tA 2), .ref (oA 2), .int (coS 2), .int (roS 2), .int (slS 2)])), (tA 2, .inl (cI, 48, .inl (thS 2))), (oA 2, .inl (cI, 48, .inl (owS 2))), (eA 3, .inr (0, [.ref (tA 3), .ref (oA 3), .int (coS 3), .int (roS 3), .int (slS 3)])), (tA 3, .inl (cI, 48, .inl (thS 3))), (oA 3, .inl (cI, 48, .inl (owS 3))), (eA 4, .inr (0, [.ref (tA 4), .ref (oA 4), .int (coS 4), .int (roS 4), .int (slS 4)])), (tA 4, .inl (cI, 48, .inl (thS 4))), (oA 4, .inl (cI, 48, .inl (owS 4))), (eA 5, .inr (0, [.ref (tA 5), .ref (oA 5), .int (coS 5), .int (roS 5), .int (slS 5)])), (tA 5, .inl (cI, 48, .inl (thS 5))), (oA 5, .inl (cI, 48, .inl (owS 5))), (eA 6, .inr (0, [.ref (tA 6), .ref (oA 6), .int (coS 6), .int (roS 6), .int (slS 6)])), (tA 6, .inl (cI, 48, .inl (thS 6))), (oA 6, .inl (cI, 48, .inl (owS 6))), ((eA 7), .inr (0, [.ref (tA 7), .ref (oA 7), .int (coS 7), .int (roS 7), .int (slS 7)])), ((tA 7), .inl (cI, 48, .inl ((thS 7)))), ((oA 7), .inl (cI, 48, .inl ((owS 7)))), (a0, .inr (0, [.ref a1, .ref a2, .int (coS 7), .int (roS 7), .int (slS 7)])), (a1, .inl (cI, 48, .inl ((thS 7)))), (a2, .inl (cI, 48, .inl ((owS 7))))]) inX5 tyX5 tyX5_ok nmX5 rfl 0 2 (by decide) rfl nf_X5_13 rfl rfl rfl rfl (Nat.le_of_ble_eq_true rfl) dX5_popInto_76 rfl ?_
      refine J_iconst h (v := nI 1) dX5_popInto_79 (by decide) ?_
      exact hR (nI 1) (7, sz - 1, thS 7, owS 7, coS 7, roS 7, slS 7) (Or.inl ⟨rfl, (by (try dsimp only); first | assumption | omega | rfl), (by first | rfl | ((try dsimp only); first | assumption | omega | rfl)), (by first | rfl | ((try dsimp only); first | assumption | omega | rfl)), (by first | rfl | ((try dsimp only); first | assumption | omega | rfl)), (by first | rfl | ((try dsimp only); first | assumption | omega | rfl)), (by first | rfl | ((try dsimp only); first | assumption | omega | rfl)), (by first | rfl | ((try dsimp only); first | assumption | omega | rfl)), (by first | rfl | ((try dsimp only); first | assumption | omega | rfl)), trivial⟩) 80 _ dX5_popInto_80
  · skip
    refine J_aload_n h (i := 0) dX5_popInto_0 rfl 0 rfl ?_
    refine J_get h inX5 rfl 0 1 (by decide) rfl rfl nf_X5_7 dX5_popInto_1 ?_
    refine J_if_le h 16 dX5_popInto_4 (by decide) (fun z => absurd z (by decide)) (fun _ => ?_)
    refine J_aload_n h (i := 0) dX5_popInto_7 rfl 0 rfl ?_
    refine J_get h inX5 rfl 0 1 (by decide) rfl rfl nf_X5_7 dX5_popInto_8 ?_
    refine J_iconst h (v := nI 1) dX5_popInto_11 (by decide) ?_
    refine N_isub h (by omega) dX5_popInto_12 ?_
    refine J_eqs (st' := [.int (nI 0)]) rfl ?_
    refine J_goto h 23 dX5_popInto_13 (by decide) ?_
    refine J_istore_n h (i := 2) (lv' := [(2, .int (nI 0)), (0, .ref s0), (1, .ref a0)]) dX5_popInto_23 rfl (by decide) rfl ?_
    refine J_aload_n h (i := 0) dX5_popInto_24 rfl 1 rfl ?_
    refine J_get h inX5 rfl 0 2 (by decide) rfl rfl nf_X5_13 dX5_popInto_25 ?_
    refine N_if_le h 44 dX5_popInto_28 (by decide) (by omega) (fun c_28 => ?_) (fun c_28 => ?_)
    · skip
      refine J_iconst h (v := nI 0) dX5_popInto_44 (by decide) ?_
      exact hR (nI 0) (1, sz, th, ow, co, ro, sl) (Or.inr (⟨rfl, (by (try dsimp only); first | assumption | omega | rfl), (by first | rfl | ((try dsimp only); first | assumption | omega | rfl)), (by first | rfl | ((try dsimp only); first | assumption | omega | rfl)), (by first | rfl | ((try dsimp only); first | assumption | omega | rfl)), (by first | rfl | ((try dsimp only); first | assumption | omega | rfl)), (by first | rfl | ((try dsimp only); first | assumption | omega | rfl)), (by first | rfl | ((try dsimp only); first | assumption | omega | rfl)), (by first | rfl | ((try dsimp only); first | assumption | omega | rfl)), trivial⟩)) 45 _ dX5_popInto_45
    · skip
      refine J_iload_n h (i := 2) dX5_popInto_31 rfl 0 rfl ?_
      refine J_if_lt h 44 dX5_popInto_32 (by decide) (fun z => absurd z (by decide)) (fun _ => ?_)
      refine J_iload_n h (i := 2) dX5_popInto_35 rfl 0 rfl ?_
      refine J_aload_n h (i := 0) dX5_popInto_36 rfl 1 rfl ?_
      refine J_get h inX5 rfl 0 0 (by decide) rfl rfl nf_X5_24 dX5_popInto_37 ?_
      refine J_alenE h 1 rfl dX5_popInto_40 ?_
      refine J_icmp_lt h 46 dX5_popInto_41 (by decide) (fun _ => ?_) (fun z => absurd z (by decide))
      refine J_aload_n h (i := 0) dX5_popInto_46 rfl 1 rfl ?_
      refine J_get h inX5 rfl 0 0 (by decide) rfl rfl nf_X5_24 dX5_popInto_47 ?_
      refine J_iload_n h (i := 2) dX5_popInto_50 rfl 0 rfl ?_
      refine N_aald h (b := (eA 0)) 1 rfl (by decide) (by omega) (by rfl) dX5_popInto_51 ?_
      refine J_astore_n h (i := 3) (lv' := [(3, .ref (eA 0)), (2, .int (nI 0)), (0, .ref s0), (1, .ref a0)]) dX5_popInto_52 rfl (by decide) rfl ?_
      refine J_aload_n h (i := 3) dX5_popInto_53 rfl 0 rfl ?_
      refine J_ifnonnull h 59 dX5_popInto_54 (by decide) ?_
      refine J_aload_n h (i := 1) dX5_popInto_59 rfl 3 rfl ?_
      refine J_aload_n h (i := 3) dX5_popInto_60 rfl 0 rfl ?_
      refine K_vv h (c_X0_copyFrom (xl X) (xD X) cI cE a0 a1 a2 th ow co ro sl (eA 0) (tA 0) (oA 0) (thS 0) (owS 0) (coS 0) (roS 0) (slS 0) ) yv_X0_copyFrom nm_X5_29 (by decide) (by decide) rfl [26, 27, 28, 2, 3, 4] rfl rfl 0 rfl rfl rfl (fun _ => rfl) rfl (Nat.le_of_ble_eq_true rfl) (Nat.le_refl _) (Nat.le_refl _) dX5_popInto_61 (fun u_61 p_61 => ?_)
      show J X 4 0 0 64 [(3, .ref (eA 0)), (2, .int (nI 0)), (0, .ref s0), (1, .ref a0)] [] [(s0, .inr (5, [.ref s1, .int (nI 1), .int (nI sz)])), (s1, .inl (cE, 8, .inr (.inr (.inr (.inr (aS eA)))))), ((eA 0), .inr (0, [.ref (tA 0), .ref (oA 0), .int (coS 0), .int (roS 0), .int (slS 0)])), ((tA 0), .inl (cI, 48, .inl ((thS 0)))), ((oA 0), .inl (cI, 48, .inl ((owS 0)))), (eA 1, .inr (0, [.ref (tA 1), .ref (oA 1), .int (coS 1), .int (roS 1), .int (slS 1)])), (tA 1, .inl (cI, 48, .inl (thS 1))), (oA 1, .inl (cI, 48, .inl (owS 1))), (eA 2, .inr (0, [.ref (tA 2), .ref (oA 2), .int (coS 2), .int (roS 2), .int (slS 2)])), (tA 2, .inl (cI, 48, .inl (thS 2))), (oA 2, .inl (cI, 48, .inl (owS 2))), (eA 3, .inr (0, [.ref (tA 3), .ref (oA 3), .int (coS 3), .int (roS 3), .int (slS 3)])), (tA 3, .inl (cI, 48, .inl (thS 3))), (oA 3, .inl (cI, 48, .inl (owS 3))), (eA 4, .inr (0, [.ref (tA 4), .ref (oA 4), .int (coS 4), .int (roS 4), .int (slS 4)])), (tA 4, .inl (cI, 48, .inl (thS 4))), (oA 4, .inl (cI, 48, .inl (owS 4))), (eA 5, .inr (0, [.ref (tA 5), .ref (oA 5), .int (coS 5), .int (roS 5), .int (slS 5)])), (tA 5, .inl (cI, 48, .inl (thS 5))), (oA 5, .inl (cI, 48, .inl (owS 5))), (eA 6, .inr (0, [.ref (tA 6), .ref (oA 6), .int (coS 6), .int (roS 6), .int (slS 6)])), (tA 6, .inl (cI, 48, .inl (thS 6))), (oA 6, .inl (cI, 48, .inl (owS 6))), (eA 7, .inr (0, [.ref (tA 7), .ref (oA 7), .int (coS 7), .int (roS 7), .int (slS 7)])), (tA 7, .inl (cI, 48, .inl (thS 7))), (oA 7, .inl (cI, 48, .inl (owS 7))), (a0, .inr (0, [.ref a1, .ref a2, .int (coS 0), .int (roS 0), .int (slS 0)])), (a1, .inl (cI, 48, .inl ((thS 0)))), (a2, .inl (cI, 48, .inl ((owS 0))))]
      refine J_aload_n h (i := 0) dX5_popInto_64 rfl 2 rfl ?_
      refine J_iload_n h (i := 2) dX5_popInto_65 rfl 1 rfl ?_
      refine J_put h (ws' := [(s0, .inr (5, [.ref s1, .int (nI 0), .int (nI sz)])), (s1, .inl (cE, 8, .inr (.inr (.inr (.inr (aS eA)))))), ((eA 0), .inr (0, [.ref (tA 0), .ref (oA 0), .int (coS 0), .int (roS 0), .int (slS 0)])), ((tA 0), .inl (cI, 48, .inl ((thS 0)))), ((oA 0), .inl (cI, 48, .inl ((owS 0)))), (eA 1, .inr (0, [.ref (tA 1), .ref (oA 1), .int (coS 1), .int (roS 1), .int (slS 1)])), (tA 1, .inl (cI, 48, .inl (thS 1))), (oA 1, .inl (cI, 48, .inl (owS 1))), (eA 2, .inr (0, [.ref (tA 2), .ref (oA 2), .int (coS 2), .int (roS 2), .int (slS 2)])), (tA 2, .inl (cI, 48, .inl (thS 2))), (oA 2, .inl (cI, 48, .inl (owS 2))), (eA 3, .inr (0, [.ref (tA 3), .ref (oA 3), .int (coS 3), .int (roS 3), .int (slS 3)])), (tA 3, .inl (cI, 48, .inl (thS 3))), (oA 3, .inl (cI, 48, .inl (owS 3))), (eA 4, .inr (0, [.ref (tA 4), .ref (oA 4), .int (coS 4), .int (roS 4), .int (slS 4)])), (tA 4, .inl (cI, 48, .inl (thS 4))), (oA 4, .inl (cI, 48, .inl (owS 4))), (eA 5, .inr (0, [.ref (tA 5), .ref (oA 5), .int (coS 5), .int (roS 5), .int (slS 5)])), (tA 5, .inl (cI, 48, .inl (thS 5))), (oA 5, .inl (cI, 48, .inl (owS 5))), (eA 6, .inr (0, [.ref (tA 6), .ref (oA 6), .int (coS 6), .int (roS 6), .int (slS 6)])), (tA 6, .inl (cI, 48, .inl (thS 6))), (oA 6, .inl (cI, 48, .inl (owS 6))), (eA 7, .inr (0, [.ref (tA 7), .ref (oA 7), .int (coS 7), .int (roS 7), .int (slS 7)])), (tA 7, .inl (cI, 48, .inl (thS 7))), (oA 7, .inl (cI, 48, .inl (owS 7))), (a0, .inr (0, [.ref a1, .ref a2, .int (coS 0), .int (roS 0), .int (slS 0)])), (a1, .inl (cI, 48, .inl ((thS 0)))), (a2, .inl (cI, 48, .inl ((owS 0))))]) inX5 tyX5 tyX5_ok nmX5 rfl 0 1 (by decide) rfl nf_X5_7 rfl rfl rfl rfl (Nat.le_of_ble_eq_true rfl) dX5_popInto_66 rfl ?_
      refine J_aload_n h (i := 0) dX5_popInto_69 rfl 2 rfl ?_
      refine J_dup h dX5_popInto_70 rfl ?_
      refine J_get h inX5 rfl 0 2 (by decide) rfl rfl nf_X5_13 dX5_popInto_71 ?_
      refine J_iconst h (v := nI 1) dX5_popInto_74 (by decide) ?_
      refine N_isub h (by omega) dX5_popInto_75 ?_
      refine J_put h (ws' := [(s0, .inr (5, [.ref s1, .int (nI 0), .int (nI (sz - 1))])), (s1, .inl (cE, 8, .inr (.inr (.inr (.inr (aS eA)))))), ((eA 0), .inr (0, [.ref (tA 0), .ref (oA 0), .int (coS 0), .int (roS 0), .int (slS 0)])), ((tA 0), .inl (cI, 48, .inl ((thS 0)))), ((oA 0), .inl (cI, 48, .inl ((owS 0)))), (eA 1, .inr (0, [.ref (tA 1), .ref (oA 1), .int (coS 1), .int (roS 1), .int (slS 1)])), (tA 1, .inl (cI, 48, .inl (thS 1))), (oA 1, .inl (cI, 48, .inl (owS 1))), (eA 2, .inr (0, [.ref (tA 2), .ref (oA 2), .int (coS 2), .int (roS 2), .int (slS 2)])), (tA 2, .inl (cI, 48, .inl (thS 2))), (oA 2, .inl (cI, 48, .inl (owS 2))), (eA 3, .inr (0, [.ref (tA 3), .ref (oA 3), .int (coS 3), .int (roS 3), .int (slS 3)])), (tA 3, .inl (cI, 48, .inl (thS 3))), (oA 3, .inl (cI, 48, .inl (owS 3))), (eA 4, .inr (0, [.ref (tA 4), .ref (oA 4), .int (coS 4), .int (roS 4), .int (slS 4)])), (tA 4, .inl (cI, 48, .inl (thS 4))), (oA 4, .inl (cI, 48, .inl (owS 4))), (eA 5, .inr (0, [.ref (tA 5), .ref (oA 5), .int (coS 5), .int (roS 5), .int (slS 5)])), (tA 5, .inl (cI, 48, .inl (thS 5))), (oA 5, .inl (cI, 48, .inl (owS 5))), (eA 6, .inr (0, [.ref (tA 6), .ref (oA 6), .int (coS 6), .int (roS 6), .int (slS 6)])), (tA 6, .inl (cI, 48, .inl (thS 6))), (oA 6, .inl (cI, 48, .inl (owS 6))), (eA 7, .inr (0, [.ref (tA 7), .ref (oA 7), .int (coS 7), .int (roS 7), .int (slS 7)])), (tA 7, .inl (cI, 48, .inl (thS 7))), (oA 7, .inl (cI, 48, .inl (owS 7))), (a0, .inr (0, [.ref a1, .ref a2, .int (coS 0), .int (roS 0), .int (slS 0)])), (a1, .inl (cI, 48, .inl ((thS 0)))), (a2, .inl (cI, 48, .inl ((owS 0))))]) inX5 tyX5 tyX5_ok nmX5 rfl 0 2 (by decide) rfl nf_X5_13 rfl rfl rfl rfl (Nat.le_of_ble_eq_true rfl) dX5_popInto_76 rfl ?_
      refine J_iconst h (v := nI 1) dX5_popInto_79 (by decide) ?_
      exact hR (nI 1) (0, sz - 1, thS 0, owS 0, coS 0, roS 0, slS 0) (Or.inl ⟨rfl, (by (try dsimp only); first | assumption | omega | rfl), (by first | rfl | ((try dsimp only); first | assumption | omega | rfl)), (by first | rfl | ((try dsimp only); first | assumption | omega | rfl)), (by first | rfl | ((try dsimp only); first | assumption | omega | rfl)), (by first | rfl | ((try dsimp only); first | assumption | omega | rfl)), (by first | rfl | ((try dsimp only); first | assumption | omega | rfl)), (by first | rfl | ((try dsimp only); first | assumption | omega | rfl)), (by first | rfl | ((try dsimp only); first | assumption | omega | rfl)), trivial⟩) 80 _ dX5_popInto_80
  · skip
    refine J_aload_n h (i := 0) dX5_popInto_0 rfl 0 rfl ?_
    refine J_get h inX5 rfl 0 1 (by decide) rfl rfl nf_X5_7 dX5_popInto_1 ?_
    refine J_if_le h 16 dX5_popInto_4 (by decide) (fun z => absurd z (by decide)) (fun _ => ?_)
    refine J_aload_n h (i := 0) dX5_popInto_7 rfl 0 rfl ?_
    refine J_get h inX5 rfl 0 1 (by decide) rfl rfl nf_X5_7 dX5_popInto_8 ?_
    refine J_iconst h (v := nI 1) dX5_popInto_11 (by decide) ?_
    refine N_isub h (by omega) dX5_popInto_12 ?_
    refine J_eqs (st' := [.int (nI 1)]) rfl ?_
    refine J_goto h 23 dX5_popInto_13 (by decide) ?_
    refine J_istore_n h (i := 2) (lv' := [(2, .int (nI 1)), (0, .ref s0), (1, .ref a0)]) dX5_popInto_23 rfl (by decide) rfl ?_
    refine J_aload_n h (i := 0) dX5_popInto_24 rfl 1 rfl ?_
    refine J_get h inX5 rfl 0 2 (by decide) rfl rfl nf_X5_13 dX5_popInto_25 ?_
    refine N_if_le h 44 dX5_popInto_28 (by decide) (by omega) (fun c_28 => ?_) (fun c_28 => ?_)
    · skip
      refine J_iconst h (v := nI 0) dX5_popInto_44 (by decide) ?_
      exact hR (nI 0) (2, sz, th, ow, co, ro, sl) (Or.inr (⟨rfl, (by (try dsimp only); first | assumption | omega | rfl), (by first | rfl | ((try dsimp only); first | assumption | omega | rfl)), (by first | rfl | ((try dsimp only); first | assumption | omega | rfl)), (by first | rfl | ((try dsimp only); first | assumption | omega | rfl)), (by first | rfl | ((try dsimp only); first | assumption | omega | rfl)), (by first | rfl | ((try dsimp only); first | assumption | omega | rfl)), (by first | rfl | ((try dsimp only); first | assumption | omega | rfl)), (by first | rfl | ((try dsimp only); first | assumption | omega | rfl)), trivial⟩)) 45 _ dX5_popInto_45
    · skip
      refine J_iload_n h (i := 2) dX5_popInto_31 rfl 0 rfl ?_
      refine J_if_lt h 44 dX5_popInto_32 (by decide) (fun z => absurd z (by decide)) (fun _ => ?_)
      refine J_iload_n h (i := 2) dX5_popInto_35 rfl 0 rfl ?_
      refine J_aload_n h (i := 0) dX5_popInto_36 rfl 1 rfl ?_
      refine J_get h inX5 rfl 0 0 (by decide) rfl rfl nf_X5_24 dX5_popInto_37 ?_
      refine J_alenE h 1 rfl dX5_popInto_40 ?_
      refine J_icmp_lt h 46 dX5_popInto_41 (by decide) (fun _ => ?_) (fun z => absurd z (by decide))
      refine J_aload_n h (i := 0) dX5_popInto_46 rfl 1 rfl ?_
      refine J_get h inX5 rfl 0 0 (by decide) rfl rfl nf_X5_24 dX5_popInto_47 ?_
      refine J_iload_n h (i := 2) dX5_popInto_50 rfl 0 rfl ?_
      refine N_aald h (b := (eA 1)) 1 rfl (by decide) (by omega) (by rfl) dX5_popInto_51 ?_
      refine J_astore_n h (i := 3) (lv' := [(3, .ref (eA 1)), (2, .int (nI 1)), (0, .ref s0), (1, .ref a0)]) dX5_popInto_52 rfl (by decide) rfl ?_
      refine J_aload_n h (i := 3) dX5_popInto_53 rfl 0 rfl ?_
      refine J_ifnonnull h 59 dX5_popInto_54 (by decide) ?_
      refine J_aload_n h (i := 1) dX5_popInto_59 rfl 3 rfl ?_
      refine J_aload_n h (i := 3) dX5_popInto_60 rfl 0 rfl ?_
      refine K_vv h (c_X0_copyFrom (xl X) (xD X) cI cE a0 a1 a2 th ow co ro sl (eA 1) (tA 1) (oA 1) (thS 1) (owS 1) (coS 1) (roS 1) (slS 1) ) yv_X0_copyFrom nm_X5_29 (by decide) (by decide) rfl [26, 27, 28, 5, 6, 7] rfl rfl 0 rfl rfl rfl (fun _ => rfl) rfl (Nat.le_of_ble_eq_true rfl) (Nat.le_refl _) (Nat.le_refl _) dX5_popInto_61 (fun u_61 p_61 => ?_)
      show J X 4 0 0 64 [(3, .ref (eA 1)), (2, .int (nI 1)), (0, .ref s0), (1, .ref a0)] [] [(s0, .inr (5, [.ref s1, .int (nI 2), .int (nI sz)])), (s1, .inl (cE, 8, .inr (.inr (.inr (.inr (aS eA)))))), (eA 0, .inr (0, [.ref (tA 0), .ref (oA 0), .int (coS 0), .int (roS 0), .int (slS 0)])), (tA 0, .inl (cI, 48, .inl (thS 0))), (oA 0, .inl (cI, 48, .inl (owS 0))), ((eA 1), .inr (0, [.ref (tA 1), .ref (oA 1), .int (coS 1), .int (roS 1), .int (slS 1)])), ((tA 1), .inl (cI, 48, .inl ((thS 1)))), ((oA 1), .inl (cI, 48, .inl ((owS 1)))), (eA 2, .inr (0, [.ref (tA 2), .ref (oA 2), .int (coS 2), .int (roS 2), .int (slS 2)])), (tA 2, .inl (cI, 48, .inl (thS 2))), (oA 2, .inl (cI, 48, .inl (owS 2))), (eA 3, .inr (0, [.ref (tA 3), .ref (oA 3), .int (coS 3), .int (roS 3), .int (slS 3)])), (tA 3, .inl (cI, 48, .inl (thS 3))), (oA 3, .inl (cI, 48, .inl (owS 3))), (eA 4, .inr (0, [.ref (tA 4), .ref (oA 4), .int (coS 4), .int (roS 4), .int (slS 4)])), (tA 4, .inl (cI, 48, .inl (thS 4))), (oA 4, .inl (cI, 48, .inl (owS 4))), (eA 5, .inr (0, [.ref (tA 5), .ref (oA 5), .int (coS 5), .int (roS 5), .int (slS 5)])), (tA 5, .inl (cI, 48, .inl (thS 5))), (oA 5, .inl (cI, 48, .inl (owS 5))), (eA 6, .inr (0, [.ref (tA 6), .ref (oA 6), .int (coS 6), .int (roS 6), .int (slS 6)])), (tA 6, .inl (cI, 48, .inl (thS 6))), (oA 6, .inl (cI, 48, .inl (owS 6))), (eA 7, .inr (0, [.ref (tA 7), .ref (oA 7), .int (coS 7), .int (roS 7), .int (slS 7)])), (tA 7, .inl (cI, 48, .inl (thS 7))), (oA 7, .inl (cI, 48, .inl (owS 7))), (a0, .inr (0, [.ref a1, .ref a2, .int (coS 1), .int (roS 1), .int (slS 1)])), (a1, .inl (cI, 48, .inl ((thS 1)))), (a2, .inl (cI, 48, .inl ((owS 1))))]
      refine J_aload_n h (i := 0) dX5_popInto_64 rfl 2 rfl ?_
      refine J_iload_n h (i := 2) dX5_popInto_65 rfl 1 rfl ?_
      refine J_put h (ws' := [(s0, .inr (5, [.ref s1, .int (nI 1), .int (nI sz)])), (s1, .inl (cE, 8, .inr (.inr (.inr (.inr (aS eA)))))), (eA 0, .inr (0, [.ref (tA 0), .ref (oA 0), .int (coS 0), .int (roS 0), .int (slS 0)])), (tA 0, .inl (cI, 48, .inl (thS 0))), (oA 0, .inl (cI, 48, .inl (owS 0))), ((eA 1), .inr (0, [.ref (tA 1), .ref (oA 1), .int (coS 1), .int (roS 1), .int (slS 1)])), ((tA 1), .inl (cI, 48, .inl ((thS 1)))), ((oA 1), .inl (cI, 48, .inl ((owS 1)))), (eA 2, .inr (0, [.ref (tA 2), .ref (oA 2), .int (coS 2), .int (roS 2), .int (slS 2)])), (tA 2, .inl (cI, 48, .inl (thS 2))), (oA 2, .inl (cI, 48, .inl (owS 2))), (eA 3, .inr (0, [.ref (tA 3), .ref (oA 3), .int (coS 3), .int (roS 3), .int (slS 3)])), (tA 3, .inl (cI, 48, .inl (thS 3))), (oA 3, .inl (cI, 48, .inl (owS 3))), (eA 4, .inr (0, [.ref (tA 4), .ref (oA 4), .int (coS 4), .int (roS 4), .int (slS 4)])), (tA 4, .inl (cI, 48, .inl (thS 4))), (oA 4, .inl (cI, 48, .inl (owS 4))), (eA 5, .inr (0, [.ref (tA 5), .ref (oA 5), .int (coS 5), .int (roS 5), .int (slS 5)])), (tA 5, .inl (cI, 48, .inl (thS 5))), (oA 5, .inl (cI, 48, .inl (owS 5))), (eA 6, .inr (0, [.ref (tA 6), .ref (oA 6), .int (coS 6), .int (roS 6), .int (slS 6)])), (tA 6, .inl (cI, 48, .inl (thS 6))), (oA 6, .inl (cI, 48, .inl (owS 6))), (eA 7, .inr (0, [.ref (tA 7), .ref (oA 7), .int (coS 7), .int (roS 7), .int (slS 7)])), (tA 7, .inl (cI, 48, .inl (thS 7))), (oA 7, .inl (cI, 48, .inl (owS 7))), (a0, .inr (0, [.ref a1, .ref a2, .int (coS 1), .int (roS 1), .int (slS 1)])), (a1, .inl (cI, 48, .inl ((thS 1)))), (a2, .inl (cI, 48, .inl ((owS 1))))]) inX5 tyX5 tyX5_ok nmX5 rfl 0 1 (by decide) rfl nf_X5_7 rfl rfl rfl rfl (Nat.le_of_ble_eq_true rfl) dX5_popInto_66 rfl ?_
      refine J_aload_n h (i := 0) dX5_popInto_69 rfl 2 rfl ?_
      refine J_dup h dX5_popInto_70 rfl ?_
      refine J_get h inX5 rfl 0 2 (by decide) rfl rfl nf_X5_13 dX5_popInto_71 ?_
      refine J_iconst h (v := nI 1) dX5_popInto_74 (by decide) ?_
      refine N_isub h (by omega) dX5_popInto_75 ?_
      refine J_put h (ws' := [(s0, .inr (5, [.ref s1, .int (nI 1), .int (nI (sz - 1))])), (s1, .inl (cE, 8, .inr (.inr (.inr (.inr (aS eA)))))), (eA 0, .inr (0, [.ref (tA 0), .ref (oA 0), .int (coS 0), .int (roS 0), .int (slS 0)])), (tA 0, .inl (cI, 48, .inl (thS 0))), (oA 0, .inl (cI, 48, .inl (owS 0))), ((eA 1), .inr (0, [.ref (tA 1), .ref (oA 1), .int (coS 1), .int (roS 1), .int (slS 1)])), ((tA 1), .inl (cI, 48, .inl ((thS 1)))), ((oA 1), .inl (cI, 48, .inl ((owS 1)))), (eA 2, .inr (0, [.ref (tA 2), .ref (oA 2), .int (coS 2), .int (roS 2), .int (slS 2)])), (tA 2, .inl (cI, 48, .inl (thS 2))), (oA 2, .inl (cI, 48, .inl (owS 2))), (eA 3, .inr (0, [.ref (tA 3), .ref (oA 3), .int (coS 3), .int (roS 3), .int (slS 3)])), (tA 3, .inl (cI, 48, .inl (thS 3))), (oA 3, .inl (cI, 48, .inl (owS 3))), (eA 4, .inr (0, [.ref (tA 4), .ref (oA 4), .int (coS 4), .int (roS 4), .int (slS 4)])), (tA 4, .inl (cI, 48, .inl (thS 4))), (oA 4, .inl (cI, 48, .inl (owS 4))), (eA 5, .inr (0, [.ref (tA 5), .ref (oA 5), .int (coS 5), .int (roS 5), .int (slS 5)])), (tA 5, .inl (cI, 48, .inl (thS 5))), (oA 5, .inl (cI, 48, .inl (owS 5))), (eA 6, .inr (0, [.ref (tA 6), .ref (oA 6), .int (coS 6), .int (roS 6), .int (slS 6)])), (tA 6, .inl (cI, 48, .inl (thS 6))), (oA 6, .inl (cI, 48, .inl (owS 6))), (eA 7, .inr (0, [.ref (tA 7), .ref (oA 7), .int (coS 7), .int (roS 7), .int (slS 7)])), (tA 7, .inl (cI, 48, .inl (thS 7))), (oA 7, .inl (cI, 48, .inl (owS 7))), (a0, .inr (0, [.ref a1, .ref a2, .int (coS 1), .int (roS 1), .int (slS 1)])), (a1, .inl (cI, 48, .inl ((thS 1)))), (a2, .inl (cI, 48, .inl ((owS 1))))]) inX5 tyX5 tyX5_ok nmX5 rfl 0 2 (by decide) rfl nf_X5_13 rfl rfl rfl rfl (Nat.le_of_ble_eq_true rfl) dX5_popInto_76 rfl ?_
      refine J_iconst h (v := nI 1) dX5_popInto_79 (by decide) ?_
      exact hR (nI 1) (1, sz - 1, thS 1, owS 1, coS 1, roS 1, slS 1) (Or.inl ⟨rfl, (by (try dsimp only); first | assumption | omega | rfl), (by first | rfl | ((try dsimp only); first | assumption | omega | rfl)), (by first | rfl | ((try dsimp only); first | assumption | omega | rfl)), (by first | rfl | ((try dsimp only); first | assumption | omega | rfl)), (by first | rfl | ((try dsimp only); first | assumption | omega | rfl)), (by first | rfl | ((try dsimp only); first | assumption | omega | rfl)), (by first | rfl | ((try dsimp only); first | assumption | omega | rfl)), (by first | rfl | ((try dsimp only); first | assumption | omega | rfl)), trivial⟩) 80 _ dX5_popInto_80
  · skip
    refine J_aload_n h (i := 0) dX5_popInto_0 rfl 0 rfl ?_
    refine J_get h inX5 rfl 0 1 (by decide) rfl rfl nf_X5_7 dX5_popInto_1 ?_
    refine J_if_le h 16 dX5_popInto_4 (by decide) (fun z => absurd z (by decide)) (fun _ => ?_)
    refine J_aload_n h (i := 0) dX5_popInto_7 rfl 0 rfl ?_
    refine J_get h inX5 rfl 0 1 (by decide) rfl rfl nf_X5_7 dX5_popInto_8 ?_
    refine J_iconst h (v := nI 1) dX5_popInto_11 (by decide) ?_
    refine N_isub h (by omega) dX5_popInto_12 ?_
    refine J_eqs (st' := [.int (nI 2)]) rfl ?_
    refine J_goto h 23 dX5_popInto_13 (by decide) ?_
    refine J_istore_n h (i := 2) (lv' := [(2, .int (nI 2)), (0, .ref s0), (1, .ref a0)]) dX5_popInto_23 rfl (by decide) rfl ?_
    refine J_aload_n h (i := 0) dX5_popInto_24 rfl 1 rfl ?_
    refine J_get h inX5 rfl 0 2 (by decide) rfl rfl nf_X5_13 dX5_popInto_25 ?_
    refine N_if_le h 44 dX5_popInto_28 (by decide) (by omega) (fun c_28 => ?_) (fun c_28 => ?_)
    · skip
      refine J_iconst h (v := nI 0) dX5_popInto_44 (by decide) ?_
      exact hR (nI 0) (3, sz, th, ow, co, ro, sl) (Or.inr (⟨rfl, (by (try dsimp only); first | assumption | omega | rfl), (by first | rfl | ((try dsimp only); first | assumption | omega | rfl)), (by first | rfl | ((try dsimp only); first | assumption | omega | rfl)), (by first | rfl | ((try dsimp only); first | assumption | omega | rfl)), (by first | rfl | ((try dsimp only); first | assumption | omega | rfl)), (by first | rfl | ((try dsimp only); first | assumption | omega | rfl)), (by first | rfl | ((try dsimp only); first | assumption | omega | rfl)), (by first | rfl | ((try dsimp only); first | assumption | omega | rfl)), trivial⟩)) 45 _ dX5_popInto_45
    · skip
      refine J_iload_n h (i := 2) dX5_popInto_31 rfl 0 rfl ?_
      refine J_if_lt h 44 dX5_popInto_32 (by decide) (fun z => absurd z (by decide)) (fun _ => ?_)
      refine J_iload_n h (i := 2) dX5_popInto_35 rfl 0 rfl ?_
      refine J_aload_n h (i := 0) dX5_popInto_36 rfl 1 rfl ?_
      refine J_get h inX5 rfl 0 0 (by decide) rfl rfl nf_X5_24 dX5_popInto_37 ?_
      refine J_alenE h 1 rfl dX5_popInto_40 ?_
      refine J_icmp_lt h 46 dX5_popInto_41 (by decide) (fun _ => ?_) (fun z => absurd z (by decide))
      refine J_aload_n h (i := 0) dX5_popInto_46 rfl 1 rfl ?_
      refine J_get h inX5 rfl 0 0 (by decide) rfl rfl nf_X5_24 dX5_popInto_47 ?_
      refine J_iload_n h (i := 2) dX5_popInto_50 rfl 0 rfl ?_
      refine N_aald h (b := (eA 2)) 1 rfl (by decide) (by omega) (by rfl) dX5_popInto_51 ?_
      refine J_astore_n h (i := 3) (lv' := [(3, .ref (eA 2)), (2, .int (nI 2)), (0, .ref s0), (1, .ref a0)]) dX5_popInto_52 rfl (by decide) rfl ?_
      refine J_aload_n h (i := 3) dX5_popInto_53 rfl 0 rfl ?_
      refine J_ifnonnull h 59 dX5_popInto_54 (by decide) ?_
      refine J_aload_n h (i := 1) dX5_popInto_59 rfl 3 rfl ?_
      refine J_aload_n h (i := 3) dX5_popInto_60 rfl 0 rfl ?_
      refine K_vv h (c_X0_copyFrom (xl X) (xD X) cI cE a0 a1 a2 th ow co ro sl (eA 2) (tA 2) (oA 2) (thS 2) (owS 2) (coS 2) (roS 2) (slS 2) ) yv_X0_copyFrom nm_X5_29 (by decide) (by decide) rfl [26, 27, 28, 8, 9, 10] rfl rfl 0 rfl rfl rfl (fun _ => rfl) rfl (Nat.le_of_ble_eq_true rfl) (Nat.le_refl _) (Nat.le_refl _) dX5_popInto_61 (fun u_61 p_61 => ?_)
      show J X 4 0 0 64 [(3, .ref (eA 2)), (2, .int (nI 2)), (0, .ref s0), (1, .ref a0)] [] [(s0, .inr (5, [.ref s1, .int (nI 3), .int (nI sz)])), (s1, .inl (cE, 8, .inr (.inr (.inr (.inr (aS eA)))))), (eA 0, .inr (0, [.ref (tA 0), .ref (oA 0), .int (coS 0), .int (roS 0), .int (slS 0)])), (tA 0, .inl (cI, 48, .inl (thS 0))), (oA 0, .inl (cI, 48, .inl (owS 0))), (eA 1, .inr (0, [.ref (tA 1), .ref (oA 1), .int (coS 1), .int (roS 1), .int (slS 1)])), (tA 1, .inl (cI, 48, .inl (thS 1))), (oA 1, .inl (cI, 48, .inl (owS 1))), ((eA 2), .inr (0, [.ref (tA 2), .ref (oA 2), .int (coS 2), .int (roS 2), .int (slS 2)])), ((tA 2), .inl (cI, 48, .inl ((thS 2)))), ((oA 2), .inl (cI, 48, .inl ((owS 2)))), (eA 3, .inr (0, [.ref (tA 3), .ref (oA 3), .int (coS 3), .int (roS 3), .int (slS 3)])), (tA 3, .inl (cI, 48, .inl (thS 3))), (oA 3, .inl (cI, 48, .inl (owS 3))), (eA 4, .inr (0, [.ref (tA 4), .ref (oA 4), .int (coS 4), .int (roS 4), .int (slS 4)])), (tA 4, .inl (cI, 48, .inl (thS 4))), (oA 4, .inl (cI, 48, .inl (owS 4))), (eA 5, .inr (0, [.ref (tA 5), .ref (oA 5), .int (coS 5), .int (roS 5), .int (slS 5)])), (tA 5, .inl (cI, 48, .inl (thS 5))), (oA 5, .inl (cI, 48, .inl (owS 5))), (eA 6, .inr (0, [.ref (tA 6), .ref (oA 6), .int (coS 6), .int (roS 6), .int (slS 6)])), (tA 6, .inl (cI, 48, .inl (thS 6))), (oA 6, .inl (cI, 48, .inl (owS 6))), (eA 7, .inr (0, [.ref (tA 7), .ref (oA 7), .int (coS 7), .int (roS 7), .int (slS 7)])), (tA 7, .inl (cI, 48, .inl (thS 7))), (oA 7, .inl (cI, 48, .inl (owS 7))), (a0, .inr (0, [.ref a1, .ref a2, .int (coS 2), .int (roS 2), .int (slS 2)])), (a1, .inl (cI, 48, .inl ((thS 2)))), (a2, .inl (cI, 48, .inl ((owS 2))))]
      refine J_aload_n h (i := 0) dX5_popInto_64 rfl 2 rfl ?_
      refine J_iload_n h (i := 2) dX5_popInto_65 rfl 1 rfl ?_
      refine J_put h (ws' := [(s0, .inr (5, [.ref s1, .int (nI 2), .int (nI sz)])), (s1, .inl (cE, 8, .inr (.inr (.inr (.inr (aS eA)))))), (eA 0, .inr (0, [.ref (tA 0), .ref (oA 0), .int (coS 0), .int (roS 0), .int (slS 0)])), (tA 0, .inl (cI, 48, .inl (thS 0))), (oA 0, .inl (cI, 48, .inl (owS 0))), (eA 1, .inr (0, [.ref (tA 1), .ref (oA 1), .int (coS 1), .int (roS 1), .int (slS 1)])), (tA 1, .inl (cI, 48, .inl (thS 1))), (oA 1, .inl (cI, 48, .inl (owS 1))), ((eA 2), .inr (0, [.ref (tA 2), .ref (oA 2), .int (coS 2), .int (roS 2), .int (slS 2)])), ((tA 2), .inl (cI, 48, .inl ((thS 2)))), ((oA 2), .inl (cI, 48, .inl ((owS 2)))), (eA 3, .inr (0, [.ref (tA 3), .ref (oA 3), .int (coS 3), .int (roS 3), .int (slS 3)])), (tA 3, .inl (cI, 48, .inl (thS 3))), (oA 3, .inl (cI, 48, .inl (owS 3))), (eA 4, .inr (0, [.ref (tA 4), .ref (oA 4), .int (coS 4), .int (roS 4), .int (slS 4)])), (tA 4, .inl (cI, 48, .inl (thS 4))), (oA 4, .inl (cI, 48, .inl (owS 4))), (eA 5, .inr (0, [.ref (tA 5), .ref (oA 5), .int (coS 5), .int (roS 5), .int (slS 5)])), (tA 5, .inl (cI, 48, .inl (thS 5))), (oA 5, .inl (cI, 48, .inl (owS 5))), (eA 6, .inr (0, [.ref (tA 6), .ref (oA 6), .int (coS 6), .int (roS 6), .int (slS 6)])), (tA 6, .inl (cI, 48, .inl (thS 6))), (oA 6, .inl (cI, 48, .inl (owS 6))), (eA 7, .inr (0, [.ref (tA 7), .ref (oA 7), .int (coS 7), .int (roS 7), .int (slS 7)])), (tA 7, .inl (cI, 48, .inl (thS 7))), (oA 7, .inl (cI, 48, .inl (owS 7))), (a0, .inr (0, [.ref a1, .ref a2, .int (coS 2), .int (roS 2), .int (slS 2)])), (a1, .inl (cI, 48, .inl ((thS 2)))), (a2, .inl (cI, 48, .inl ((owS 2))))]) inX5 tyX5 tyX5_ok nmX5 rfl 0 1 (by decide) rfl nf_X5_7 rfl rfl rfl rfl (Nat.le_of_ble_eq_true rfl) dX5_popInto_66 rfl ?_
      refine J_aload_n h (i := 0) dX5_popInto_69 rfl 2 rfl ?_
      refine J_dup h dX5_popInto_70 rfl ?_
      refine J_get h inX5 rfl 0 2 (by decide) rfl rfl nf_X5_13 dX5_popInto_71 ?_
      refine J_iconst h (v := nI 1) dX5_popInto_74 (by decide) ?_
      refine N_isub h (by omega) dX5_popInto_75 ?_
      refine J_put h (ws' := [(s0, .inr (5, [.ref s1, .int (nI 2), .int (nI (sz - 1))])), (s1, .inl (cE, 8, .inr (.inr (.inr (.inr (aS eA)))))), (eA 0, .inr (0, [.ref (tA 0), .ref (oA 0), .int (coS 0), .int (roS 0), .int (slS 0)])), (tA 0, .inl (cI, 48, .inl (thS 0))), (oA 0, .inl (cI, 48, .inl (owS 0))), (eA 1, .inr (0, [.ref (tA 1), .ref (oA 1), .int (coS 1), .int (roS 1), .int (slS 1)])), (tA 1, .inl (cI, 48, .inl (thS 1))), (oA 1, .inl (cI, 48, .inl (owS 1))), ((eA 2), .inr (0, [.ref (tA 2), .ref (oA 2), .int (coS 2), .int (roS 2), .int (slS 2)])), ((tA 2), .inl (cI, 48, .inl ((thS 2)))), ((oA 2), .inl (cI, 48, .inl ((owS 2)))), (eA 3, .inr (0, [.ref (tA 3), .ref (oA 3), .int (coS 3), .int (roS 3), .int (slS 3)])), (tA 3, .inl (cI, 48, .inl (thS 3))), (oA 3, .inl (cI, 48, .inl (owS 3))), (eA 4, .inr (0, [.ref (tA 4), .ref (oA 4), .int (coS 4), .int (roS 4), .int (slS 4)])), (tA 4, .inl (cI, 48, .inl (thS 4))), (oA 4, .inl (cI, 48, .inl (owS 4))), (eA 5, .inr (0, [.ref (tA 5), .ref (oA 5), .int (coS 5), .int (roS 5), .int (slS 5)])), (tA 5, .inl (cI, 48, .inl (thS 5))), (oA 5, .inl (cI, 48, .inl (owS 5))), (eA 6, .inr (0, [.ref (tA 6), .ref (oA 6), .int (coS 6), .int (roS 6), .int (slS 6)])), (tA 6, .inl (cI, 48, .inl (thS 6))), (oA 6, .inl (cI, 48, .inl (owS 6))), (eA 7, .inr (0, [.ref (tA 7), .ref (oA 7), .int (coS 7), .int (roS 7), .int (slS 7)])), (tA 7, .inl (cI, 48, .inl (thS 7))), (oA 7, .inl (cI, 48, .inl (owS 7))), (a0, .inr (0, [.ref a1, .ref a2, .int (coS 2), .int (roS 2), .int (slS 2)])), (a1, .inl (cI, 48, .inl ((thS 2)))), (a2, .inl (cI, 48, .inl ((owS 2))))]) inX5 tyX5 tyX5_ok nmX5 rfl 0 2 (by decide) rfl nf_X5_13 rfl rfl rfl rfl (Nat.le_of_ble_eq_true rfl) dX5_popInto_76 rfl ?_
      refine J_iconst h (v := nI 1) dX5_popInto_79 (by decide) ?_
      exact hR (nI 1) (2, sz - 1, thS 2, owS 2, coS 2, roS 2, slS 2) (Or.inl ⟨rfl, (by (try dsimp only); first | assumption | omega | rfl), (by first | rfl | ((try dsimp only); first | assumption | omega | rfl)), (by first | rfl | ((try dsimp only); first | assumption | omega | rfl)), (by first | rfl | ((try dsimp only); first | assumption | omega | rfl)), (by first | rfl | ((try dsimp only); first | assumption | omega | rfl)), (by first | rfl | ((try dsimp only); first | assumption | omega | rfl)), (by first | rfl | ((try dsimp only); first | assumption | omega | rfl)), (by first | rfl | ((try dsimp only); first | assumption | omega | rfl)), trivial⟩) 80 _ dX5_popInto_80
  · skip
    refine J_aload_n h (i := 0) dX5_popInto_0 rfl 0 rfl ?_
    refine J_get h inX5 rfl 0 1 (by decide) rfl rfl nf_X5_7 dX5_popInto_1 ?_
    refine J_if_le h 16 dX5_popInto_4 (by decide) (fun z => absurd z (by decide)) (fun _ => ?_)
    refine J_aload_n h (i := 0) dX5_popInto_7 rfl 0 rfl ?_
    refine J_get h inX5 rfl 0 1 (by decide) rfl rfl nf_X5_7 dX5_popInto_8 ?_
    refine J_iconst h (v := nI 1) dX5_popInto_11 (by decide) ?_
    refine N_isub h (by omega) dX5_popInto_12 ?_
    refine J_eqs (st' := [.int (nI 3)]) rfl ?_
    refine J_goto h 23 dX5_popInto_13 (by decide) ?_
    refine J_istore_n h (i := 2) (lv' := [(2, .int (nI 3)), (0, .ref s0), (1, .ref a0)]) dX5_popInto_23 rfl (by decide) rfl ?_
    refine J_aload_n h (i := 0) dX5_popInto_24 rfl 1 rfl ?_
    refine J_get h inX5 rfl 0 2 (by decide) rfl rfl nf_X5_13 dX5_popInto_25 ?_
    refine N_if_le h 44 dX5_popInto_28 (by decide) (by omega) (fun c_28 => ?_) (fun c_28 => ?_)
    · skip
      refine J_iconst h (v := nI 0) dX5_popInto_44 (by decide) ?_
      exact hR (nI 0) (4, sz, th, ow, co, ro, sl) (Or.inr (⟨rfl, (by (try dsimp only); first | assumption | omega | rfl), (by first | rfl | ((try dsimp only); first | assumption | omega | rfl)), (by first | rfl | ((try dsimp only); first | assumption | omega | rfl)), (by first | rfl | ((try dsimp only); first | assumption | omega | rfl)), (by first | rfl | ((try dsimp only); first | assumption | omega | rfl)), (by first | rfl | ((try dsimp only); first | assumption | omega | rfl)), (by first | rfl | ((try dsimp only); first | assumption | omega | rfl)), (by first | rfl | ((try dsimp only); first | assumption | omega | rfl)), trivial⟩)) 45 _ dX5_popInto_45
    · skip
      refine J_iload_n h (i := 2) dX5_popInto_31 rfl 0 rfl ?_
      refine J_if_lt h 44 dX5_popInto_32 (by decide) (fun z => absurd z (by decide)) (fun _ => ?_)
      refine J_iload_n h (i := 2) dX5_popInto_35 rfl 0 rfl ?_
      refine J_aload_n h (i := 0) dX5_popInto_36 rfl 1 rfl ?_
      refine J_get h inX5 rfl 0 0 (by decide) rfl rfl nf_X5_24 dX5_popInto_37 ?_
      refine J_alenE h 1 rfl dX5_popInto_40 ?_
      refine J_icmp_lt h 46 dX5_popInto_41 (by decide) (fun _ => ?_) (fun z => absurd z (by decide))
      refine J_aload_n h (i := 0) dX5_popInto_46 rfl 1 rfl ?_
      refine J_get h inX5 rfl 0 0 (by decide) rfl rfl nf_X5_24 dX5_popInto_47 ?_
      refine J_iload_n h (i := 2) dX5_popInto_50 rfl 0 rfl ?_
      refine N_aald h (b := (eA 3)) 1 rfl (by decide) (by omega) (by rfl) dX5_popInto_51 ?_
      refine J_astore_n h (i := 3) (lv' := [(3, .ref (eA 3)), (2, .int (nI 3)), (0, .ref s0), (1, .ref a0)]) dX5_popInto_52 rfl (by decide) rfl ?_
      refine J_aload_n h (i := 3) dX5_popInto_53 rfl 0 rfl ?_
      refine J_ifnonnull h 59 dX5_popInto_54 (by decide) ?_
      refine J_aload_n h (i := 1) dX5_popInto_59 rfl 3 rfl ?_
      refine J_aload_n h (i := 3) dX5_popInto_60 rfl 0 rfl ?_
      refine K_vv h (c_X0_copyFrom (xl X) (xD X) cI cE a0 a1 a2 th ow co ro sl (eA 3) (tA 3) (oA 3) (thS 3) (owS 3) (coS 3) (roS 3) (slS 3) ) yv_X0_copyFrom nm_X5_29 (by decide) (by decide) rfl [26, 27, 28, 11, 12, 13] rfl rfl 0 rfl rfl rfl (fun _ => rfl) rfl (Nat.le_of_ble_eq_true rfl) (Nat.le_refl _) (Nat.le_refl _) dX5_popInto_61 (fun u_61 p_61 => ?_)
      show J X 4 0 0 64 [(3, .ref (eA 3)), (2, .int (nI 3)), (0, .ref s0), (1, .ref a0)] [] [(s0, .inr (5, [.ref s1, .int (nI 4), .int (nI sz)])), (s1, .inl (cE, 8, .inr (.inr (.inr (.inr (aS eA)))))), (eA 0, .inr (0, [.ref (tA 0), .ref (oA 0), .int (coS 0), .int (roS 0), .int (slS 0)])), (tA 0, .inl (cI, 48, .inl (thS 0))), (oA 0, .inl (cI, 48, .inl (owS 0))), (eA 1, .inr (0, [.ref (tA 1), .ref (oA 1), .int (coS 1), .int (roS 1), .int (slS 1)])), (tA 1, .inl (cI, 48, .inl (thS 1))), (oA 1, .inl (cI, 48, .inl (owS 1))), (eA 2, .inr (0, [.ref (tA 2), .ref (oA 2), .int (coS 2), .int (roS 2), .int (slS 2)])), (tA 2, .inl (cI, 48, .inl (thS 2))), (oA 2, .inl (cI, 48, .inl (owS 2))), ((eA 3), .inr (0, [.ref (tA 3), .ref (oA 3), .int (coS 3), .int (roS 3), .int (slS 3)])), ((tA 3), .inl (cI, 48, .inl ((thS 3)))), ((oA 3), .inl (cI, 48, .inl ((owS 3)))), (eA 4, .inr (0, [.ref (tA 4), .ref (oA 4), .int (coS 4), .int (roS 4), .int (slS 4)])), (tA 4, .inl (cI, 48, .inl (thS 4))), (oA 4, .inl (cI, 48, .inl (owS 4))), (eA 5, .inr (0, [.ref (tA 5), .ref (oA 5), .int (coS 5), .int (roS 5), .int (slS 5)])), (tA 5, .inl (cI, 48, .inl (thS 5))), (oA 5, .inl (cI, 48, .inl (owS 5))), (eA 6, .inr (0, [.ref (tA 6), .ref (oA 6), .int (coS 6), .int (roS 6), .int (slS 6)])), (tA 6, .inl (cI, 48, .inl (thS 6))), (oA 6, .inl (cI, 48, .inl (owS 6))), (eA 7, .inr (0, [.ref (tA 7), .ref (oA 7), .int (coS 7), .int (roS 7), .int (slS 7)])), (tA 7, .inl (cI, 48, .inl (thS 7))), (oA 7, .inl (cI, 48, .inl (owS 7))), (a0, .inr (0, [.ref a1, .ref a2, .int (coS 3), .int (roS 3), .int (slS 3)])), (a1, .inl (cI, 48, .inl ((thS 3)))), (a2, .inl (cI, 48, .inl ((owS 3))))]
      refine J_aload_n h (i := 0) dX5_popInto_64 rfl 2 rfl ?_
      refine J_iload_n h (i := 2) dX5_popInto_65 rfl 1 rfl ?_
      refine J_put h (ws' := [(s0, .inr (5, [.ref s1, .int (nI 3), .int (nI sz)])), (s1, .inl (cE, 8, .inr (.inr (.inr (.inr (aS eA)))))), (eA 0, .inr (0, [.ref (tA 0), .ref (oA 0), .int (coS 0), .int (roS 0), .int (slS 0)])), (tA 0, .inl (cI, 48, .inl (thS 0))), (oA 0, .inl (cI, 48, .inl (owS 0))), (eA 1, .inr (0, [.ref (tA 1), .ref (oA 1), .int (coS 1), .int (roS 1), .int (slS 1)])), (tA 1, .inl (cI, 48, .inl (thS 1))), (oA 1, .inl (cI, 48, .inl (owS 1))), (eA 2, .inr (0, [.ref (tA 2), .ref (oA 2), .int (coS 2), .int (roS 2), .int (slS 2)])), (tA 2, .inl (cI, 48, .inl (thS 2))), (oA 2, .inl (cI, 48, .inl (owS 2))), ((eA 3), .inr (0, [.ref (tA 3), .ref (oA 3), .int (coS 3), .int (roS 3), .int (slS 3)])), ((tA 3), .inl (cI, 48, .inl ((thS 3)))), ((oA 3), .inl (cI, 48, .inl ((owS 3)))), (eA 4, .inr (0, [.ref (tA 4), .ref (oA 4), .int (coS 4), .int (roS 4), .int (slS 4)])), (tA 4, .inl (cI, 48, .inl (thS 4))), (oA 4, .inl (cI, 48, .inl (owS 4))), (eA 5, .inr (0, [.ref (tA 5), .ref (oA 5), .int (coS 5), .int (roS 5), .int (slS 5)])), (tA 5, .inl (cI, 48, .inl (thS 5))), (oA 5, .inl (cI, 48, .inl (owS 5))), (eA 6, .inr (0, [.ref (tA 6), .ref (oA 6), .int (coS 6), .int (roS 6), .int (slS 6)])), (tA 6, .inl (cI, 48, .inl (thS 6))), (oA 6, .inl (cI, 48, .inl (owS 6))), (eA 7, .inr (0, [.ref (tA 7), .ref (oA 7), .int (coS 7), .int (roS 7), .int (slS 7)])), (tA 7, .inl (cI, 48, .inl (thS 7))), (oA 7, .inl (cI, 48, .inl (owS 7))), (a0, .inr (0, [.ref a1, .ref a2, .int (coS 3), .int (roS 3), .int (slS 3)])), (a1, .inl (cI, 48, .inl ((thS 3)))), (a2, .inl (cI, 48, .inl ((owS 3))))]) inX5 tyX5 tyX5_ok nmX5 rfl 0 1 (by decide) rfl nf_X5_7 rfl rfl rfl rfl (Nat.le_of_ble_eq_true rfl) dX5_popInto_66 rfl ?_
      refine J_aload_n h (i := 0) dX5_popInto_69 rfl 2 rfl ?_
      refine J_dup h dX5_popInto_70 rfl ?_
      refine J_get h inX5 rfl 0 2 (by decide) rfl rfl nf_X5_13 dX5_popInto_71 ?_
      refine J_iconst h (v := nI 1) dX5_popInto_74 (by decide) ?_
      refine N_isub h (by omega) dX5_popInto_75 ?_
      refine J_put h (ws' := [(s0, .inr (5, [.ref s1, .int (nI 3), .int (nI (sz - 1))])), (s1, .inl (cE, 8, .inr (.inr (.inr (.inr (aS eA)))))), (eA 0, .inr (0, [.ref (tA 0), .ref (oA 0), .int (coS 0), .int (roS 0), .int (slS 0)])), (tA 0, .inl (cI, 48, .inl (thS 0))), (oA 0, .inl (cI, 48, .inl (owS 0))), (eA 1, .inr (0, [.ref (tA 1), .ref (oA 1), .int (coS 1), .int (roS 1), .int (slS 1)])), (tA 1, .inl (cI, 48, .inl (thS 1))), (oA 1, .inl (cI, 48, .inl (owS 1))), (eA 2, .inr (0, [.ref (tA 2), .ref (oA 2), .int (coS 2), .int (roS 2), .int (slS 2)])), (tA 2, .inl (cI, 48, .inl (thS 2))), (oA 2, .inl (cI, 48, .inl (owS 2))), ((eA 3), .inr (0, [.ref (tA 3), .ref (oA 3), .int (coS 3), .int (roS 3), .int (slS 3)])), ((tA 3), .inl (cI, 48, .inl ((thS 3)))), ((oA 3), .inl (cI, 48, .inl ((owS 3)))), (eA 4, .inr (0, [.ref (tA 4), .ref (oA 4), .int (coS 4), .int (roS 4), .int (slS 4)])), (tA 4, .inl (cI, 48, .inl (thS 4))), (oA 4, .inl (cI, 48, .inl (owS 4))), (eA 5, .inr (0, [.ref (tA 5), .ref (oA 5), .int (coS 5), .int (roS 5), .int (slS 5)])), (tA 5, .inl (cI, 48, .inl (thS 5))), (oA 5, .inl (cI, 48, .inl (owS 5))), (eA 6, .inr (0, [.ref (tA 6), .ref (oA 6), .int (coS 6), .int (roS 6), .int (slS 6)])), (tA 6, .inl (cI, 48, .inl (thS 6))), (oA 6, .inl (cI, 48, .inl (owS 6))), (eA 7, .inr (0, [.ref (tA 7), .ref (oA 7), .int (coS 7), .int (roS 7), .int (slS 7)])), (tA 7, .inl (cI, 48, .inl (thS 7))), (oA 7, .inl (cI, 48, .inl (owS 7))), (a0, .inr (0, [.ref a1, .ref a2, .int (coS 3), .int (roS 3), .int (slS 3)])), (a1, .inl (cI, 48, .inl ((thS 3)))), (a2, .inl (cI, 48, .inl ((owS 3))))]) inX5 tyX5 tyX5_ok nmX5 rfl 0 2 (by decide) rfl nf_X5_13 rfl rfl rfl rfl (Nat.le_of_ble_eq_true rfl) dX5_popInto_76 rfl ?_
      refine J_iconst h (v := nI 1) dX5_popInto_79 (by decide) ?_
      exact hR (nI 1) (3, sz - 1, thS 3, owS 3, coS 3, roS 3, slS 3) (Or.inl ⟨rfl, (by (try dsimp only); first | assumption | omega | rfl), (by first | rfl | ((try dsimp only); first | assumption | omega | rfl)), (by first | rfl | ((try dsimp only); first | assumption | omega | rfl)), (by first | rfl | ((try dsimp only); first | assumption | omega | rfl)), (by first | rfl | ((try dsimp only); first | assumption | omega | rfl)), (by first | rfl | ((try dsimp only); first | assumption | omega | rfl)), (by first | rfl | ((try dsimp only); first | assumption | omega | rfl)), (by first | rfl | ((try dsimp only); first | assumption | omega | rfl)), trivial⟩) 80 _ dX5_popInto_80
  · skip
    refine J_aload_n h (i := 0) dX5_popInto_0 rfl 0 rfl ?_
    refine J_get h inX5 rfl 0 1 (by decide) rfl rfl nf_X5_7 dX5_popInto_1 ?_
    refine J_if_le h 16 dX5_popInto_4 (by decide) (fun z => absurd z (by decide)) (fun _ => ?_)
    refine J_aload_n h (i := 0) dX5_popInto_7 rfl 0 rfl ?_
    refine J_get h inX5 rfl 0 1 (by decide) rfl rfl nf_X5_7 dX5_popInto_8 ?_
    refine J_iconst h (v := nI 1) dX5_popInto_11 (by decide) ?_
    refine N_isub h (by omega) dX5_popInto_12 ?_
    refine J_eqs (st' := [.int (nI 4)]) rfl ?_
    refine J_goto h 23 dX5_popInto_13 (by decide) ?_
    refine J_istore_n h (i := 2) (lv' := [(2, .int (nI 4)), (0, .ref s0), (1, .ref a0)]) dX5_popInto_23 rfl (by decide) rfl ?_
    refine J_aload_n h (i := 0) dX5_popInto_24 rfl 1 rfl ?_
    refine J_get h inX5 rfl 0 2 (by decide) rfl rfl nf_X5_13 dX5_popInto_25 ?_
    refine N_if_le h 44 dX5_popInto_28 (by decide) (by omega) (fun c_28 => ?_) (fun c_28 => ?_)
    · skip
      refine J_iconst h (v := nI 0) dX5_popInto_44 (by decide) ?_
      exact hR (nI 0) (5, sz, th, ow, co, ro, sl) (Or.inr (⟨rfl, (by (try dsimp only); first | assumption | omega | rfl), (by first | rfl | ((try dsimp only); first | assumption | omega | rfl)), (by first | rfl | ((try dsimp only); first | assumption | omega | rfl)), (by first | rfl | ((try dsimp only); first | assumption | omega | rfl)), (by first | rfl | ((try dsimp only); first | assumption | omega | rfl)), (by first | rfl | ((try dsimp only); first | assumption | omega | rfl)), (by first | rfl | ((try dsimp only); first | assumption | omega | rfl)), (by first | rfl | ((try dsimp only); first | assumption | omega | rfl)), trivial⟩)) 45 _ dX5_popInto_45
    · skip
      refine J_iload_n h (i := 2) dX5_popInto_31 rfl 0 rfl ?_
      refine J_if_lt h 44 dX5_popInto_32 (by decide) (fun z => absurd z (by decide)) (fun _ => ?_)
      refine J_iload_n h (i := 2) dX5_popInto_35 rfl 0 rfl ?_
      refine J_aload_n h (i := 0) dX5_popInto_36 rfl 1 rfl ?_
      refine J_get h inX5 rfl 0 0 (by decide) rfl rfl nf_X5_24 dX5_popInto_37 ?_
      refine J_alenE h 1 rfl dX5_popInto_40 ?_
      refine J_icmp_lt h 46 dX5_popInto_41 (by decide) (fun _ => ?_) (fun z => absurd z (by decide))
      refine J_aload_n h (i := 0) dX5_popInto_46 rfl 1 rfl ?_
      refine J_get h inX5 rfl 0 0 (by decide) rfl rfl nf_X5_24 dX5_popInto_47 ?_
      refine J_iload_n h (i := 2) dX5_popInto_50 rfl 0 rfl ?_
      refine N_aald h (b := (eA 4)) 1 rfl (by decide) (by omega) (by rfl) dX5_popInto_51 ?_
      refine J_astore_n h (i := 3) (lv' := [(3, .ref (eA 4)), (2, .int (nI 4)), (0, .ref s0), (1, .ref a0)]) dX5_popInto_52 rfl (by decide) rfl ?_
      refine J_aload_n h (i := 3) dX5_popInto_53 rfl 0 rfl ?_
      refine J_ifnonnull h 59 dX5_popInto_54 (by decide) ?_
      refine J_aload_n h (i := 1) dX5_popInto_59 rfl 3 rfl ?_
      refine J_aload_n h (i := 3) dX5_popInto_60 rfl 0 rfl ?_
      refine K_vv h (c_X0_copyFrom (xl X) (xD X) cI cE a0 a1 a2 th ow co ro sl (eA 4) (tA 4) (oA 4) (thS 4) (owS 4) (coS 4) (roS 4) (slS 4) ) yv_X0_copyFrom nm_X5_29 (by decide) (by decide) rfl [26, 27, 28, 14, 15, 16] rfl rfl 0 rfl rfl rfl (fun _ => rfl) rfl (Nat.le_of_ble_eq_true rfl) (Nat.le_refl _) (Nat.le_refl _) dX5_popInto_61 (fun u_61 p_61 => ?_)
      show J X 4 0 0 64 [(3, .ref (eA 4)), (2, .int (nI 4)), (0, .ref s0), (1, .ref a0)] [] [(s0, .inr (5, [.ref s1, .int (nI 5), .int (nI sz)])), (s1, .inl (cE, 8, .inr (.inr (.inr (.inr (aS eA)))))), (eA 0, .inr (0, [.ref (tA 0), .ref (oA 0), .int (coS 0), .int (roS 0), .int (slS 0)])), (tA 0, .inl (cI, 48, .inl (thS 0))), (oA 0, .inl (cI, 48, .inl (owS 0))), (eA 1, .inr (0, [.ref (tA 1), .ref (oA 1), .int (coS 1), .int (roS 1), .int (slS 1)])), (tA 1, .inl (cI, 48, .inl (thS 1))), (oA 1, .inl (cI, 48, .inl (owS 1))), (eA 2, .inr (0, [.ref (tA 2), .ref (oA 2), .int (coS 2), .int (roS 2), .int (slS 2)])), (tA 2, .inl (cI, 48, .inl (thS 2))), (oA 2, .inl (cI, 48, .inl (owS 2))), (eA 3, .inr (0, [.ref (tA 3), .ref (oA 3), .int (coS 3), .int (roS 3), .int (slS 3)])), (tA 3, .inl (cI, 48, .inl (thS 3))), (oA 3, .inl (cI, 48, .inl (owS 3))), ((eA 4), .inr (0, [.ref (tA 4), .ref (oA 4), .int (coS 4), .int (roS 4), .int (slS 4)])), ((tA 4), .inl (cI, 48, .inl ((thS 4)))), ((oA 4), .inl (cI, 48, .inl ((owS 4)))), (eA 5, .inr (0, [.ref (tA 5), .ref (oA 5), .int (coS 5), .int (roS 5), .int (slS 5)])), (tA 5, .inl (cI, 48, .inl (thS 5))), (oA 5, .inl (cI, 48, .inl (owS 5))), (eA 6, .inr (0, [.ref (tA 6), .ref (oA 6), .int (coS 6), .int (roS 6), .int (slS 6)])), (tA 6, .inl (cI, 48, .inl (thS 6))), (oA 6, .inl (cI, 48, .inl (owS 6))), (eA 7, .inr (0, [.ref (tA 7), .ref (oA 7), .int (coS 7), .int (roS 7), .int (slS 7)])), (tA 7, .inl (cI, 48, .inl (thS 7))), (oA 7, .inl (cI, 48, .inl (owS 7))), (a0, .inr (0, [.ref a1, .ref a2, .int (coS 4), .int (roS 4), .int (slS 4)])), (a1, .inl (cI, 48, .inl ((thS 4)))), (a2, .inl (cI, 48, .inl ((owS 4))))]
      refine J_aload_n h (i := 0) dX5_popInto_64 rfl 2 rfl ?_
      refine J_iload_n h (i := 2) dX5_popInto_65 rfl 1 rfl ?_
      refine J_put h (ws' := [(s0, .inr (5, [.ref s1, .int (nI 4), .int (nI sz)])), (s1, .inl (cE, 8, .inr (.inr (.inr (.inr (aS eA)))))), (eA 0, .inr (0, [.ref (tA 0), .ref (oA 0), .int (coS 0), .int (roS 0), .int (slS 0)])), (tA 0, .inl (cI, 48, .inl (thS 0))), (oA 0, .inl (cI, 48, .inl (owS 0))), (eA 1, .inr (0, [.ref (tA 1), .ref (oA 1), .int (coS 1), .int (roS 1), .int (slS 1)])), (tA 1, .inl (cI, 48, .inl (thS 1))), (oA 1, .inl (cI, 48, .inl (owS 1))), (eA 2, .inr (0, [.ref (tA 2), .ref (oA 2), .int (coS 2), .int (roS 2), .int (slS 2)])), (tA 2, .inl (cI, 48, .inl (thS 2))), (oA 2, .inl (cI, 48, .inl (owS 2))), (eA 3, .inr (0, [.ref (tA 3), .ref (oA 3), .int (coS 3), .int (roS 3), .int (slS 3)])), (tA 3, .inl (cI, 48, .inl (thS 3))), (oA 3, .inl (cI, 48, .inl (owS 3))), ((eA 4), .inr (0, [.ref (tA 4), .ref (oA 4), .int (coS 4), .int (roS 4), .int (slS 4)])), ((tA 4), .inl (cI, 48, .inl ((thS 4)))), ((oA 4), .inl (cI, 48, .inl ((owS 4)))), (eA 5, .inr (0, [.ref (tA 5), .ref (oA 5), .int (coS 5), .int (roS 5), .int (slS 5)])), (tA 5, .inl (cI, 48, .inl (thS 5))), (oA 5, .inl (cI, 48, .inl (owS 5))), (eA 6, .inr (0, [.ref (tA 6), .ref (oA 6), .int (coS 6), .int (roS 6), .int (slS 6)])), (tA 6, .inl (cI, 48, .inl (thS 6))), (oA 6, .inl (cI, 48, .inl (owS 6))), (eA 7, .inr (0, [.ref (tA 7), .ref (oA 7), .int (coS 7), .int (roS 7), .int (slS 7)])), (tA 7, .inl (cI, 48, .inl (thS 7))), (oA 7, .inl (cI, 48, .inl (owS 7))), (a0, .inr (0, [.ref a1, .ref a2, .int (coS 4), .int (roS 4), .int (slS 4)])), (a1, .inl (cI, 48, .inl ((thS 4)))), (a2, .inl (cI, 48, .inl ((owS 4))))]) inX5 tyX5 tyX5_ok nmX5 rfl 0 1 (by decide) rfl nf_X5_7 rfl rfl rfl rfl (Nat.le_of_ble_eq_true rfl) dX5_popInto_66 rfl ?_
      refine J_aload_n h (i := 0) dX5_popInto_69 rfl 2 rfl ?_
      refine J_dup h dX5_popInto_70 rfl ?_
      refine J_get h inX5 rfl 0 2 (by decide) rfl rfl nf_X5_13 dX5_popInto_71 ?_
      refine J_iconst h (v := nI 1) dX5_popInto_74 (by decide) ?_
      refine N_isub h (by omega) dX5_popInto_75 ?_
      refine J_put h (ws' := [(s0, .inr (5, [.ref s1, .int (nI 4), .int (nI (sz - 1))])), (s1, .inl (cE, 8, .inr (.inr (.inr (.inr (aS eA)))))), (eA 0, .inr (0, [.ref (tA 0), .ref (oA 0), .int (coS 0), .int (roS 0), .int (slS 0)])), (tA 0, .inl (cI, 48, .inl (thS 0))), (oA 0, .inl (cI, 48, .inl (owS 0))), (eA 1, .inr (0, [.ref (tA 1), .ref (oA 1), .int (coS 1), .int (roS 1), .int (slS 1)])), (tA 1, .inl (cI, 48, .inl (thS 1))), (oA 1, .inl (cI, 48, .inl (owS 1))), (eA 2, .inr (0, [.ref (tA 2), .ref (oA 2), .int (coS 2), .int (roS 2), .int (slS 2)])), (tA 2, .inl (cI, 48, .inl (thS 2))), (oA 2, .inl (cI, 48, .inl (owS 2))), (eA 3, .inr (0, [.ref (tA 3), .ref (oA 3), .int (coS 3), .int (roS 3), .int (slS 3)])), (tA 3, .inl (cI, 48, .inl (thS 3))), (oA 3, .inl (cI, 48, .inl (owS 3))), ((eA 4), .inr (0, [.ref (tA 4), .ref (oA 4), .int (coS 4), .int (roS 4), .int (slS 4)])), ((tA 4), .inl (cI, 48, .inl ((thS 4)))), ((oA 4), .inl (cI, 48, .inl ((owS 4)))), (eA 5, .inr (0, [.ref (tA 5), .ref (oA 5), .int (coS 5), .int (roS 5), .int (slS 5)])), (tA 5, .inl (cI, 48, .inl (thS 5))), (oA 5, .inl (cI, 48, .inl (owS 5))), (eA 6, .inr (0, [.ref (tA 6), .ref (oA 6), .int (coS 6), .int (roS 6), .int (slS 6)])), (tA 6, .inl (cI, 48, .inl (thS 6))), (oA 6, .inl (cI, 48, .inl (owS 6))), (eA 7, .inr (0, [.ref (tA 7), .ref (oA 7), .int (coS 7), .int (roS 7), .int (slS 7)])), (tA 7, .inl (cI, 48, .inl (thS 7))), (oA 7, .inl (cI, 48, .inl (owS 7))), (a0, .inr (0, [.ref a1, .ref a2, .int (coS 4), .int (roS 4), .int (slS 4)])), (a1, .inl (cI, 48, .inl ((thS 4)))), (a2, .inl (cI, 48, .inl ((owS 4))))]) inX5 tyX5 tyX5_ok nmX5 rfl 0 2 (by decide) rfl nf_X5_13 rfl rfl rfl rfl (Nat.le_of_ble_eq_true rfl) dX5_popInto_76 rfl ?_
      refine J_iconst h (v := nI 1) dX5_popInto_79 (by decide) ?_
      exact hR (nI 1) (4, sz - 1, thS 4, owS 4, coS 4, roS 4, slS 4) (Or.inl ⟨rfl, (by (try dsimp only); first | assumption | omega | rfl), (by first | rfl | ((try dsimp only); first | assumption | omega | rfl)), (by first | rfl | ((try dsimp only); first | assumption | omega | rfl)), (by first | rfl | ((try dsimp only); first | assumption | omega | rfl)), (by first | rfl | ((try dsimp only); first | assumption | omega | rfl)), (by first | rfl | ((try dsimp only); first | assumption | omega | rfl)), (by first | rfl | ((try dsimp only); first | assumption | omega | rfl)), (by first | rfl | ((try dsimp only); first | assumption | omega | rfl)), trivial⟩) 80 _ dX5_popInto_80
  · skip
    refine J_aload_n h (i := 0) dX5_popInto_0 rfl 0 rfl ?_
    refine J_get h inX5 rfl 0 1 (by decide) rfl rfl nf_X5_7 dX5_popInto_1 ?_
    refine J_if_le h 16 dX5_popInto_4 (by decide) (fun z => absurd z (by decide)) (fun _ => ?_)
    refine J_aload_n h (i := 0) dX5_popInto_7 rfl 0 rfl ?_
    refine J_get h inX5 rfl 0 1 (by decide) rfl rfl nf_X5_7 dX5_popInto_8 ?_
    refine J_iconst h (v := nI 1) dX5_popInto_11 (by decide) ?_
    refine N_isub h (by omega) dX5_popInto_12 ?_
    refine J_eqs (st' := [.int (nI 5)]) rfl ?_
    refine J_goto h 23 dX5_popInto_13 (by decide) ?_
    refine J_istore_n h (i := 2) (lv' := [(2, .int (nI 5)), (0, .ref s0), (1, .ref a0)]) dX5_popInto_23 rfl (by decide) rfl ?_
    refine J_aload_n h (i := 0) dX5_popInto_24 rfl 1 rfl ?_
    refine J_get h inX5 rfl 0 2 (by decide) rfl rfl nf_X5_13 dX5_popInto_25 ?_
    refine N_if_le h 44 dX5_popInto_28 (by decide) (by omega) (fun c_28 => ?_) (fun c_28 => ?_)
    · skip
      refine J_iconst h (v := nI 0) dX5_popInto_44 (by decide) ?_
      exact hR (nI 0) (6, sz, th, ow, co, ro, sl) (Or.inr (⟨rfl, (by (try dsimp only); first | assumption | omega | rfl), (by first | rfl | ((try dsimp only); first | assumption | omega | rfl)), (by first | rfl | ((try dsimp only); first | assumption | omega | rfl)), (by first | rfl | ((try dsimp only); first | assumption | omega | rfl)), (by first | rfl | ((try dsimp only); first | assumption | omega | rfl)), (by first | rfl | ((try dsimp only); first | assumption | omega | rfl)), (by first | rfl | ((try dsimp only); first | assumption | omega | rfl)), (by first | rfl | ((try dsimp only); first | assumption | omega | rfl)), trivial⟩)) 45 _ dX5_popInto_45
    · skip
      refine J_iload_n h (i := 2) dX5_popInto_31 rfl 0 rfl ?_
      refine J_if_lt h 44 dX5_popInto_32 (by decide) (fun z => absurd z (by decide)) (fun _ => ?_)
      refine J_iload_n h (i := 2) dX5_popInto_35 rfl 0 rfl ?_
      refine J_aload_n h (i := 0) dX5_popInto_36 rfl 1 rfl ?_
      refine J_get h inX5 rfl 0 0 (by decide) rfl rfl nf_X5_24 dX5_popInto_37 ?_
      refine J_alenE h 1 rfl dX5_popInto_40 ?_
      refine J_icmp_lt h 46 dX5_popInto_41 (by decide) (fun _ => ?_) (fun z => absurd z (by decide))
      refine J_aload_n h (i := 0) dX5_popInto_46 rfl 1 rfl ?_
      refine J_get h inX5 rfl 0 0 (by decide) rfl rfl nf_X5_24 dX5_popInto_47 ?_
      refine J_iload_n h (i := 2) dX5_popInto_50 rfl 0 rfl ?_
      refine N_aald h (b := (eA 5)) 1 rfl (by decide) (by omega) (by rfl) dX5_popInto_51 ?_
      refine J_astore_n h (i := 3) (lv' := [(3, .ref (eA 5)), (2, .int (nI 5)), (0, .ref s0), (1, .ref a0)]) dX5_popInto_52 rfl (by decide) rfl ?_
      refine J_aload_n h (i := 3) dX5_popInto_53 rfl 0 rfl ?_
      refine J_ifnonnull h 59 dX5_popInto_54 (by decide) ?_
      refine J_aload_n h (i := 1) dX5_popInto_59 rfl 3 rfl ?_
      refine J_aload_n h (i := 3) dX5_popInto_60 rfl 0 rfl ?_
      refine K_vv h (c_X0_copyFrom (xl X) (xD X) cI cE a0 a1 a2 th ow co ro sl (eA 5) (tA 5) (oA 5) (thS 5) (owS 5) (coS 5) (roS 5) (slS 5) ) yv_X0_copyFrom nm_X5_29 (by decide) (by decide) rfl [26, 27, 28, 17, 18, 19] rfl rfl 0 rfl rfl rfl (fun _ => rfl) rfl (Nat.le_of_ble_eq_true rfl) (Nat.le_refl _) (Nat.le_refl _) dX5_popInto_61 (fun u_61 p_61 => ?_)
      show J X 4 0 0 64 [(3, .ref (eA 5)), (2, .int (nI 5)), (0, .ref s0), (1, .ref a0)] [] [(s0, .inr (5, [.ref s1, .int (nI 6), .int (nI sz)])), (s1, .inl (cE, 8, .inr (.inr (.inr (.inr (aS eA)))))), (eA 0, .inr (0, [.ref (tA 0), .ref (oA 0), .int (coS 0), .int (roS 0), .int (slS 0)])), (tA 0, .inl (cI, 48, .inl (thS 0))), (oA 0, .inl (cI, 48, .inl (owS 0))), (eA 1, .inr (0, [.ref (tA 1), .ref (oA 1), .int (coS 1), .int (roS 1), .int (slS 1)])), (tA 1, .inl (cI, 48, .inl (thS 1))), (oA 1, .inl (cI, 48, .inl (owS 1))), (eA 2, .inr (0, [.ref (tA 2), .ref (oA 2), .int (coS 2), .int (roS 2), .int (slS 2)])), (tA 2, .inl (cI, 48, .inl (thS 2))), (oA 2, .inl (cI, 48, .inl (owS 2))), (eA 3, .inr (0, [.ref (tA 3), .ref (oA 3), .int (coS 3), .int (roS 3), .int (slS 3)])), (tA 3, .inl (cI, 48, .inl (thS 3))), (oA 3, .inl (cI, 48, .inl (owS 3))), (eA 4, .inr (0, [.ref (tA 4), .ref (oA 4), .int (coS 4), .int (roS 4), .int (slS 4)])), (tA 4, .inl (cI, 48, .inl (thS 4))), (oA 4, .inl (cI, 48, .inl (owS 4))), ((eA 5), .inr (0, [.ref (tA 5), .ref (oA 5), .int (coS 5), .int (roS 5), .int (slS 5)])), ((tA 5), .inl (cI, 48, .inl ((thS 5)))), ((oA 5), .inl (cI, 48, .inl ((owS 5)))), (eA 6, .inr (0, [.ref (tA 6), .ref (oA 6), .int (coS 6), .int (roS 6), .int (slS 6)])), (tA 6, .inl (cI, 48, .inl (thS 6))), (oA 6, .inl (cI, 48, .inl (owS 6))), (eA 7, .inr (0, [.ref (tA 7), .ref (oA 7), .int (coS 7), .int (roS 7), .int (slS 7)])), (tA 7, .inl (cI, 48, .inl (thS 7))), (oA 7, .inl (cI, 48, .inl (owS 7))), (a0, .inr (0, [.ref a1, .ref a2, .int (coS 5), .int (roS 5), .int (slS 5)])), (a1, .inl (cI, 48, .inl ((thS 5)))), (a2, .inl (cI, 48, .inl ((owS 5))))]
      refine J_aload_n h (i := 0) dX5_popInto_64 rfl 2 rfl ?_
      refine J_iload_n h (i := 2) dX5_popInto_65 rfl 1 rfl ?_
      refine J_put h (ws' := [(s0, .inr (5, [.ref s1, .int (nI 5), .int (nI sz)])), (s1, .inl (cE, 8, .inr (.inr (.inr (.inr (aS eA)))))), (eA 0, .inr (0, [.ref (tA 0), .ref (oA 0), .int (coS 0), .int (roS 0), .int (slS 0)])), (tA 0, .inl (cI, 48, .inl (thS 0))), (oA 0, .inl (cI, 48, .inl (owS 0))), (eA 1, .inr (0, [.ref (tA 1), .ref (oA 1), .int (coS 1), .int (roS 1), .int (slS 1)])), (tA 1, .inl (cI, 48, .inl (thS 1))), (oA 1, .inl (cI, 48, .inl (owS 1))), (eA 2, .inr (0, [.ref (tA 2), .ref (oA 2), .int (coS 2), .int (roS 2), .int (slS 2)])), (tA 2, .inl (cI, 48, .inl (thS 2))), (oA 2, .inl (cI, 48, .inl (owS 2))), (eA 3, .inr (0, [.ref (tA 3), .ref (oA 3), .int (coS 3), .int (roS 3), .int (slS 3)])), (tA 3, .inl (cI, 48, .inl (thS 3))), (oA 3, .inl (cI, 48, .inl (owS 3))), (eA 4, .inr (0, [.ref (tA 4), .ref (oA 4), .int (coS 4), .int (roS 4), .int (slS 4)])), (tA 4, .inl (cI, 48, .inl (thS 4))), (oA 4, .inl (cI, 48, .inl (owS 4))), ((eA 5), .inr (0, [.ref (tA 5), .ref (oA 5), .int (coS 5), .int (roS 5), .int (slS 5)])), ((tA 5), .inl (cI, 48, .inl ((thS 5)))), ((oA 5), .inl (cI, 48, .inl ((owS 5)))), (eA 6, .inr (0, [.ref (tA 6), .ref (oA 6), .int (coS 6), .int (roS 6), .int (slS 6)])), (tA 6, .inl (cI, 48, .inl (thS 6))), (oA 6, .inl (cI, 48, .inl (owS 6))), (eA 7, .inr (0, [.ref (tA 7), .ref (oA 7), .int (coS 7), .int (roS 7), .int (slS 7)])), (tA 7, .inl (cI, 48, .inl (thS 7))), (oA 7, .inl (cI, 48, .inl (owS 7))), (a0, .inr (0, [.ref a1, .ref a2, .int (coS 5), .int (roS 5), .int (slS 5)])), (a1, .inl (cI, 48, .inl ((thS 5)))), (a2, .inl (cI, 48, .inl ((owS 5))))]) inX5 tyX5 tyX5_ok nmX5 rfl 0 1 (by decide) rfl nf_X5_7 rfl rfl rfl rfl (Nat.le_of_ble_eq_true rfl) dX5_popInto_66 rfl ?_
      refine J_aload_n h (i := 0) dX5_popInto_69 rfl 2 rfl ?_
      refine J_dup h dX5_popInto_70 rfl ?_
      refine J_get h inX5 rfl 0 2 (by decide) rfl rfl nf_X5_13 dX5_popInto_71 ?_
      refine J_iconst h (v := nI 1) dX5_popInto_74 (by decide) ?_
      refine N_isub h (by omega) dX5_popInto_75 ?_
      refine J_put h (ws' := [(s0, .inr (5, [.ref s1, .int (nI 5), .int (nI (sz - 1))])), (s1, .inl (cE, 8, .inr (.inr (.inr (.inr (aS eA)))))), (eA 0, .inr (0, [.ref (tA 0), .ref (oA 0), .int (coS 0), .int (roS 0), .int (slS 0)])), (tA 0, .inl (cI, 48, .inl (thS 0))), (oA 0, .inl (cI, 48, .inl (owS 0))), (eA 1, .inr (0, [.ref (tA 1), .ref (oA 1), .int (coS 1), .int (roS 1), .int (slS 1)])), (tA 1, .inl (cI, 48, .inl (thS 1))), (oA 1, .inl (cI, 48, .inl (owS 1))), (eA 2, .inr (0, [.ref (tA 2), .ref (oA 2), .int (coS 2), .int (roS 2), .int (slS 2)])), (tA 2, .inl (cI, 48, .inl (thS 2))), (oA 2, .inl (cI, 48, .inl (owS 2))), (eA 3, .inr (0, [.ref (tA 3), .ref (oA 3), .int (coS 3), .int (roS 3), .int (slS 3)])), (tA 3, .inl (cI, 48, .inl (thS 3))), (oA 3, .inl (cI, 48, .inl (owS 3))), (eA 4, .inr (0, [.ref (tA 4), .ref (oA 4), .int (coS 4), .int (roS 4), .int (slS 4)])), (tA 4, .inl (cI, 48, .inl (thS 4))), (oA 4, .inl (cI, 48, .inl (owS 4))), ((eA 5), .inr (0, [.ref (tA 5), .ref (oA 5), .int (coS 5), .int (roS 5), .int (slS 5)])), ((tA 5), .inl (cI, 48, .inl ((thS 5)))), ((oA 5), .inl (cI, 48, .inl ((owS 5)))), (eA 6, .inr (0, [.ref (tA 6), .ref (oA 6), .int (coS 6), .int (roS 6), .int (slS 6)])), (tA 6, .inl (cI, 48, .inl (thS 6))), (oA 6, .inl (cI, 48, .inl (owS 6))), (eA 7, .inr (0, [.ref (tA 7), .ref (oA 7), .int (coS 7), .int (roS 7), .int (slS 7)])), (tA 7, .inl (cI, 48, .inl (thS 7))), (oA 7, .inl (cI, 48, .inl (owS 7))), (a0, .inr (0, [.ref a1, .ref a2, .int (coS 5), .int (roS 5), .int (slS 5)])), (a1, .inl (cI, 48, .inl ((thS 5)))), (a2, .inl (cI, 48, .inl ((owS 5))))]) inX5 tyX5 tyX5_ok nmX5 rfl 0 2 (by decide) rfl nf_X5_13 rfl rfl rfl rfl (Nat.le_of_ble_eq_true rfl) dX5_popInto_76 rfl ?_
      refine J_iconst h (v := nI 1) dX5_popInto_79 (by decide) ?_
      exact hR (nI 1) (5, sz - 1, thS 5, owS 5, coS 5, roS 5, slS 5) (Or.inl ⟨rfl, (by (try dsimp only); first | assumption | omega | rfl), (by first | rfl | ((try dsimp only); first | assumption | omega | rfl)), (by first | rfl | ((try dsimp only); first | assumption | omega | rfl)), (by first | rfl | ((try dsimp only); first | assumption | omega | rfl)), (by first | rfl | ((try dsimp only); first | assumption | omega | rfl)), (by first | rfl | ((try dsimp only); first | assumption | omega | rfl)), (by first | rfl | ((try dsimp only); first | assumption | omega | rfl)), (by first | rfl | ((try dsimp only); first | assumption | omega | rfl)), trivial⟩) 80 _ dX5_popInto_80
  · skip
    refine J_aload_n h (i := 0) dX5_popInto_0 rfl 0 rfl ?_
    refine J_get h inX5 rfl 0 1 (by decide) rfl rfl nf_X5_7 dX5_popInto_1 ?_
    refine J_if_le h 16 dX5_popInto_4 (by decide) (fun z => absurd z (by decide)) (fun _ => ?_)
    refine J_aload_n h (i := 0) dX5_popInto_7 rfl 0 rfl ?_
    refine J_get h inX5 rfl 0 1 (by decide) rfl rfl nf_X5_7 dX5_popInto_8 ?_
    refine J_iconst h (v := nI 1) dX5_popInto_11 (by decide) ?_
    refine N_isub h (by omega) dX5_popInto_12 ?_
    refine J_eqs (st' := [.int (nI 6)]) rfl ?_
    refine J_goto h 23 dX5_popInto_13 (by decide) ?_
    refine J_istore_n h (i := 2) (lv' := [(2, .int (nI 6)), (0, .ref s0), (1, .ref a0)]) dX5_popInto_23 rfl (by decide) rfl ?_
    refine J_aload_n h (i := 0) dX5_popInto_24 rfl 1 rfl ?_
    refine J_get h inX5 rfl 0 2 (by decide) rfl rfl nf_X5_13 dX5_popInto_25 ?_
    refine N_if_le h 44 dX5_popInto_28 (by decide) (by omega) (fun c_28 => ?_) (fun c_28 => ?_)
    · skip
      refine J_iconst h (v := nI 0) dX5_popInto_44 (by decide) ?_
      exact hR (nI 0) (7, sz, th, ow, co, ro, sl) (Or.inr (⟨rfl, (by (try dsimp only); first | assumption | omega | rfl), (by first | rfl | ((try dsimp only); first | assumption | omega | rfl)), (by first | rfl | ((try dsimp only); first | assumption | omega | rfl)), (by first | rfl | ((try dsimp only); first | assumption | omega | rfl)), (by first | rfl | ((try dsimp only); first | assumption | omega | rfl)), (by first | rfl | ((try dsimp only); first | assumption | omega | rfl)), (by first | rfl | ((try dsimp only); first | assumption | omega | rfl)), (by first | rfl | ((try dsimp only); first | assumption | omega | rfl)), trivial⟩)) 45 _ dX5_popInto_45
    · skip
      refine J_iload_n h (i := 2) dX5_popInto_31 rfl 0 rfl ?_
      refine J_if_lt h 44 dX5_popInto_32 (by decide) (fun z => absurd z (by decide)) (fun _ => ?_)
      refine J_iload_n h (i := 2) dX5_popInto_35 rfl 0 rfl ?_
      refine J_aload_n h (i := 0) dX5_popInto_36 rfl 1 rfl ?_
      refine J_get h inX5 rfl 0 0 (by decide) rfl rfl nf_X5_24 dX5_popInto_37 ?_
      refine J_alenE h 1 rfl dX5_popInto_40 ?_
      refine J_icmp_lt h 46 dX5_popInto_41 (by decide) (fun _ => ?_) (fun z => absurd z (by decide))
      refine J_aload_n h (i := 0) dX5_popInto_46 rfl 1 rfl ?_
      refine J_get h inX5 rfl 0 0 (by decide) rfl rfl nf_X5_24 dX5_popInto_47 ?_
      refine J_iload_n h (i := 2) dX5_popInto_50 rfl 0 rfl ?_
      refine N_aald h (b := (eA 6)) 1 rfl (by decide) (by omega) (by rfl) dX5_popInto_51 ?_
      refine J_astore_n h (i := 3) (lv' := [(3, .ref (eA 6)), (2, .int (nI 6)), (0, .ref s0), (1, .ref a0)]) dX5_popInto_52 rfl (by decide) rfl ?_
      refine J_aload_n h (i := 3) dX5_popInto_53 rfl 0 rfl ?_
      refine J_ifnonnull h 59 dX5_popInto_54 (by decide) ?_
      refine J_aload_n h (i := 1) dX5_popInto_59 rfl 3 rfl ?_
      refine J_aload_n h (i := 3) dX5_popInto_60 rfl 0 rfl ?_
      refine K_vv h (c_X0_copyFrom (xl X) (xD X) cI cE a0 a1 a2 th ow co ro sl (eA 6) (tA 6) (oA 6) (thS 6) (owS 6) (coS 6) (roS 6) (slS 6) ) yv_X0_copyFrom nm_X5_29 (by decide) (by decide) rfl [26, 27, 28, 20, 21, 22] rfl rfl 0 rfl rfl rfl (fun _ => rfl) rfl (Nat.le_of_ble_eq_true rfl) (Nat.le_refl _) (Nat.le_refl _) dX5_popInto_61 (fun u_61 p_61 => ?_)
      show J X 4 0 0 64 [(3, .ref (eA 6)), (2, .int (nI 6)), (0, .ref s0), (1, .ref a0)] [] [(s0, .inr (5, [.ref s1, .int (nI 7), .int (nI sz)])), (s1, .inl (cE, 8, .inr (.inr (.inr (.inr (aS eA)))))), (eA 0, .inr (0, [.ref (tA 0), .ref (oA 0), .int (coS 0), .int (roS 0), .int (slS 0)])), (tA 0, .inl (cI, 48, .inl (thS 0))), (oA 0, .inl (cI, 48, .inl (owS 0))), (eA 1, .inr (0, [.ref (tA 1), .ref (oA 1), .int (coS 1), .int (roS 1), .int (slS 1)])), (tA 1, .inl (cI, 48, .inl (thS 1))), (oA 1, .inl (cI, 48, .inl (owS 1))), (eA 2, .inr (0, [.ref (tA 2), .ref (oA 2), .int (coS 2), .int (roS 2), .int (slS 2)])), (tA 2, .inl (cI, 48, .inl (thS 2))), (oA 2, .inl (cI, 48, .inl (owS 2))), (eA 3, .inr (0, [.ref (tA 3), .ref (oA 3), .int (coS 3), .int (roS 3), .int (slS 3)])), (tA 3, .inl (cI, 48, .inl (thS 3))), (oA 3, .inl (cI, 48, .inl (owS 3))), (eA 4, .inr (0, [.ref (tA 4), .ref (oA 4), .int (coS 4), .int (roS 4), .int (slS 4)])), (tA 4, .inl (cI, 48, .inl (thS 4))), (oA 4, .inl (cI, 48, .inl (owS 4))), (eA 5, .inr (0, [.ref (tA 5), .ref (oA 5), .int (coS 5), .int (roS 5), .int (slS 5)])), (tA 5, .inl (cI, 48, .inl (thS 5))), (oA 5, .inl (cI, 48, .inl (owS 5))), ((eA 6), .inr (0, [.ref (tA 6), .ref (oA 6), .int (coS 6), .int (roS 6), .int (slS 6)])), ((tA 6), .inl (cI, 48, .inl ((thS 6)))), ((oA 6), .inl (cI, 48, .inl ((owS 6)))), (eA 7, .inr (0, [.ref (tA 7), .ref (oA 7), .int (coS 7), .int (roS 7), .int (slS 7)])), (tA 7, .inl (cI, 48, .inl (thS 7))), (oA 7, .inl (cI, 48, .inl (owS 7))), (a0, .inr (0, [.ref a1, .ref a2, .int (coS 6), .int (roS 6), .int (slS 6)])), (a1, .inl (cI, 48, .inl ((thS 6)))), (a2, .inl (cI, 48, .inl ((owS 6))))]
      refine J_aload_n h (i := 0) dX5_popInto_64 rfl 2 rfl ?_
      refine J_iload_n h (i := 2) dX5_popInto_65 rfl 1 rfl ?_
      refine J_put h (ws' := [(s0, .inr (5, [.ref s1, .int (nI 6), .int (nI sz)])), (s1, .inl (cE, 8, .inr (.inr (.inr (.inr (aS eA)))))), (eA 0, .inr (0, [.ref (tA 0), .ref (oA 0), .int (coS 0), .int (roS 0), .int (slS 0)])), (tA 0, .inl (cI, 48, .inl (thS 0))), (oA 0, .inl (cI, 48, .inl (owS 0))), (eA 1, .inr (0, [.ref (tA 1), .ref (oA 1), .int (coS 1), .int (roS 1), .int (slS 1)])), (tA 1, .inl (cI, 48, .inl (thS 1))), (oA 1, .inl (cI, 48, .inl (owS 1))), (eA 2, .inr (0, [.ref (tA 2), .ref (oA 2), .int (coS 2), .int (roS 2), .int (slS 2)])), (tA 2, .inl (cI, 48, .inl (thS 2))), (oA 2, .inl (cI, 48, .inl (owS 2))), (eA 3, .inr (0, [.ref (tA 3), .ref (oA 3), .int (coS 3), .int (roS 3), .int (slS 3)])), (tA 3, .inl (cI, 48, .inl (thS 3))), (oA 3, .inl (cI, 48, .inl (owS 3))), (eA 4, .inr (0, [.ref (tA 4), .ref (oA 4), .int (coS 4), .int (roS 4), .int (slS 4)])), (tA 4, .inl (cI, 48, .inl (thS 4))), (oA 4, .inl (cI, 48, .inl (owS 4))), (eA 5, .inr (0, [.ref (tA 5), .ref (oA 5), .int (coS 5), .int (roS 5), .int (slS 5)])), (tA 5, .inl (cI, 48, .inl (thS 5))), (oA 5, .inl (cI, 48, .inl (owS 5))), ((eA 6), .inr (0, [.ref (tA 6), .ref (oA 6), .int (coS 6), .int (roS 6), .int (slS 6)])), ((tA 6), .inl (cI, 48, .inl ((thS 6)))), ((oA 6), .inl (cI, 48, .inl ((owS 6)))), (eA 7, .inr (0, [.ref (tA 7), .ref (oA 7), .int (coS 7), .int (roS 7), .int (slS 7)])), (tA 7, .inl (cI, 48, .inl (thS 7))), (oA 7, .inl (cI, 48, .inl (owS 7))), (a0, .inr (0, [.ref a1, .ref a2, .int (coS 6), .int (roS 6), .int (slS 6)])), (a1, .inl (cI, 48, .inl ((thS 6)))), (a2, .inl (cI, 48, .inl ((owS 6))))]) inX5 tyX5 tyX5_ok nmX5 rfl 0 1 (by decide) rfl nf_X5_7 rfl rfl rfl rfl (Nat.le_of_ble_eq_true rfl) dX5_popInto_66 rfl ?_
      refine J_aload_n h (i := 0) dX5_popInto_69 rfl 2 rfl ?_
      refine J_dup h dX5_popInto_70 rfl ?_
      refine J_get h inX5 rfl 0 2 (by decide) rfl rfl nf_X5_13 dX5_popInto_71 ?_
      refine J_iconst h (v := nI 1) dX5_popInto_74 (by decide) ?_
      refine N_isub h (by omega) dX5_popInto_75 ?_
      refine J_put h (ws' := [(s0, .inr (5, [.ref s1, .int (nI 6), .int (nI (sz - 1))])), (s1, .inl (cE, 8, .inr (.inr (.inr (.inr (aS eA)))))), (eA 0, .inr (0, [.ref (tA 0), .ref (oA 0), .int (coS 0), .int (roS 0), .int (slS 0)])), (tA 0, .inl (cI, 48, .inl (thS 0))), (oA 0, .inl (cI, 48, .inl (owS 0))), (eA 1, .inr (0, [.ref (tA 1), .ref (oA 1), .int (coS 1), .int (roS 1), .int (slS 1)])), (tA 1, .inl (cI, 48, .inl (thS 1))), (oA 1, .inl (cI, 48, .inl (owS 1))), (eA 2, .inr (0, [.ref (tA 2), .ref (oA 2), .int (coS 2), .int (roS 2), .int (slS 2)])), (tA 2, .inl (cI, 48, .inl (thS 2))), (oA 2, .inl (cI, 48, .inl (owS 2))), (eA 3, .inr (0, [.ref (tA 3), .ref (oA 3), .int (coS 3), .int (roS 3), .int (slS 3)])), (tA 3, .inl (cI, 48, .inl (thS 3))), (oA 3, .inl (cI, 48, .inl (owS 3))), (eA 4, .inr (0, [.ref (tA 4), .ref (oA 4), .int (coS 4), .int (roS 4), .int (slS 4)])), (tA 4, .inl (cI, 48, .inl (thS 4))), (oA 4, .inl (cI, 48, .inl (owS 4))), (eA 5, .inr (0, [.ref (tA 5), .ref (oA 5), .int (coS 5), .int (roS 5), .int (slS 5)])), (tA 5, .inl (cI, 48, .inl (thS 5))), (oA 5, .inl (cI, 48, .inl (owS 5))), ((eA 6), .inr (0, [.ref (tA 6), .ref (oA 6), .int (coS 6), .int (roS 6), .int (slS 6)])), ((tA 6), .inl (cI, 48, .inl ((thS 6)))), ((oA 6), .inl (cI, 48, .inl ((owS 6)))), (eA 7, .inr (0, [.ref (tA 7), .ref (oA 7), .int (coS 7), .int (roS 7), .int (slS 7)])), (tA 7, .inl (cI, 48, .inl (thS 7))), (oA 7, .inl (cI, 48, .inl (owS 7))), (a0, .inr (0, [.ref a1, .ref a2, .int (coS 6), .int (roS 6), .int (slS 6)])), (a1, .inl (cI, 48, .inl ((thS 6)))), (a2, .inl (cI, 48, .inl ((owS 6))))]) inX5 tyX5 tyX5_ok nmX5 rfl 0 2 (by decide) rfl nf_X5_13 rfl rfl rfl rfl (Nat.le_of_ble_eq_true rfl) dX5_popInto_76 rfl ?_
      refine J_iconst h (v := nI 1) dX5_popInto_79 (by decide) ?_
      exact hR (nI 1) (6, sz - 1, thS 6, owS 6, coS 6, roS 6, slS 6) (Or.inl ⟨rfl, (by (try dsimp only); first | assumption | omega | rfl), (by first | rfl | ((try dsimp only); first | assumption | omega | rfl)), (by first | rfl | ((try dsimp only); first | assumption | omega | rfl)), (by first | rfl | ((try dsimp only); first | assumption | omega | rfl)), (by first | rfl | ((try dsimp only); first | assumption | omega | rfl)), (by first | rfl | ((try dsimp only); first | assumption | omega | rfl)), (by first | rfl | ((try dsimp only); first | assumption | omega | rfl)), (by first | rfl | ((try dsimp only); first | assumption | omega | rfl)), trivial⟩) 80 _ dX5_popInto_80
theorem c_X5_pop8 (l : Launch) (D : va_G) (cI cE : ClassId) (s0 : Nat) (s1 : Nat) (eA : Nat → Nat) (tA : Nat → Nat) (oA : Nat → Nat) (thS : Nat → Nat → Int32) (owS : Nat → Nat → Int32) (coS : Nat → Int32) (roS : Nat → Int32) (slS : Nat → Int32) (nx : Nat) (sz : Nat) (a0 : Nat) (a1 : Nat) (a2 : Nat) (th : Nat → Int32) (ow : Nat → Int32) (co : Int32) (ro : Int32) (sl : Int32) (hnx : nx < 8) (hsz : sz ≤ 8) : Ci l D cI cE yX5_popInto cX5_popInto 4 (some .boolean) 1 0 0 [.ref s0, .ref a0] [(s0, .inr (5, [.ref s1, .int (nI nx), .int (nI sz)])), (s1, .inl (cE, 8, .inr (.inr (.inr (.inr (aS eA)))))), (eA 0, .inr (0, [.ref (tA 0), .ref (oA 0), .int (coS 0), .int (roS 0), .int (slS 0)])), (tA 0, .inl (cI, 48, .inl (thS 0))), (oA 0, .inl (cI, 48, .inl (owS 0))), (eA 1, .inr (0, [.ref (tA 1), .ref (oA 1), .int (coS 1), .int (roS 1), .int (slS 1)])), (tA 1, .inl (cI, 48, .inl (thS 1))), (oA 1, .inl (cI, 48, .inl (owS 1))), (eA 2, .inr (0, [.ref (tA 2), .ref (oA 2), .int (coS 2), .int (roS 2), .int (slS 2)])), (tA 2, .inl (cI, 48, .inl (thS 2))), (oA 2, .inl (cI, 48, .inl (owS 2))), (eA 3, .inr (0, [.ref (tA 3), .ref (oA 3), .int (coS 3), .int (roS 3), .int (slS 3)])), (tA 3, .inl (cI, 48, .inl (thS 3))), (oA 3, .inl (cI, 48, .inl (owS 3))), (eA 4, .inr (0, [.ref (tA 4), .ref (oA 4), .int (coS 4), .int (roS 4), .int (slS 4)])), (tA 4, .inl (cI, 48, .inl (thS 4))), (oA 4, .inl (cI, 48, .inl (owS 4))), (eA 5, .inr (0, [.ref (tA 5), .ref (oA 5), .int (coS 5), .int (roS 5), .int (slS 5)])), (tA 5, .inl (cI, 48, .inl (thS 5))), (oA 5, .inl (cI, 48, .inl (owS 5))), (eA 6, .inr (0, [.ref (tA 6), .ref (oA 6), .int (coS 6), .int (roS 6), .int (slS 6)])), (tA 6, .inl (cI, 48, .inl (thS 6))), (oA 6, .inl (cI, 48, .inl (owS 6))), (eA 7, .inr (0, [.ref (tA 7), .ref (oA 7), .int (coS 7), .int (roS 7), .int (slS 7)])), (tA 7, .inl (cI, 48, .inl (thS 7))), (oA 7, .inl (cI, 48, .inl (owS 7))), (a0, .inr (0, [.ref a1, .ref a2, .int co, .int ro, .int sl])), (a1, .inl (cI, 48, .inl th)), (a2, .inl (cI, 48, .inl ow))] (fun (r : Int32) (u : (Nat) × (Nat) × (Nat → Int32) × (Nat → Int32) × (Int32) × (Int32) × (Int32)) => ((nI 1 = r) ∧ (0 < sz) ∧ ((lstP 8 nx) = u.1) ∧ ((sz - 1) = u.2.1) ∧ ((thS (lstP 8 nx)) = u.2.2.1) ∧ ((owS (lstP 8 nx)) = u.2.2.2.1) ∧ ((coS (lstP 8 nx)) = u.2.2.2.2.1) ∧ ((roS (lstP 8 nx)) = u.2.2.2.2.2.1) ∧ ((slS (lstP 8 nx)) = u.2.2.2.2.2.2) ∧ (True)) ∨ ((nI 0 = r) ∧ (sz = 0) ∧ ((nx) = u.1) ∧ ((sz) = u.2.1) ∧ ((th) = u.2.2.1) ∧ ((ow) = u.2.2.2.1) ∧ ((co) = u.2.2.2.2.1) ∧ ((ro) = u.2.2.2.2.2.1) ∧ ((sl) = u.2.2.2.2.2.2) ∧ (True))) (fun (u : (Nat) × (Nat) × (Nat → Int32) × (Nat → Int32) × (Int32) × (Int32) × (Int32)) => ([(s0, .inr (5, [.ref s1, .int (nI u.1), .int (nI u.2.1)])), (s1, .inl (cE, 8, .inr (.inr (.inr (.inr (aS eA)))))), (eA 0, .inr (0, [.ref (tA 0), .ref (oA 0), .int (coS 0), .int (roS 0), .int (slS 0)])), (tA 0, .inl (cI, 48, .inl (thS 0))), (oA 0, .inl (cI, 48, .inl (owS 0))), (eA 1, .inr (0, [.ref (tA 1), .ref (oA 1), .int (coS 1), .int (roS 1), .int (slS 1)])), (tA 1, .inl (cI, 48, .inl (thS 1))), (oA 1, .inl (cI, 48, .inl (owS 1))), (eA 2, .inr (0, [.ref (tA 2), .ref (oA 2), .int (coS 2), .int (roS 2), .int (slS 2)])), (tA 2, .inl (cI, 48, .inl (thS 2))), (oA 2, .inl (cI, 48, .inl (owS 2))), (eA 3, .inr (0, [.ref (tA 3), .ref (oA 3), .int (coS 3), .int (roS 3), .int (slS 3)])), (tA 3, .inl (cI, 48, .inl (thS 3))), (oA 3, .inl (cI, 48, .inl (owS 3))), (eA 4, .inr (0, [.ref (tA 4), .ref (oA 4), .int (coS 4), .int (roS 4), .int (slS 4)])), (tA 4, .inl (cI, 48, .inl (thS 4))), (oA 4, .inl (cI, 48, .inl (owS 4))), (eA 5, .inr (0, [.ref (tA 5), .ref (oA 5), .int (coS 5), .int (roS 5), .int (slS 5)])), (tA 5, .inl (cI, 48, .inl (thS 5))), (oA 5, .inl (cI, 48, .inl (owS 5))), (eA 6, .inr (0, [.ref (tA 6), .ref (oA 6), .int (coS 6), .int (roS 6), .int (slS 6)])), (tA 6, .inl (cI, 48, .inl (thS 6))), (oA 6, .inl (cI, 48, .inl (owS 6))), (eA 7, .inr (0, [.ref (tA 7), .ref (oA 7), .int (coS 7), .int (roS 7), .int (slS 7)])), (tA 7, .inl (cI, 48, .inl (thS 7))), (oA 7, .inl (cI, 48, .inl (owS 7))), (a0, .inr (0, [.ref a1, .ref a2, .int u.2.2.2.2.1, .int u.2.2.2.2.2.1, .int u.2.2.2.2.2.2])), (a1, .inl (cI, 48, .inl u.2.2.1)), (a2, .inl (cI, 48, .inl u.2.2.2.1))] : va_W)) :=
  Ci.of (by decide) (Nat.le_of_ble_eq_true rfl) (fun r u hp => by rcases hp with ⟨hp, _⟩ | ⟨hp, _⟩ <;> (rw [← hp]; rfl)) (fun X h hR => w_X5_pop8 X h s0 s1 eA tA oA thS owS coS roS slS nx sz a0 a1 a2 th ow co ro sl hnx hsz hR)
theorem yv_X5_popInto : YV yX5_popInto cX5_popInto 4 (some .boolean) 1 := ⟨no_X5_popInto, nv_X5_popInto, ni_X5, nk_X5_popInto, by decide +kernel⟩
set_option maxRecDepth 100000 in
set_option maxHeartbeats 4000000 in
theorem w_X5_push2 (X : Cx) {cI cE : ClassId} (h : Ok X cX5_push RX5 3 cI cE 1 0 0) (s0 : Nat) (s1 : Nat) (eA : Nat → Nat) (tA : Nat → Nat) (oA : Nat → Nat) (thS : Nat → Nat → Int32) (owS : Nat → Nat → Int32) (coS : Nat → Int32) (roS : Nat → Int32) (slS : Nat → Int32) (nx : Nat) (sz : Nat) (a0 : Nat) (a1 : Nat) (a2 : Nat) (th : Nat → Int32) (ow : Nat → Int32) (co : Int32) (ro : Int32) (sl : Int32) (hnx : nx < 2) (hsz : sz ≤ 2) (hR : ∀ (u : (Nat → Nat → Int32) × (Nat → Nat → Int32) × (Nat → Int32) × (Nat → Int32) × (Nat → Int32) × (Nat) × (Nat)), (((va_up thS nx th) = u.1) ∧ ((va_up owS nx ow) = u.2.1) ∧ ((va_up coS nx co) = u.2.2.1) ∧ ((va_up roS nx ro) = u.2.2.2.1) ∧ ((va_up slS nx sl) = u.2.2.2.2.1) ∧ ((nxtP 2 nx) = u.2.2.2.2.2.1) ∧ ((min (sz + 1) 2) = u.2.2.2.2.2.2) ∧ (True)) → RetV X cX5_push 3 0 0 [(s0, .inr (5, [.ref s1, .int (nI u.2.2.2.2.2.1), .int (nI u.2.2.2.2.2.2)])), (s1, .inl (cE, 2, .inr (.inr (.inr (.inr (aS eA)))))), (eA 0, .inr (0, [.ref (tA 0), .ref (oA 0), .int (u.2.2.1 0), .int (u.2.2.2.1 0), .int (u.2.2.2.2.1 0)])), (tA 0, .inl (cI, 48, .inl (u.1 0))), (oA 0, .inl (cI, 48, .inl (u.2.1 0))), (eA 1, .inr (0, [.ref (tA 1), .ref (oA 1), .int (u.2.2.1 1), .int (u.2.2.2.1 1), .int (u.2.2.2.2.1 1)])), (tA 1, .inl (cI, 48, .inl (u.1 1))), (oA 1, .inl (cI, 48, .inl (u.2.1 1))), (a0, .inr (0, [.ref a1, .ref a2, .int co, .int ro, .int sl])), (a1, .inl (cI, 48, .inl th)), (a2, .inl (cI, 48, .inl ow))]) : J X 3 0 0 0 [(0, .ref s0), (1, .ref a0)] [] [(s0, .inr (5, [.ref s1, .int (nI nx), .int (nI sz)])), (s1, .inl (cE, 2, .inr (.inr (.inr (.inr (aS eA)))))), (eA 0, .inr (0, [.ref (tA 0), .ref (oA 0), .int (coS 0), .int (roS 0), .int (slS 0)])), (tA 0, .inl (cI, 48, .inl (thS 0))), (oA 0, .inl (cI, 48, .inl (owS 0))), (eA 1, .inr (0, [.ref (tA 1), .ref (oA 1), .int (coS 1), .int (roS 1), .int (slS 1)])), (tA 1, .inl (cI, 48, .inl (thS 1))), (oA 1, .inl (cI, 48, .inl (owS 1))), (a0, .inr (0, [.ref a1, .ref a2, .int co, .int ro, .int sl])), (a1, .inl (cI, 48, .inl th)), (a2, .inl (cI, 48, .inl ow))] := by
  have hcs_ : nx = 0 ∨ nx = 1 := by omega
  rcases hcs_ with rfl | rfl
  · skip
    refine J_aload_n h (i := 0) dX5_push_0 rfl 0 rfl ?_
    refine J_get h inX5 rfl 0 1 (by decide) rfl rfl nf_X5_7 dX5_push_1 ?_
    refine J_if_lt h 19 dX5_push_4 (by decide) (fun z => absurd z (by decide)) (fun _ => ?_)
    refine J_aload_n h (i := 0) dX5_push_7 rfl 0 rfl ?_
    refine J_get h inX5 rfl 0 1 (by decide) rfl rfl nf_X5_7 dX5_push_8 ?_
    refine J_aload_n h (i := 0) dX5_push_11 rfl 0 rfl ?_
    refine J_get h inX5 rfl 0 0 (by decide) rfl rfl nf_X5_24 dX5_push_12 ?_
    refine J_alenE h 1 rfl dX5_push_15 ?_
    refine J_icmp_lt h 20 dX5_push_16 (by decide) (fun _ => ?_) (fun z => absurd z (by decide))
    refine J_aload_n h (i := 0) dX5_push_20 rfl 0 rfl ?_
    refine J_get h inX5 rfl 0 0 (by decide) rfl rfl nf_X5_24 dX5_push_21 ?_
    refine J_aload_n h (i := 0) dX5_push_24 rfl 0 rfl ?_
    refine J_get h inX5 rfl 0 1 (by decide) rfl rfl nf_X5_7 dX5_push_25 ?_
    refine N_aald h (b := (eA 0)) 1 rfl (by decide) (by omega) (by rfl) dX5_push_28 ?_
    refine J_astore_n h (i := 2) (lv' := [(2, .ref (eA 0)), (0, .ref s0), (1, .ref a0)]) dX5_push_29 rfl (by decide) rfl ?_
    refine J_aload_n h (i := 2) dX5_push_30 rfl 0 rfl ?_
    refine J_ifnonnull h 35 dX5_push_31 (by decide) ?_
    refine J_aload_n h (i := 2) dX5_push_35 rfl 0 rfl ?_
    refine J_aload_n h (i := 1) dX5_push_36 rfl 2 rfl ?_
    refine K_vv h (c_X0_copyFrom (xl X) (xD X) cI cE (eA 0) (tA 0) (oA 0) (thS 0) (owS 0) (coS 0) (roS 0) (slS 0) a0 a1 a2 th ow co ro sl ) yv_X0_copyFrom nm_X5_29 (by decide) (by decide) rfl [2, 3, 4, 8, 9, 10] rfl rfl 0 rfl rfl rfl (fun _ => rfl) rfl (Nat.le_of_ble_eq_true rfl) (Nat.le_refl _) (Nat.le_refl _) dX5_push_37 (fun u_37 p_37 => ?_)
    show J X 3 0 0 40 [(2, .ref (eA 0)), (0, .ref s0), (1, .ref a0)] [] [(s0, .inr (5, [.ref s1, .int (nI 0), .int (nI sz)])), (s1, .inl (cE, 2, .inr (.inr (.inr (.inr (aS eA)))))), ((eA 0), .inr (0, [.ref (tA 0), .ref (oA 0), .int co, .int ro, .int sl])), ((tA 0), .inl (cI, 48, .inl th)), ((oA 0), .inl (cI, 48, .inl ow)), (eA 1, .inr (0, [.ref (tA 1), .ref (oA 1), .int (coS 1), .int (roS 1), .int (slS 1)])), (tA 1, .inl (cI, 48, .inl (thS 1))), (oA 1, .inl (cI, 48, .inl (owS 1))), (a0, .inr (0, [.ref a1, .ref a2, .int co, .int ro, .int sl])), (a1, .inl (cI, 48, .inl th)), (a2, .inl (cI, 48, .inl ow))]
    refine J_aload_n h (i := 0) dX5_push_40 rfl 1 rfl ?_
    refine J_aload_n h (i := 0) dX5_push_41 rfl 1 rfl ?_
    refine J_get h inX5 rfl 0 1 (by decide) rfl rfl nf_X5_7 dX5_push_42 ?_
    refine J_iconst h (v := nI 1) dX5_push_45 (by decide) ?_
    refine N_iadd h dX5_push_46 ?_
    refine J_eqs (st' := [.int (nI 1), .ref s0]) rfl ?_
    refine J_aload_n h (i := 0) dX5_push_47 rfl 1 rfl ?_
    refine J_get h inX5 rfl 0 0 (by decide) rfl rfl nf_X5_24 dX5_push_48 ?_
    refine J_alenE h 1 rfl dX5_push_51 ?_
    refine J_icmp_ge h 64 dX5_push_52 (by decide) (fun z => absurd z (by decide)) (fun _ => ?_)
    refine J_aload_n h (i := 0) dX5_push_55 rfl 1 rfl ?_
    refine J_get h inX5 rfl 0 1 (by decide) rfl rfl nf_X5_7 dX5_push_56 ?_
    refine J_iconst h (v := nI 1) dX5_push_59 (by decide) ?_
    refine N_iadd h dX5_push_60 ?_
    refine J_eqs (st' := [.int (nI 1), .ref s0]) rfl ?_
    refine J_goto h 65 dX5_push_61 (by decide) ?_
    refine J_put h (ws' := [(s0, .inr (5, [.ref s1, .int (nI 1), .int (nI sz)])), (s1, .inl (cE, 2, .inr (.inr (.inr (.inr (aS eA)))))), ((eA 0), .inr (0, [.ref (tA 0), .ref (oA 0), .int co, .int ro, .int sl])), ((tA 0), .inl (cI, 48, .inl th)), ((oA 0), .inl (cI, 48, .inl ow)), (eA 1, .inr (0, [.ref (tA 1), .ref (oA 1), .int (coS 1), .int (roS 1), .int (slS 1)])), (tA 1, .inl (cI, 48, .inl (thS 1))), (oA 1, .inl (cI, 48, .inl (owS 1))), (a0, .inr (0, [.ref a1, .ref a2, .int co, .int ro, .int sl])), (a1, .inl (cI, 48, .inl th)), (a2, .inl (cI, 48, .inl ow))]) inX5 tyX5 tyX5_ok nmX5 rfl 0 1 (by decide) rfl nf_X5_7 rfl rfl rfl rfl (Nat.le_of_ble_eq_true rfl) dX5_push_65 rfl ?_
    refine J_aload_n h (i := 0) dX5_push_68 rfl 1 rfl ?_
    refine J_aload_n h (i := 0) dX5_push_69 rfl 1 rfl ?_
    refine J_get h inX5 rfl 0 2 (by decide) rfl rfl nf_X5_13 dX5_push_70 ?_
    refine J_iconst h (v := nI 1) dX5_push_73 (by decide) ?_
    refine N_iadd h dX5_push_74 ?_
    refine J_aload_n h (i := 0) dX5_push_75 rfl 1 rfl ?_
    refine J_get h inX5 rfl 0 0 (by decide) rfl rfl nf_X5_24 dX5_push_76 ?_
    refine J_alenE h 1 rfl dX5_push_79 ?_
    refine J_min h (by decide) nm_X5_33 (Nat.zero_le _) (Nat.zero_le _) (Nat.le_of_ble_eq_true rfl) dX5_push_80 ?_
    rw [show (if (nI 2) < (nI (sz + 1)) then (nI 2) else (nI (sz + 1))) = nI (min (sz + 1) 2) from by exact minN (by omega) (by decide)]
    refine J_put h (ws' := [(s0, .inr (5, [.ref s1, .int (nI 1), .int (nI (min (sz + 1) 2))])), (s1, .inl (cE, 2, .inr (.inr (.inr (.inr (aS eA)))))), ((eA 0), .inr (0, [.ref (tA 0), .ref (oA 0), .int co, .int ro, .int sl])), ((tA 0), .inl (cI, 48, .inl th)), ((oA 0), .inl (cI, 48, .inl ow)), (eA 1, .inr (0, [.ref (tA 1), .ref (oA 1), .int (coS 1), .int (roS 1), .int (slS 1)])), (tA 1, .inl (cI, 48, .inl (thS 1))), (oA 1, .inl (cI, 48, .inl (owS 1))), (a0, .inr (0, [.ref a1, .ref a2, .int co, .int ro, .int sl])), (a1, .inl (cI, 48, .inl th)), (a2, .inl (cI, 48, .inl ow))]) inX5 tyX5 tyX5_ok nmX5 rfl 0 2 (by decide) rfl nf_X5_13 rfl rfl rfl rfl (Nat.le_of_ble_eq_true rfl) dX5_push_83 rfl ?_
    exact hR (va_up thS 0 th, va_up owS 0 ow, va_up coS 0 co, va_up roS 0 ro, va_up slS 0 sl, 1, min (sz + 1) 2) (⟨(by first | rfl | ((try dsimp only); first | assumption | omega | rfl)), (by first | rfl | ((try dsimp only); first | assumption | omega | rfl)), (by first | rfl | ((try dsimp only); first | assumption | omega | rfl)), (by first | rfl | ((try dsimp only); first | assumption | omega | rfl)), (by first | rfl | ((try dsimp only); first | assumption | omega | rfl)), (by first | rfl | ((try dsimp only); first | assumption | omega | rfl)), (by first | rfl | ((try dsimp only); first | assumption | omega | rfl)), trivial⟩) 86 _ dX5_push_86
  · skip
    refine J_aload_n h (i := 0) dX5_push_0 rfl 0 rfl ?_
    refine J_get h inX5 rfl 0 1 (by decide) rfl rfl nf_X5_7 dX5_push_1 ?_
    refine J_if_lt h 19 dX5_push_4 (by decide) (fun z => absurd z (by decide)) (fun _ => ?_)
    refine J_aload_n h (i := 0) dX5_push_7 rfl 0 rfl ?_
    refine J_get h inX5 rfl 0 1 (by decide) rfl rfl nf_X5_7 dX5_push_8 ?_
    refine J_aload_n h (i := 0) dX5_push_11 rfl 0 rfl ?_
    refine J_get h inX5 rfl 0 0 (by decide) rfl rfl nf_X5_24 dX5_push_12 ?_
    refine J_alenE h 1 rfl dX5_push_15 ?_
    refine J_icmp_lt h 20 dX5_push_16 (by decide) (fun _ => ?_) (fun z => absurd z (by decide))
    refine J_aload_n h (i := 0) dX5_push_20 rfl 0 rfl ?_
    refine J_get h inX5 rfl 0 0 (by decide) rfl rfl nf_X5_24 dX5_push_21 ?_
    refine J_aload_n h (i := 0) dX5_push_24 rfl 0 rfl ?_
    refine J_get h inX5 rfl 0 1 (by decide) rfl rfl nf_X5_7 dX5_push_25 ?_
    refine N_aald h (b := (eA 1)) 1 rfl (by decide) (by omega) (by rfl) dX5_push_28 ?_
    refine J_astore_n h (i := 2) (lv' := [(2, .ref (eA 1)), (0, .ref s0), (1, .ref a0)]) dX5_push_29 rfl (by decide) rfl ?_
    refine J_aload_n h (i := 2) dX5_push_30 rfl 0 rfl ?_
    refine J_ifnonnull h 35 dX5_push_31 (by decide) ?_
    refine J_aload_n h (i := 2) dX5_push_35 rfl 0 rfl ?_
    refine J_aload_n h (i := 1) dX5_push_36 rfl 2 rfl ?_
    refine K_vv h (c_X0_copyFrom (xl X) (xD X) cI cE (eA 1) (tA 1) (oA 1) (thS 1) (owS 1) (coS 1) (roS 1) (slS 1) a0 a1 a2 th ow co ro sl ) yv_X0_copyFrom nm_X5_29 (by decide) (by decide) rfl [5, 6, 7, 8, 9, 10] rfl rfl 0 rfl rfl rfl (fun _ => rfl) rfl (Nat.le_of_ble_eq_true rfl) (Nat.le_refl _) (Nat.le_refl _) dX5_push_37 (fun u_37 p_37 => ?_)
    show J X 3 0 0 40 [(2, .ref (eA 1)), (0, .ref s0), (1, .ref a0)] [] [(s0, .inr (5, [.ref s1, .int (nI 1), .int (nI sz)])), (s1, .inl (cE, 2, .inr (.inr (.inr (.inr (aS eA)))))), (eA 0, .inr (0, [.ref (tA 0), .ref (oA 0), .int (coS 0), .int (roS 0), .int (slS 0)])), (tA 0, .inl (cI, 48, .inl (thS 0))), (oA 0, .inl (cI, 48, .inl (owS 0))), ((eA 1), .inr (0, [.ref (tA 1), .ref (oA 1), .int co, .int ro, .int sl])), ((tA 1), .inl (cI, 48, .inl th)), ((oA 1), .inl (cI, 48, .inl ow)), (a0, .inr (0, [.ref a1, .ref a2, .int co, .int ro, .int sl])), (a1, .inl (cI, 48, .inl th)), (a2, .inl (cI, 48, .inl ow))]
    refine J_aload_n h (i := 0) dX5_push_40 rfl 1 rfl ?_
    refine J_aload_n h (i := 0) dX5_push_41 rfl 1 rfl ?_
    refine J_get h inX5 rfl 0 1 (by decide) rfl rfl nf_X5_7 dX5_push_42 ?_
    refine J_iconst h (v := nI 1) dX5_push_45 (by decide) ?_
    refine N_iadd h dX5_push_46 ?_
    refine J_eqs (st' := [.int (nI 2), .ref s0]) rfl ?_
    refine J_aload_n h (i := 0) dX5_push_47 rfl 1 rfl ?_
    refine J_get h inX5 rfl 0 0 (by decide) rfl rfl nf_X5_24 dX5_push_48 ?_
    refine J_alenE h 1 rfl dX5_push_51 ?_
    refine J_icmp_ge h 64 dX5_push_52 (by decide) (fun _ => ?_) (fun z => absurd z (by decide))
    refine J_iconst h (v := nI 0) dX5_push_64 (by decide) ?_
    refine J_put h (ws' := [(s0, .inr (5, [.ref s1, .int (nI 0), .int (nI sz)])), (s1, .inl (cE, 2, .inr (.inr (.inr (.inr (aS eA)))))), (eA 0, .inr (0, [.ref (tA 0), .ref (oA 0), .int (coS 0), .int (roS 0), .int (slS 0)])), (tA 0, .inl (cI, 48, .inl (thS 0))), (oA 0, .inl (cI, 48, .inl (owS 0))), ((eA 1), .inr (0, [.ref (tA 1), .ref (oA 1), .int co, .int ro, .int sl])), ((tA 1), .inl (cI, 48, .inl th)), ((oA 1), .inl (cI, 48, .inl ow)), (a0, .inr (0, [.ref a1, .ref a2, .int co, .int ro, .int sl])), (a1, .inl (cI, 48, .inl th)), (a2, .inl (cI, 48, .inl ow))]) inX5 tyX5 tyX5_ok nmX5 rfl 0 1 (by decide) rfl nf_X5_7 rfl rfl rfl rfl (Nat.le_of_ble_eq_true rfl) dX5_push_65 rfl ?_
    refine J_aload_n h (i := 0) dX5_push_68 rfl 1 rfl ?_
    refine J_aload_n h (i := 0) dX5_push_69 rfl 1 rfl ?_
    refine J_get h inX5 rfl 0 2 (by decide) rfl rfl nf_X5_13 dX5_push_70 ?_
    refine J_iconst h (v := nI 1) dX5_push_73 (by decide) ?_
    refine N_iadd h dX5_push_74 ?_
    refine J_aload_n h (i := 0) dX5_push_75 rfl 1 rfl ?_
    refine J_get h inX5 rfl 0 0 (by decide) rfl rfl nf_X5_24 dX5_push_76 ?_
    refine J_alenE h 1 rfl dX5_push_79 ?_
    refine J_min h (by decide) nm_X5_33 (Nat.zero_le _) (Nat.zero_le _) (Nat.le_of_ble_eq_true rfl) dX5_push_80 ?_
    rw [show (if (nI 2) < (nI (sz + 1)) then (nI 2) else (nI (sz + 1))) = nI (min (sz + 1) 2) from by exact minN (by omega) (by decide)]
    refine J_put h (ws' := [(s0, .inr (5, [.ref s1, .int (nI 0), .int (nI (min (sz + 1) 2))])), (s1, .inl (cE, 2, .inr (.inr (.inr (.inr (aS eA)))))), (eA 0, .inr (0, [.ref (tA 0), .ref (oA 0), .int (coS 0), .int (roS 0), .int (slS 0)])), (tA 0, .inl (cI, 48, .inl (thS 0))), (oA 0, .inl (cI, 48, .inl (owS 0))), ((eA 1), .inr (0, [.ref (tA 1), .ref (oA 1), .int co, .int ro, .int sl])), ((tA 1), .inl (cI, 48, .inl th)), ((oA 1), .inl (cI, 48, .inl ow)), (a0, .inr (0, [.ref a1, .ref a2, .int co, .int ro, .int sl])), (a1, .inl (cI, 48, .inl th)), (a2, .inl (cI, 48, .inl ow))]) inX5 tyX5 tyX5_ok nmX5 rfl 0 2 (by decide) rfl nf_X5_13 rfl rfl rfl rfl (Nat.le_of_ble_eq_true rfl) dX5_push_83 rfl ?_
    exact hR (va_up thS 1 th, va_up owS 1 ow, va_up coS 1 co, va_up roS 1 ro, va_up slS 1 sl, 0, min (sz + 1) 2) (⟨(by first | rfl | ((try dsimp only); first | assumption | omega | rfl)), (by first | rfl | ((try dsimp only); first | assumption | omega | rfl)), (by first | rfl | ((try dsimp only); first | assumption | omega | rfl)), (by first | rfl | ((try dsimp only); first | assumption | omega | rfl)), (by first | rfl | ((try dsimp only); first | assumption | omega | rfl)), (by first | rfl | ((try dsimp only); first | assumption | omega | rfl)), (by first | rfl | ((try dsimp only); first | assumption | omega | rfl)), trivial⟩) 86 _ dX5_push_86
theorem c_X5_push2 (l : Launch) (D : va_G) (cI cE : ClassId) (s0 : Nat) (s1 : Nat) (eA : Nat → Nat) (tA : Nat → Nat) (oA : Nat → Nat) (thS : Nat → Nat → Int32) (owS : Nat → Nat → Int32) (coS : Nat → Int32) (roS : Nat → Int32) (slS : Nat → Int32) (nx : Nat) (sz : Nat) (a0 : Nat) (a1 : Nat) (a2 : Nat) (th : Nat → Int32) (ow : Nat → Int32) (co : Int32) (ro : Int32) (sl : Int32) (hnx : nx < 2) (hsz : sz ≤ 2) : Cv l D cI cE yX5_push cX5_push 3 none 1 0 0 [.ref s0, .ref a0] [(s0, .inr (5, [.ref s1, .int (nI nx), .int (nI sz)])), (s1, .inl (cE, 2, .inr (.inr (.inr (.inr (aS eA)))))), (eA 0, .inr (0, [.ref (tA 0), .ref (oA 0), .int (coS 0), .int (roS 0), .int (slS 0)])), (tA 0, .inl (cI, 48, .inl (thS 0))), (oA 0, .inl (cI, 48, .inl (owS 0))), (eA 1, .inr (0, [.ref (tA 1), .ref (oA 1), .int (coS 1), .int (roS 1), .int (slS 1)])), (tA 1, .inl (cI, 48, .inl (thS 1))), (oA 1, .inl (cI, 48, .inl (owS 1))), (a0, .inr (0, [.ref a1, .ref a2, .int co, .int ro, .int sl])), (a1, .inl (cI, 48, .inl th)), (a2, .inl (cI, 48, .inl ow))] (fun (u : (Nat → Nat → Int32) × (Nat → Nat → Int32) × (Nat → Int32) × (Nat → Int32) × (Nat → Int32) × (Nat) × (Nat)) => (((va_up thS nx th) = u.1) ∧ ((va_up owS nx ow) = u.2.1) ∧ ((va_up coS nx co) = u.2.2.1) ∧ ((va_up roS nx ro) = u.2.2.2.1) ∧ ((va_up slS nx sl) = u.2.2.2.2.1) ∧ ((nxtP 2 nx) = u.2.2.2.2.2.1) ∧ ((min (sz + 1) 2) = u.2.2.2.2.2.2) ∧ (True))) (fun (u : (Nat → Nat → Int32) × (Nat → Nat → Int32) × (Nat → Int32) × (Nat → Int32) × (Nat → Int32) × (Nat) × (Nat)) => ([(s0, .inr (5, [.ref s1, .int (nI u.2.2.2.2.2.1), .int (nI u.2.2.2.2.2.2)])), (s1, .inl (cE, 2, .inr (.inr (.inr (.inr (aS eA)))))), (eA 0, .inr (0, [.ref (tA 0), .ref (oA 0), .int (u.2.2.1 0), .int (u.2.2.2.1 0), .int (u.2.2.2.2.1 0)])), (tA 0, .inl (cI, 48, .inl (u.1 0))), (oA 0, .inl (cI, 48, .inl (u.2.1 0))), (eA 1, .inr (0, [.ref (tA 1), .ref (oA 1), .int (u.2.2.1 1), .int (u.2.2.2.1 1), .int (u.2.2.2.2.1 1)])), (tA 1, .inl (cI, 48, .inl (u.1 1))), (oA 1, .inl (cI, 48, .inl (u.2.1 1))), (a0, .inr (0, [.ref a1, .ref a2, .int co, .int ro, .int sl])), (a1, .inl (cI, 48, .inl th)), (a2, .inl (cI, 48, .inl ow))] : va_W)) :=
  Cv.of (by decide) (Nat.le_of_ble_eq_true rfl) (fun X h hR _ => w_X5_push2 X h s0 s1 eA tA oA thS owS coS roS slS nx sz a0 a1 a2 th ow co ro sl hnx hsz hR)
set_option maxRecDepth 100000 in
set_option maxHeartbeats 4000000 in
theorem w_X5_pop2 (X : Cx) {cI cE : ClassId} (h : Ok X cX5_popInto RX5 4 cI cE 1 0 0) (s0 : Nat) (s1 : Nat) (eA : Nat → Nat) (tA : Nat → Nat) (oA : Nat → Nat) (thS : Nat → Nat → Int32) (owS : Nat → Nat → Int32) (coS : Nat → Int32) (roS : Nat → Int32) (slS : Nat → Int32) (nx : Nat) (sz : Nat) (a0 : Nat) (a1 : Nat) (a2 : Nat) (th : Nat → Int32) (ow : Nat → Int32) (co : Int32) (ro : Int32) (sl : Int32) (hnx : nx < 2) (hsz : sz ≤ 2) (hR : ∀ (r : Int32) (u : (Nat) × (Nat) × (Nat → Int32) × (Nat → Int32) × (Int32) × (Int32) × (Int32)), ((nI 1 = r) ∧ (0 < sz) ∧ ((lstP 2 nx) = u.1) ∧ ((sz - 1) = u.2.1) ∧ ((thS (lstP 2 nx)) = u.2.2.1) ∧ ((owS (lstP 2 nx)) = u.2.2.2.1) ∧ ((coS (lstP 2 nx)) = u.2.2.2.2.1) ∧ ((roS (lstP 2 nx)) = u.2.2.2.2.2.1) ∧ ((slS (lstP 2 nx)) = u.2.2.2.2.2.2) ∧ (True)) ∨ ((nI 0 = r) ∧ (sz = 0) ∧ ((nx) = u.1) ∧ ((sz) = u.2.1) ∧ ((th) = u.2.2.1) ∧ ((ow) = u.2.2.2.1) ∧ ((co) = u.2.2.2.2.1) ∧ ((ro) = u.2.2.2.2.2.1) ∧ ((sl) = u.2.2.2.2.2.2) ∧ (True)) → RetI X cX5_popInto 4 0 0 r [(s0, .inr (5, [.ref s1, .int (nI u.1), .int (nI u.2.1)])), (s1, .inl (cE, 2, .inr (.inr (.inr (.inr (aS eA)))))), (eA 0, .inr (0, [.ref (tA 0), .ref (oA 0), .int (coS 0), .int (roS 0), .int (slS 0)])), (tA 0, .inl (cI, 48, .inl (thS 0))), (oA 0, .inl (cI, 48, .inl (owS 0))), (eA 1, .inr (0, [.ref (tA 1), .ref (oA 1), .int (coS 1), .int (roS 1), .int (slS 1)])), (tA 1, .inl (cI, 48, .inl (thS 1))), (oA 1, .inl (cI, 48, .inl (owS 1))), (a0, .inr (0, [.ref a1, .ref a2, .int u.2.2.2.2.1, .int u.2.2.2.2.2.1, .int u.2.2.2.2.2.2])), (a1, .inl (cI, 48, .inl u.2.2.1)), (a2, .inl (cI, 48, .inl u.2.2.2.1))]) : J X 4 0 0 0 [(0, .ref s0), (1, .ref a0)] [] [(s0, .inr (5, [.ref s1, .int (nI nx), .int (nI sz)])), (s1, .inl (cE, 2, .inr (.inr (.inr (.inr (aS eA)))))), (eA 0, .inr (0, [.ref (tA 0), .ref (oA 0), .int (coS 0), .int (roS 0), .int (slS 0)])), (tA 0, .inl (cI, 48, .inl (thS 0))), (oA 0, .inl (cI, 48, .inl (owS 0))), (eA 1, .inr (0, [.ref (tA 1), .ref (oA 1), .int (coS 1), .int (roS 1), .int (slS 1)])), (tA 1, .inl (cI, 48, .inl (thS 1))), (oA 1, .inl (cI, 48, .inl (owS 1))), (a0, .inr (0, [.ref a1, .ref a2, .int co, .int ro, .int sl])), (a1, .inl (cI, 48, .inl th)), (a2, .inl (cI, 48, .inl ow))] := by
  have hcs_ : nx = 0 ∨ nx = 1 := by omega
  rcases hcs_ with rfl | rfl
  · skip
    refine J_aload_n h (i := 0) dX5_popInto_0 rfl 0 rfl ?_
    refine J_get h inX5 rfl 0 1 (by decide) rfl rfl nf_X5_7 dX5_popInto_1 ?_
    refine J_if_le h 16 dX5_popInto_4 (by decide) (fun _ => ?_) (fun z => absurd z (by decide))
    refine J_aload_n h (i := 0) dX5_popInto_16 rfl 0 rfl ?_
    refine J_get h inX5 rfl 0 0 (by decide) rfl rfl nf_X5_24 dX5_popInto_17 ?_
    refine J_alenE h 1 rfl dX5_popInto_20 ?_
    refine J_iconst h (v := nI 1) dX5_popInto_21 (by decide) ?_
    refine N_isub h (by omega) dX5_popInto_22 ?_
    refine J_eqs (st' := [.int (nI 1)]) rfl ?_
    refine J_istore_n h (i := 2) (lv' := [(2, .int (nI 1)), (0, .ref s0), (1, .ref a0)]) dX5_popInto_23 rfl (by decide) rfl ?_
    refine J_aload_n h (i := 0) dX5_popInto_24 rfl 1 rfl ?_
    refine J_get h inX5 rfl 0 2 (by decide) rfl rfl nf_X5_13 dX5_popInto_25 ?_
    refine N_if_le h 44 dX5_popInto_28 (by decide) (by omega) (fun c_28 => ?_) (fun c_28 => ?_)
    · skip
      refine J_iconst h (v := nI 0) dX5_popInto_44 (by decide) ?_
      exact hR (nI 0) (0, sz, th, ow, co, ro, sl) (Or.inr (⟨rfl, (by (try dsimp only); first | assumption | omega | rfl), (by first | rfl | ((try dsimp only); first | assumption | omega | rfl)), (by first | rfl | ((try dsimp only); first | assumption | omega | rfl)), (by first | rfl | ((try dsimp only); first | assumption | omega | rfl)), (by first | rfl | ((try dsimp only); first | assumption | omega | rfl)), (by first | rfl | ((try dsimp only); first | assumption | omega | rfl)), (by first | rfl | ((try dsimp only); first | assumption | omega | rfl)), (by first | rfl | ((try dsimp only); first | assumption | omega | rfl)), trivial⟩)) 45 _ dX5_popInto_45
    · skip
      refine J_iload_n h (i := 2) dX5_popInto_31 rfl 0 rfl ?_
      refine J_if_lt h 44 dX5_popInto_32 (by decide) (fun z => absurd z (by decide)) (fun _ => ?_)
      refine J_iload_n h (i := 2) dX5_popInto_35 rfl 0 rfl ?_
      refine J_aload_n h (i := 0) dX5_popInto_36 rfl 1 rfl ?_
      refine J_get h inX5 rfl 0 0 (by decide) rfl rfl nf_X5_24 dX5_popInto_37 ?_
      refine J_alenE h 1 rfl dX5_popInto_40 ?_
      refine J_icmp_lt h 46 dX5_popInto_41 (by decide) (fun _ => ?_) (fun z => absurd z (by decide))
      refine J_aload_n h (i := 0) dX5_popInto_46 rfl 1 rfl ?_
      refine J_get h inX5 rfl 0 0 (by decide) rfl rfl nf_X5_24 dX5_popInto_47 ?_
      refine J_iload_n h (i := 2) dX5_popInto_50 rfl 0 rfl ?_
      refine N_aald h (b := (eA 1)) 1 rfl (by decide) (by omega) (by rfl) dX5_popInto_51 ?_
      refine J_astore_n h (i := 3) (lv' := [(3, .ref (eA 1)), (2, .int (nI 1)), (0, .ref s0), (1, .ref a0)]) dX5_popInto_52 rfl (by decide) rfl ?_
      refine J_aload_n h (i := 3) dX5_popInto_53 rfl 0 rfl ?_
      refine J_ifnonnull h 59 dX5_popInto_54 (by decide) ?_
      refine J_aload_n h (i := 1) dX5_popInto_59 rfl 3 rfl ?_
      refine J_aload_n h (i := 3) dX5_popInto_60 rfl 0 rfl ?_
      refine K_vv h (c_X0_copyFrom (xl X) (xD X) cI cE a0 a1 a2 th ow co ro sl (eA 1) (tA 1) (oA 1) (thS 1) (owS 1) (coS 1) (roS 1) (slS 1) ) yv_X0_copyFrom nm_X5_29 (by decide) (by decide) rfl [8, 9, 10, 5, 6, 7] rfl rfl 0 rfl rfl rfl (fun _ => rfl) rfl (Nat.le_of_ble_eq_true rfl) (Nat.le_refl _) (Nat.le_refl _) dX5_popInto_61 (fun u_61 p_61 => ?_)
      show J X 4 0 0 64 [(3, .ref (eA 1)), (2, .int (nI 1)), (0, .ref s0), (1, .ref a0)] [] [(s0, .inr (5, [.ref s1, .int (nI 0), .int (nI sz)])), (s1, .inl (cE, 2, .inr (.inr (.inr (.inr (aS eA)))))), (eA 0, .inr (0, [.ref (tA 0), .ref (oA 0), .int (coS 0), .int (roS 0), .int (slS 0)])), (tA 0, .inl (cI, 48, .inl (thS 0))), (oA 0, .inl (cI, 48, .inl (owS 0))), ((eA 1), .inr (0, [.ref (tA 1), .ref (oA 1), .int (coS 1), .int (roS 1), .int (slS 1)])), ((tA 1), .inl (cI, 48, .inl ((thS 1)))), ((oA 1), .inl (cI, 48, .inl ((owS 1)))), (a0, .inr (0, [.ref a1, .ref a2, .int (coS 1), .int (roS 1), .int (slS 1)])), (a1, .inl (cI, 48, .inl ((thS 1)))), (a2, .inl (cI, 48, .inl ((owS 1))))]
      refine J_aload_n h (i := 0) dX5_popInto_64 rfl 2 rfl ?_
      refine J_iload_n h (i := 2) dX5_popInto_65 rfl 1 rfl ?_
      refine J_put h (ws' := [(s0, .inr (5, [.ref s1, .int (nI 1), .int (nI sz)])), (s1, .inl (cE, 2, .inr (.inr (.inr (.inr (aS eA)))))), (eA 0, .inr (0, [.ref (tA 0), .ref (oA 0), .int (coS 0), .int (roS 0), .int (slS 0)])), (tA 0, .inl (cI, 48, .inl (thS 0))), (oA 0, .inl (cI, 48, .inl (owS 0))), ((eA 1), .inr (0, [.ref (tA 1), .ref (oA 1), .int (coS 1), .int (roS 1), .int (slS 1)])), ((tA 1), .inl (cI, 48, .inl ((thS 1)))), ((oA 1), .inl (cI, 48, .inl ((owS 1)))), (a0, .inr (0, [.ref a1, .ref a2, .int (coS 1), .int (roS 1), .int (slS 1)])), (a1, .inl (cI, 48, .inl ((thS 1)))), (a2, .inl (cI, 48, .inl ((owS 1))))]) inX5 tyX5 tyX5_ok nmX5 rfl 0 1 (by decide) rfl nf_X5_7 rfl rfl rfl rfl (Nat.le_of_ble_eq_true rfl) dX5_popInto_66 rfl ?_
      refine J_aload_n h (i := 0) dX5_popInto_69 rfl 2 rfl ?_
      refine J_dup h dX5_popInto_70 rfl ?_
      refine J_get h inX5 rfl 0 2 (by decide) rfl rfl nf_X5_13 dX5_popInto_71 ?_
      refine J_iconst h (v := nI 1) dX5_popInto_74 (by decide) ?_
      refine N_isub h (by omega) dX5_popInto_75 ?_
      refine J_put h (ws' := [(s0, .inr (5, [.ref s1, .int (nI 1), .int (nI (sz - 1))])), (s1, .inl (cE, 2, .inr (.inr (.inr (.inr (aS eA)))))), (eA 0, .inr (0, [.ref (tA 0), .ref (oA 0), .int (coS 0), .int (roS 0), .int (slS 0)])), (tA 0, .inl (cI, 48, .inl (thS 0))), (oA 0, .inl (cI, 48, .inl (owS 0))), ((eA 1), .inr (0, [.ref (tA 1), .ref (oA 1), .int (coS 1), .int (roS 1), .int (slS 1)])), ((tA 1), .inl (cI, 48, .inl ((thS 1)))), ((oA 1), .inl (cI, 48, .inl ((owS 1)))), (a0, .inr (0, [.ref a1, .ref a2, .int (coS 1), .int (roS 1), .int (slS 1)])), (a1, .inl (cI, 48, .inl ((thS 1)))), (a2, .inl (cI, 48, .inl ((owS 1))))]) inX5 tyX5 tyX5_ok nmX5 rfl 0 2 (by decide) rfl nf_X5_13 rfl rfl rfl rfl (Nat.le_of_ble_eq_true rfl) dX5_popInto_76 rfl ?_
      refine J_iconst h (v := nI 1) dX5_popInto_79 (by decide) ?_
      exact hR (nI 1) (1, sz - 1, thS 1, owS 1, coS 1, roS 1, slS 1) (Or.inl ⟨rfl, (by (try dsimp only); first | assumption | omega | rfl), (by first | rfl | ((try dsimp only); first | assumption | omega | rfl)), (by first | rfl | ((try dsimp only); first | assumption | omega | rfl)), (by first | rfl | ((try dsimp only); first | assumption | omega | rfl)), (by first | rfl | ((try dsimp only); first | assumption | omega | rfl)), (by first | rfl | ((try dsimp only); first | assumption | omega | rfl)), (by first | rfl | ((try dsimp only); first | assumption | omega | rfl)), (by first | rfl | ((try dsimp only); first | assumption | omega | rfl)), trivial⟩) 80 _ dX5_popInto_80
  · skip
    refine J_aload_n h (i := 0) dX5_popInto_0 rfl 0 rfl ?_
    refine J_get h inX5 rfl 0 1 (by decide) rfl rfl nf_X5_7 dX5_popInto_1 ?_
    refine J_if_le h 16 dX5_popInto_4 (by decide) (fun z => absurd z (by decide)) (fun _ => ?_)
    refine J_aload_n h (i := 0) dX5_popInto_7 rfl 0 rfl ?_
    refine J_get h inX5 rfl 0 1 (by decide) rfl rfl nf_X5_7 dX5_popInto_8 ?_
    refine J_iconst h (v := nI 1) dX5_popInto_11 (by decide) ?_
    refine N_isub h (by omega) dX5_popInto_12 ?_
    refine J_eqs (st' := [.int (nI 0)]) rfl ?_
    refine J_goto h 23 dX5_popInto_13 (by decide) ?_
    refine J_istore_n h (i := 2) (lv' := [(2, .int (nI 0)), (0, .ref s0), (1, .ref a0)]) dX5_popInto_23 rfl (by decide) rfl ?_
    refine J_aload_n h (i := 0) dX5_popInto_24 rfl 1 rfl ?_
    refine J_get h inX5 rfl 0 2 (by decide) rfl rfl nf_X5_13 dX5_popInto_25 ?_
    refine N_if_le h 44 dX5_popInto_28 (by decide) (by omega) (fun c_28 => ?_) (fun c_28 => ?_)
    · skip
      refine J_iconst h (v := nI 0) dX5_popInto_44 (by decide) ?_
      exact hR (nI 0) (1, sz, th, ow, co, ro, sl) (Or.inr (⟨rfl, (by (try dsimp only); first | assumption | omega | rfl), (by first | rfl | ((try dsimp only); first | assumption | omega | rfl)), (by first | rfl | ((try dsimp only); first | assumption | omega | rfl)), (by first | rfl | ((try dsimp only); first | assumption | omega | rfl)), (by first | rfl | ((try dsimp only); first | assumption | omega | rfl)), (by first | rfl | ((try dsimp only); first | assumption | omega | rfl)), (by first | rfl | ((try dsimp only); first | assumption | omega | rfl)), (by first | rfl | ((try dsimp only); first | assumption | omega | rfl)), trivial⟩)) 45 _ dX5_popInto_45
    · skip
      refine J_iload_n h (i := 2) dX5_popInto_31 rfl 0 rfl ?_
      refine J_if_lt h 44 dX5_popInto_32 (by decide) (fun z => absurd z (by decide)) (fun _ => ?_)
      refine J_iload_n h (i := 2) dX5_popInto_35 rfl 0 rfl ?_
      refine J_aload_n h (i := 0) dX5_popInto_36 rfl 1 rfl ?_
      refine J_get h inX5 rfl 0 0 (by decide) rfl rfl nf_X5_24 dX5_popInto_37 ?_
      refine J_alenE h 1 rfl dX5_popInto_40 ?_
      refine J_icmp_lt h 46 dX5_popInto_41 (by decide) (fun _ => ?_) (fun z => absurd z (by decide))
      refine J_aload_n h (i := 0) dX5_popInto_46 rfl 1 rfl ?_
      refine J_get h inX5 rfl 0 0 (by decide) rfl rfl nf_X5_24 dX5_popInto_47 ?_
      refine J_iload_n h (i := 2) dX5_popInto_50 rfl 0 rfl ?_
      refine N_aald h (b := (eA 0)) 1 rfl (by decide) (by omega) (by rfl) dX5_popInto_51 ?_
      refine J_astore_n h (i := 3) (lv' := [(3, .ref (eA 0)), (2, .int (nI 0)), (0, .ref s0), (1, .ref a0)]) dX5_popInto_52 rfl (by decide) rfl ?_
      refine J_aload_n h (i := 3) dX5_popInto_53 rfl 0 rfl ?_
      refine J_ifnonnull h 59 dX5_popInto_54 (by decide) ?_
      refine J_aload_n h (i := 1) dX5_popInto_59 rfl 3 rfl ?_
      refine J_aload_n h (i := 3) dX5_popInto_60 rfl 0 rfl ?_
      refine K_vv h (c_X0_copyFrom (xl X) (xD X) cI cE a0 a1 a2 th ow co ro sl (eA 0) (tA 0) (oA 0) (thS 0) (owS 0) (coS 0) (roS 0) (slS 0) ) yv_X0_copyFrom nm_X5_29 (by decide) (by decide) rfl [8, 9, 10, 2, 3, 4] rfl rfl 0 rfl rfl rfl (fun _ => rfl) rfl (Nat.le_of_ble_eq_true rfl) (Nat.le_refl _) (Nat.le_refl _) dX5_popInto_61 (fun u_61 p_61 => ?_)
      show J X 4 0 0 64 [(3, .ref (eA 0)), (2, .int (nI 0)), (0, .ref s0), (1, .ref a0)] [] [(s0, .inr (5, [.ref s1, .int (nI 1), .int (nI sz)])), (s1, .inl (cE, 2, .inr (.inr (.inr (.inr (aS eA)))))), ((eA 0), .inr (0, [.ref (tA 0), .ref (oA 0), .int (coS 0), .int (roS 0), .int (slS 0)])), ((tA 0), .inl (cI, 48, .inl ((thS 0)))), ((oA 0), .inl (cI, 48, .inl ((owS 0)))), (eA 1, .inr (0, [.ref (tA 1), .ref (oA 1), .int (coS 1), .int (roS 1), .int (slS 1)])), (tA 1, .inl (cI, 48, .inl (thS 1))), (oA 1, .inl (cI, 48, .inl (owS 1))), (a0, .inr (0, [.ref a1, .ref a2, .int (coS 0), .int (roS 0), .int (slS 0)])), (a1, .inl (cI, 48, .inl ((thS 0)))), (a2, .inl (cI, 48, .inl ((owS 0))))]
      refine J_aload_n h (i := 0) dX5_popInto_64 rfl 2 rfl ?_
      refine J_iload_n h (i := 2) dX5_popInto_65 rfl 1 rfl ?_
      refine J_put h (ws' := [(s0, .inr (5, [.ref s1, .int (nI 0), .int (nI sz)])), (s1, .inl (cE, 2, .inr (.inr (.inr (.inr (aS eA)))))), ((eA 0), .inr (0, [.ref (tA 0), .ref (oA 0), .int (coS 0), .int (roS 0), .int (slS 0)])), ((tA 0), .inl (cI, 48, .inl ((thS 0)))), ((oA 0), .inl (cI, 48, .inl ((owS 0)))), (eA 1, .inr (0, [.ref (tA 1), .ref (oA 1), .int (coS 1), .int (roS 1), .int (slS 1)])), (tA 1, .inl (cI, 48, .inl (thS 1))), (oA 1, .inl (cI, 48, .inl (owS 1))), (a0, .inr (0, [.ref a1, .ref a2, .int (coS 0), .int (roS 0), .int (slS 0)])), (a1, .inl (cI, 48, .inl ((thS 0)))), (a2, .inl (cI, 48, .inl ((owS 0))))]) inX5 tyX5 tyX5_ok nmX5 rfl 0 1 (by decide) rfl nf_X5_7 rfl rfl rfl rfl (Nat.le_of_ble_eq_true rfl) dX5_popInto_66 rfl ?_
      refine J_aload_n h (i := 0) dX5_popInto_69 rfl 2 rfl ?_
      refine J_dup h dX5_popInto_70 rfl ?_
      refine J_get h inX5 rfl 0 2 (by decide) rfl rfl nf_X5_13 dX5_popInto_71 ?_
      refine J_iconst h (v := nI 1) dX5_popInto_74 (by decide) ?_
      refine N_isub h (by omega) dX5_popInto_75 ?_
      refine J_put h (ws' := [(s0, .inr (5, [.ref s1, .int (nI 0), .int (nI (sz - 1))])), (s1, .inl (cE, 2, .inr (.inr (.inr (.inr (aS eA)))))), ((eA 0), .inr (0, [.ref (tA 0), .ref (oA 0), .int (coS 0), .int (roS 0), .int (slS 0)])), ((tA 0), .inl (cI, 48, .inl ((thS 0)))), ((oA 0), .inl (cI, 48, .inl ((owS 0)))), (eA 1, .inr (0, [.ref (tA 1), .ref (oA 1), .int (coS 1), .int (roS 1), .int (slS 1)])), (tA 1, .inl (cI, 48, .inl (thS 1))), (oA 1, .inl (cI, 48, .inl (owS 1))), (a0, .inr (0, [.ref a1, .ref a2, .int (coS 0), .int (roS 0), .int (slS 0)])), (a1, .inl (cI, 48, .inl ((thS 0)))), (a2, .inl (cI, 48, .inl ((owS 0))))]) inX5 tyX5 tyX5_ok nmX5 rfl 0 2 (by decide) rfl nf_X5_13 rfl rfl rfl rfl (Nat.le_of_ble_eq_true rfl) dX5_popInto_76 rfl ?_
      refine J_iconst h (v := nI 1) dX5_popInto_79 (by decide) ?_
      exact hR (nI 1) (0, sz - 1, thS 0, owS 0, coS 0, roS 0, slS 0) (Or.inl ⟨rfl, (by (try dsimp only); first | assumption | omega | rfl), (by first | rfl | ((try dsimp only); first | assumption | omega | rfl)), (by first | rfl | ((try dsimp only); first | assumption | omega | rfl)), (by first | rfl | ((try dsimp only); first | assumption | omega | rfl)), (by first | rfl | ((try dsimp only); first | assumption | omega | rfl)), (by first | rfl | ((try dsimp only); first | assumption | omega | rfl)), (by first | rfl | ((try dsimp only); first | assumption | omega | rfl)), (by first | rfl | ((try dsimp only); first | assumption | omega | rfl)), trivial⟩) 80 _ dX5_popInto_80
theorem c_X5_pop2 (l : Launch) (D : va_G) (cI cE : ClassId) (s0 : Nat) (s1 : Nat) (eA : Nat → Nat) (tA : Nat → Nat) (oA : Nat → Nat) (thS : Nat → Nat → Int32) (owS : Nat → Nat → Int32) (coS : Nat → Int32) (roS : Nat → Int32) (slS : Nat → Int32) (nx : Nat) (sz : Nat) (a0 : Nat) (a1 : Nat) (a2 : Nat) (th : Nat → Int32) (ow : Nat → Int32) (co : Int32) (ro : Int32) (sl : Int32) (hnx : nx < 2) (hsz : sz ≤ 2) : Ci l D cI cE yX5_popInto cX5_popInto 4 (some .boolean) 1 0 0 [.ref s0, .ref a0] [(s0, .inr (5, [.ref s1, .int (nI nx), .int (nI sz)])), (s1, .inl (cE, 2, .inr (.inr (.inr (.inr (aS eA)))))), (eA 0, .inr (0, [.ref (tA 0), .ref (oA 0), .int (coS 0), .int (roS 0), .int (slS 0)])), (tA 0, .inl (cI, 48, .inl (thS 0))), (oA 0, .inl (cI, 48, .inl (owS 0))), (eA 1, .inr (0, [.ref (tA 1), .ref (oA 1), .int (coS 1), .int (roS 1), .int (slS 1)])), (tA 1, .inl (cI, 48, .inl (thS 1))), (oA 1, .inl (cI, 48, .inl (owS 1))), (a0, .inr (0, [.ref a1, .ref a2, .int co, .int ro, .int sl])), (a1, .inl (cI, 48, .inl th)), (a2, .inl (cI, 48, .inl ow))] (fun (r : Int32) (u : (Nat) × (Nat) × (Nat → Int32) × (Nat → Int32) × (Int32) × (Int32) × (Int32)) => ((nI 1 = r) ∧ (0 < sz) ∧ ((lstP 2 nx) = u.1) ∧ ((sz - 1) = u.2.1) ∧ ((thS (lstP 2 nx)) = u.2.2.1) ∧ ((owS (lstP 2 nx)) = u.2.2.2.1) ∧ ((coS (lstP 2 nx)) = u.2.2.2.2.1) ∧ ((roS (lstP 2 nx)) = u.2.2.2.2.2.1) ∧ ((slS (lstP 2 nx)) = u.2.2.2.2.2.2) ∧ (True)) ∨ ((nI 0 = r) ∧ (sz = 0) ∧ ((nx) = u.1) ∧ ((sz) = u.2.1) ∧ ((th) = u.2.2.1) ∧ ((ow) = u.2.2.2.1) ∧ ((co) = u.2.2.2.2.1) ∧ ((ro) = u.2.2.2.2.2.1) ∧ ((sl) = u.2.2.2.2.2.2) ∧ (True))) (fun (u : (Nat) × (Nat) × (Nat → Int32) × (Nat → Int32) × (Int32) × (Int32) × (Int32)) => ([(s0, .inr (5, [.ref s1, .int (nI u.1), .int (nI u.2.1)])), (s1, .inl (cE, 2, .inr (.inr (.inr (.inr (aS eA)))))), (eA 0, .inr (0, [.ref (tA 0), .ref (oA 0), .int (coS 0), .int (roS 0), .int (slS 0)])), (tA 0, .inl (cI, 48, .inl (thS 0))), (oA 0, .inl (cI, 48, .inl (owS 0))), (eA 1, .inr (0, [.ref (tA 1), .ref (oA 1), .int (coS 1), .int (roS 1), .int (slS 1)])), (tA 1, .inl (cI, 48, .inl (thS 1))), (oA 1, .inl (cI, 48, .inl (owS 1))), (a0, .inr (0, [.ref a1, .ref a2, .int u.2.2.2.2.1, .int u.2.2.2.2.2.1, .int u.2.2.2.2.2.2])), (a1, .inl (cI, 48, .inl u.2.2.1)), (a2, .inl (cI, 48, .inl u.2.2.2.1))] : va_W)) :=
  Ci.of (by decide) (Nat.le_of_ble_eq_true rfl) (fun r u hp => by rcases hp with ⟨hp, _⟩ | ⟨hp, _⟩ <;> (rw [← hp]; rfl)) (fun X h hR => w_X5_pop2 X h s0 s1 eA tA oA thS owS coS roS slS nx sz a0 a1 a2 th ow co ro sl hnx hsz hR)
set_option maxRecDepth 100000 in
set_option maxHeartbeats 4000000 in
theorem w_X6_clear (X : Cx) {cI cE : ClassId} (h : Ok X cX6_clear RX6 1 cI cE 0 0 0) (v0 : Nat) (v1 : Nat) (v2 : Nat) (v3 : Nat) (kx : Nat → Nat) (kw : Nat → Nat) (ke : Nat → Nat) (sn : Nat)  (hR : ∀ (u : Unit), ((True)) → RetV X cX6_clear 1 0 0 [(v0, .inr (6, [.ref v1, .ref v2, .ref v3, .int (nI 0)])), (v1, .inl (cI, 6, .inl (nA kx))), (v2, .inl (cI, 6, .inl (nA kw))), (v3, .inl (cI, 6, .inl (nA ke)))]) : J X 1 0 0 0 [(0, .ref v0)] [] [(v0, .inr (6, [.ref v1, .ref v2, .ref v3, .int (nI sn)])), (v1, .inl (cI, 6, .inl (nA kx))), (v2, .inl (cI, 6, .inl (nA kw))), (v3, .inl (cI, 6, .inl (nA ke)))] := by
  refine J_aload_n h (i := 0) dX6_clear_0 rfl 0 rfl ?_
  refine J_iconst h (v := nI 0) dX6_clear_1 (by decide) ?_
  refine J_put h (ws' := [(v0, .inr (6, [.ref v1, .ref v2, .ref v3, .int (nI 0)])), (v1, .inl (cI, 6, .inl (nA kx))), (v2, .inl (cI, 6, .inl (nA kw))), (v3, .inl (cI, 6, .inl (nA ke)))]) inX6 tyX6 tyX6_ok nmX6 rfl 0 3 (by decide) rfl nf_X6_21 rfl rfl rfl rfl (Nat.le_of_ble_eq_true rfl) dX6_clear_2 rfl ?_
  exact hR () (trivial) 5 _ dX6_clear_5
theorem c_X6_clear (l : Launch) (D : va_G) (cI cE : ClassId) (v0 : Nat) (v1 : Nat) (v2 : Nat) (v3 : Nat) (kx : Nat → Nat) (kw : Nat → Nat) (ke : Nat → Nat) (sn : Nat)  : Cv l D cI cE yX6_clear cX6_clear 1 none 0 0 0 [.ref v0] [(v0, .inr (6, [.ref v1, .ref v2, .ref v3, .int (nI sn)])), (v1, .inl (cI, 6, .inl (nA kx))), (v2, .inl (cI, 6, .inl (nA kw))), (v3, .inl (cI, 6, .inl (nA ke)))] (fun (u : Unit) => ((True))) (fun (u : Unit) => ([(v0, .inr (6, [.ref v1, .ref v2, .ref v3, .int (nI 0)])), (v1, .inl (cI, 6, .inl (nA kx))), (v2, .inl (cI, 6, .inl (nA kw))), (v3, .inl (cI, 6, .inl (nA ke)))] : va_W)) :=
  Cv.of (by decide) (Nat.le_of_ble_eq_true rfl) (fun X h hR _ => w_X6_clear X h v0 v1 v2 v3 kx kw ke sn hR)
theorem yv_X6_clear : YV yX6_clear cX6_clear 1 none 0 := ⟨no_X6_clear, nv_X6_clear, ni_X6, nk_X6_clear, by decide +kernel⟩
set_option maxRecDepth 100000 in
set_option maxHeartbeats 4000000 in
theorem w_X6_add (X : Cx) {cI cE : ClassId} (h : Ok X cX6_add RX6 4 cI cE 0 0 0) (v0 : Nat) (v1 : Nat) (v2 : Nat) (v3 : Nat) (kx : Nat → Nat) (kw : Nat → Nat) (ke : Nat → Nat) (sn : Nat) (p0 : Nat) (p1 : Nat) (p2 : Nat) (hsn : sn ≤ 6) (hR : ∀ (r : Int32) (u : (Nat → Nat) × (Nat → Nat) × (Nat → Nat) × (Nat)), ((nI 1 = r) ∧ (sn < 6) ∧ ((va_up kx sn p0) = u.1) ∧ ((va_up kw sn p1) = u.2.1) ∧ ((va_up ke sn p2) = u.2.2.1) ∧ ((sn + 1) = u.2.2.2) ∧ (True)) ∨ ((nI 0 = r) ∧ (sn = 6) ∧ ((kx) = u.1) ∧ ((kw) = u.2.1) ∧ ((ke) = u.2.2.1) ∧ ((sn) = u.2.2.2) ∧ (True)) → RetI X cX6_add 4 0 0 r [(v0, .inr (6, [.ref v1, .ref v2, .ref v3, .int (nI u.2.2.2)])), (v1, .inl (cI, 6, .inl (nA u.1))), (v2, .inl (cI, 6, .inl (nA u.2.1))), (v3, .inl (cI, 6, .inl (nA u.2.2.1)))]) : J X 4 0 0 0 [(0, .ref v0), (1, .int (nI p0)), (2, .int (nI p1)), (3, .int (nI p2))] [] [(v0, .inr (6, [.ref v1, .ref v2, .ref v3, .int (nI sn)])), (v1, .inl (cI, 6, .inl (nA kx))), (v2, .inl (cI, 6, .inl (nA kw))), (v3, .inl (cI, 6, .inl (nA ke)))] := by
  refine J_aload_n h (i := 0) dX6_add_0 rfl 0 rfl ?_
  refine J_get h inX6 rfl 0 3 (by decide) rfl rfl nf_X6_21 dX6_add_1 ?_
  refine N_if_lt h 16 dX6_add_4 (by decide) (by omega) ?_
  refine J_aload_n h (i := 0) dX6_add_7 rfl 0 rfl ?_
  refine J_get h inX6 rfl 0 3 (by decide) rfl rfl nf_X6_21 dX6_add_8 ?_
  refine J_bipush h (v := nI 6) dX6_add_11 (by decide) ?_
  refine N_icmp_lt h 18 dX6_add_13 (by decide) (by omega) (by omega) (fun c_13 => ?_) (fun c_13 => ?_)
  · skip
    refine J_aload_n h (i := 0) dX6_add_18 rfl 0 rfl ?_
    refine J_get h inX6 rfl 0 0 (by decide) rfl rfl nf_X6_9 dX6_add_19 ?_
    refine J_aload_n h (i := 0) dX6_add_22 rfl 0 rfl ?_
    refine J_get h inX6 rfl 0 3 (by decide) rfl rfl nf_X6_21 dX6_add_23 ?_
    refine J_iload_n h (i := 1) dX6_add_26 rfl 1 rfl ?_
    refine N_iast h (ws' := [(v0, .inr (6, [.ref v1, .ref v2, .ref v3, .int (nI sn)])), (v1, .inl (cI, 6, .inl (upd (nA kx) sn (nI p0)))), (v2, .inl (cI, 6, .inl (nA kw))), (v3, .inl (cI, 6, .inl (nA ke)))]) 1 rfl (by decide) (by omega) dX6_add_27 rfl ?_
    refine J_aload_n h (i := 0) dX6_add_28 rfl 0 rfl ?_
    refine J_get h inX6 rfl 0 1 (by decide) rfl rfl nf_X6_15 dX6_add_29 ?_
    refine J_aload_n h (i := 0) dX6_add_32 rfl 0 rfl ?_
    refine J_get h inX6 rfl 0 3 (by decide) rfl rfl nf_X6_21 dX6_add_33 ?_
    refine J_iload_n h (i := 2) dX6_add_36 rfl 2 rfl ?_
    refine N_iast h (ws' := [(v0, .inr (6, [.ref v1, .ref v2, .ref v3, .int (nI sn)])), (v1, .inl (cI, 6, .inl (upd (nA kx) sn (nI p0)))), (v2, .inl (cI, 6, .inl (upd (nA kw) sn (nI p1)))), (v3, .inl (cI, 6, .inl (nA ke)))]) 2 rfl (by decide) (by omega) dX6_add_37 rfl ?_
    refine J_aload_n h (i := 0) dX6_add_38 rfl 0 rfl ?_
    refine J_get h inX6 rfl 0 2 (by decide) rfl rfl nf_X6_18 dX6_add_39 ?_
    refine J_aload_n h (i := 0) dX6_add_42 rfl 0 rfl ?_
    refine J_get h inX6 rfl 0 3 (by decide) rfl rfl nf_X6_21 dX6_add_43 ?_
    refine J_iload_n h (i := 3) dX6_add_46 rfl 3 rfl ?_
    refine N_iast h (ws' := [(v0, .inr (6, [.ref v1, .ref v2, .ref v3, .int (nI sn)])), (v1, .inl (cI, 6, .inl (upd (nA kx) sn (nI p0)))), (v2, .inl (cI, 6, .inl (upd (nA kw) sn (nI p1)))), (v3, .inl (cI, 6, .inl (upd (nA ke) sn (nI p2))))]) 3 rfl (by decide) (by omega) dX6_add_47 rfl ?_
    refine J_eqw (ws' := [(v0, .inr (6, [.ref v1, .ref v2, .ref v3, .int (nI sn)])), (v1, .inl (cI, 6, .inl (nA (va_up kx sn p0)))), (v2, .inl (cI, 6, .inl (nA (va_up kw sn p1)))), (v3, .inl (cI, 6, .inl (nA (va_up ke sn p2))))]) (by rw [upd_nA, upd_nA, upd_nA]) ?_
    refine J_aload_n h (i := 0) dX6_add_48 rfl 0 rfl ?_
    refine J_dup h dX6_add_49 rfl ?_
    refine J_get h inX6 rfl 0 3 (by decide) rfl rfl nf_X6_21 dX6_add_50 ?_
    refine J_iconst h (v := nI 1) dX6_add_53 (by decide) ?_
    refine N_iadd h dX6_add_54 ?_
    refine J_put h (ws' := [(v0, .inr (6, [.ref v1, .ref v2, .ref v3, .int (nI (sn + 1))])), (v1, .inl (cI, 6, .inl (nA (va_up kx sn p0)))), (v2, .inl (cI, 6, .inl (nA (va_up kw sn p1)))), (v3, .inl (cI, 6, .inl (nA (va_up ke sn p2))))]) inX6 tyX6 tyX6_ok nmX6 rfl 0 3 (by decide) rfl nf_X6_21 rfl rfl rfl rfl (Nat.le_of_ble_eq_true rfl) dX6_add_55 rfl ?_
    refine J_iconst h (v := nI 1) dX6_add_58 (by decide) ?_
    exact hR (nI 1) (va_up kx sn p0, va_up kw sn p1, va_up ke sn p2, sn + 1) (Or.inl ⟨rfl, (by (try dsimp only); first | assumption | omega | rfl), (by first | rfl | ((try dsimp only); first | assumption | omega | rfl)), (by first | rfl | ((try dsimp only); first | assumption | omega | rfl)), (by first | rfl | ((try dsimp only); first | assumption | omega | rfl)), (by first | rfl | ((try dsimp only); first | assumption | omega | rfl)), trivial⟩) 59 _ dX6_add_59
  · skip
    refine J_iconst h (v := nI 0) dX6_add_16 (by decide) ?_
    exact hR (nI 0) (kx, kw, ke, sn) (Or.inr (⟨rfl, (by (try dsimp only); first | assumption | omega | rfl), (by first | rfl | ((try dsimp only); first | assumption | omega | rfl)), (by first | rfl | ((try dsimp only); first | assumption | omega | rfl)), (by first | rfl | ((try dsimp only); first | assumption | omega | rfl)), (by first | rfl | ((try dsimp only); first | assumption | omega | rfl)), trivial⟩)) 17 _ dX6_add_17
theorem c_X6_add (l : Launch) (D : va_G) (cI cE : ClassId) (v0 : Nat) (v1 : Nat) (v2 : Nat) (v3 : Nat) (kx : Nat → Nat) (kw : Nat → Nat) (ke : Nat → Nat) (sn : Nat) (p0 : Nat) (p1 : Nat) (p2 : Nat) (hsn : sn ≤ 6) : Ci l D cI cE yX6_add cX6_add 4 (some .boolean) 0 0 0 [.ref v0, .int (nI p0), .int (nI p1), .int (nI p2)] [(v0, .inr (6, [.ref v1, .ref v2, .ref v3, .int (nI sn)])), (v1, .inl (cI, 6, .inl (nA kx))), (v2, .inl (cI, 6, .inl (nA kw))), (v3, .inl (cI, 6, .inl (nA ke)))] (fun (r : Int32) (u : (Nat → Nat) × (Nat → Nat) × (Nat → Nat) × (Nat)) => ((nI 1 = r) ∧ (sn < 6) ∧ ((va_up kx sn p0) = u.1) ∧ ((va_up kw sn p1) = u.2.1) ∧ ((va_up ke sn p2) = u.2.2.1) ∧ ((sn + 1) = u.2.2.2) ∧ (True)) ∨ ((nI 0 = r) ∧ (sn = 6) ∧ ((kx) = u.1) ∧ ((kw) = u.2.1) ∧ ((ke) = u.2.2.1) ∧ ((sn) = u.2.2.2) ∧ (True))) (fun (u : (Nat → Nat) × (Nat → Nat) × (Nat → Nat) × (Nat)) => ([(v0, .inr (6, [.ref v1, .ref v2, .ref v3, .int (nI u.2.2.2)])), (v1, .inl (cI, 6, .inl (nA u.1))), (v2, .inl (cI, 6, .inl (nA u.2.1))), (v3, .inl (cI, 6, .inl (nA u.2.2.1)))] : va_W)) :=
  Ci.of (by decide) (Nat.le_of_ble_eq_true rfl) (fun r u hp => by rcases hp with ⟨hp, _⟩ | ⟨hp, _⟩ <;> (rw [← hp]; rfl)) (fun X h hR => w_X6_add X h v0 v1 v2 v3 kx kw ke sn p0 p1 p2 hsn hR)
theorem yv_X6_add : YV yX6_add cX6_add 4 (some .boolean) 3 := ⟨no_X6_add, nv_X6_add, ni_X6, nk_X6_add, by decide +kernel⟩
set_option maxRecDepth 100000 in
set_option maxHeartbeats 4000000 in
theorem w_X6_allHold_2 (X : Cx) {cI cE : ClassId} (h : Ok X cX6_allHold RX6 4 cI cE 3 0 0) (v0 : Nat) (v1 : Nat) (v2 : Nat) (v3 : Nat) (kx : Nat → Nat) (kw : Nat → Nat) (ke : Nat → Nat) (sn : Nat) (a0 : Nat) (a1 : Nat) (a2 : Nat) (th : Nat → Int32) (ow : Nat → Int32) (co : Nat) (ro : Nat) (sl : Int32) (d0 : Nat) (d1 : Nat) (d2 : Nat) (ce : Nat → Int32) (se : Nat → Int32) (len : Int32) (en : Int32) (hrc : ro * co ≤ 48) (hco : co ≤ 6) (hro : ro ≤ 8) (hsn : sn ≤ 6) (hk : ∀ i, i < sn → kx i < co ∧ kw i ≤ 20 ∧ ke i ≤ 99) (hR : ∀ (r : Int32) (u : (Nat → Int32) × (Nat → Int32) × (Int32) × (Int32)), ((nI 1 = r) ∧ (∀ i, i < sn → ren th co ro 0 (kx i) (kw i) = ke i) ∧ (True)) ∨ ((nI 0 = r) ∧ (¬ (∀ i, i < sn → ren th co ro 0 (kx i) (kw i) = ke i)) ∧ (True)) → RetI X cX6_allHold 4 0 0 r [(v0, .inr (6, [.ref v1, .ref v2, .ref v3, .int (nI sn)])), (v1, .inl (cI, 6, .inl (nA kx))), (v2, .inl (cI, 6, .inl (nA kw))), (v3, .inl (cI, 6, .inl (nA ke))), (a0, .inr (0, [.ref a1, .ref a2, .int (nI co), .int (nI ro), .int sl])), (a1, .inl (cI, 48, .inl th)), (a2, .inl (cI, 48, .inl ow)), (d0, .inr (3, [.ref d1, .ref d2, .int u.2.2.1, .int u.2.2.2])), (d1, .inl (cI, 8, .inl u.1)), (d2, .inl (cI, 8, .inl u.2.1))]) : ∀ (n_2 : Nat) (i : Nat) (ce1 : Nat → Int32) (se1 : Nat → Int32) (ln1 : Int32) (en1 : Int32), (i ≤ sn) → (∀ j, j < i → ren th co ro 0 (kx j) (kw j) = ke j) → sn - i < n_2 → J X 4 0 0 2 [(0, .ref v0), (1, .ref a0), (2, .ref d0), (3, .int (nI i))] [] [(v0, .inr (6, [.ref v1, .ref v2, .ref v3, .int (nI sn)])), (v1, .inl (cI, 6, .inl (nA kx))), (v2, .inl (cI, 6, .inl (nA kw))), (v3, .inl (cI, 6, .inl (nA ke))), (a0, .inr (0, [.ref a1, .ref a2, .int (nI co), .int (nI ro), .int sl])), (a1, .inl (cI, 48, .inl th)), (a2, .inl (cI, 48, .inl ow)), (d0, .inr (3, [.ref d1, .ref d2, .int ln1, .int en1])), (d1, .inl (cI, 8, .inl ce1)), (d2, .inl (cI, 8, .inl se1))] := by
  intro n_2
  induction n_2 with
  | zero => intro i ce1 se1 ln1 en1 hi hah hn_; exact absurd hn_ (Nat.not_lt_zero _)
  | succ n_2 ih_2 =>
    intro i ce1 se1 ln1 en1 hi hah hn_2
    refine J_iload_n h (i := 3) dX6_allHold_2 rfl 3 rfl ?_
    refine J_aload_n h (i := 0) dX6_allHold_3 rfl 0 rfl ?_
    refine J_get h inX6 rfl 0 3 (by decide) rfl rfl nf_X6_21 dX6_allHold_4 ?_
    refine N_icmp_ge h 55 dX6_allHold_7 (by decide) (by omega) (by omega) (fun c_7 => ?_) (fun c_7 => ?_)
    · skip
      refine J_iconst h (v := nI 1) dX6_allHold_55 (by decide) ?_
      exact hR (nI 1) (ce1, se1, ln1, en1) (Or.inl ⟨rfl, (by intro j hj; exact hah j (by omega)), trivial⟩) 56 _ dX6_allHold_56
    · skip
      refine J_iload_n h (i := 3) dX6_allHold_10 rfl 3 rfl ?_
      refine J_bipush h (v := nI 6) dX6_allHold_11 (by decide) ?_
      refine N_icmp_ge h 55 dX6_allHold_13 (by decide) (by omega) (by omega) (fun c_13 => absurd c_13 (by omega)) (fun c_13 => ?_)
      obtain ⟨hk1, hk2, hk3⟩ := hk i (by omega)
      have hrn := ren_lt th (ro := ro) (hh := 0) hrc hk1 hk2
      refine J_aload_n h (i := 2) dX6_allHold_16 rfl 2 rfl ?_
      refine J_aload_n h (i := 1) dX6_allHold_17 rfl 1 rfl ?_
      refine J_aload_n h (i := 0) dX6_allHold_18 rfl 0 rfl ?_
      refine J_get h inX6 rfl 0 0 (by decide) rfl rfl nf_X6_9 dX6_allHold_19 ?_
      refine J_iload_n h (i := 3) dX6_allHold_22 rfl 3 rfl ?_
      refine N_iald h 1 rfl (by decide) (by omega) dX6_allHold_23 ?_
      refine J_eqs (st' := [.int (nI (kx i)), .ref a0, .ref d0]) (by rfl) ?_
      refine J_aload_n h (i := 0) dX6_allHold_24 rfl 0 rfl ?_
      refine J_get h inX6 rfl 0 1 (by decide) rfl rfl nf_X6_15 dX6_allHold_25 ?_
      refine J_iload_n h (i := 3) dX6_allHold_28 rfl 3 rfl ?_
      refine N_iald h 2 rfl (by decide) (by omega) dX6_allHold_29 ?_
      refine J_eqs (st' := [.int (nI (kw i)), .int (nI (kx i)), .ref a0, .ref d0]) (by rfl) ?_
      refine J_iconst h (v := nI 0) dX6_allHold_30 (by decide) ?_
      refine K_vv h (c_X3_run (xl X) (xD X) cI cE d0 d1 d2 ce1 se1 ln1 en1 a0 a1 a2 th ow co ro sl (kx i) (kw i) 0 (by first | exact hrc |  assumption | omega | rfl) (by first | exact hco |  assumption | omega | rfl) (by first | exact hro |  assumption | omega | rfl) (by first | assumption | omega | rfl) (by first | assumption | omega | rfl) (by first | assumption | omega | rfl)) yv_X3_run nm_X6_25 (by decide) (by decide) rfl [7, 8, 9, 4, 5, 6] rfl rfl 0 rfl rfl rfl (fun _ => rfl) rfl (Nat.le_of_ble_eq_true rfl) (Nat.le_refl _) (Nat.le_refl _) dX6_allHold_31 (fun u_31 p_31 => ?_)
      obtain ⟨ce2_31, se2_31⟩ := u_31
      try dsimp only at p_31
      obtain ⟨f0_31, f1_31, -⟩ := p_31
      show J X 4 0 0 34 [(0, .ref v0), (1, .ref a0), (2, .ref d0), (3, .int (nI i))] [] [(v0, .inr (6, [.ref v1, .ref v2, .ref v3, .int (nI sn)])), (v1, .inl (cI, 6, .inl (nA kx))), (v2, .inl (cI, 6, .inl (nA kw))), (v3, .inl (cI, 6, .inl (nA ke))), (a0, .inr (0, [.ref a1, .ref a2, .int (nI co), .int (nI ro), .int sl])), (a1, .inl (cI, 48, .inl th)), (a2, .inl (cI, 48, .inl ow)), (d0, .inr (3, [.ref d1, .ref d2, .int (nI (rln th co ro 0 (kx i) (kw i))), .int (nI (ren th co ro 0 (kx i) (kw i)))])), (d1, .inl (cI, 8, .inl ce2_31)), (d2, .inl (cI, 8, .inl se2_31))]
      refine J_aload_n h (i := 2) dX6_allHold_34 rfl 2 rfl ?_
      refine J_get h inX3 rfl 7 3 (by decide) rfl rfl nf_X6_31 dX6_allHold_35 ?_
      refine J_aload_n h (i := 0) dX6_allHold_38 rfl 0 rfl ?_
      refine J_get h inX6 rfl 0 2 (by decide) rfl rfl nf_X6_18 dX6_allHold_39 ?_
      refine J_iload_n h (i := 3) dX6_allHold_42 rfl 3 rfl ?_
      refine N_iald h 3 rfl (by decide) (by omega) dX6_allHold_43 ?_
      refine J_eqs (st' := [.int (nI (ke i)), .int (nI (ren th co ro 0 (kx i) (kw i)))]) (by rfl) ?_
      refine N_icmp_eq h 49 dX6_allHold_44 (by decide) (by omega) (by omega) (fun c_44 => ?_) (fun c_44 => ?_)
      · skip
        refine J_iinc h (v := nI (i + 1)) (lv' := [(3, .int (nI (i + 1))), (0, .ref v0), (1, .ref a0), (2, .ref d0)]) dX6_allHold_49 3 rfl (inc_ok _ 1) (by decide) rfl ?_
        refine J_goto h 2 dX6_allHold_52 (by decide) ?_
        refine J.loc [1, 2, 3, 0] (lv' := [(0, .ref v0), (1, .ref a0), (2, .ref d0), (3, .int (nI (i + 1)))]) rfl ?_
        exact ih_2 (i + 1) ce2_31 se2_31 (nI (rln th co ro 0 (kx i) (kw i))) (nI (ren th co ro 0 (kx i) (kw i))) (by first | exact hi |  assumption | omega | rfl) (by exact lt_s hah c_44) (by omega)
      · skip
        refine J_iconst h (v := nI 0) dX6_allHold_47 (by decide) ?_
        exact hR (nI 0) (ce2_31, se2_31, nI (rln th co ro 0 (kx i) (kw i)), nI (ren th co ro 0 (kx i) (kw i))) (Or.inr (⟨rfl, (by intro q; exact c_44 (q i (by omega))), trivial⟩)) 48 _ dX6_allHold_48
set_option maxRecDepth 100000 in
set_option maxHeartbeats 4000000 in
theorem w_X6_allHold (X : Cx) {cI cE : ClassId} (h : Ok X cX6_allHold RX6 4 cI cE 3 0 0) (v0 : Nat) (v1 : Nat) (v2 : Nat) (v3 : Nat) (kx : Nat → Nat) (kw : Nat → Nat) (ke : Nat → Nat) (sn : Nat) (a0 : Nat) (a1 : Nat) (a2 : Nat) (th : Nat → Int32) (ow : Nat → Int32) (co : Nat) (ro : Nat) (sl : Int32) (d0 : Nat) (d1 : Nat) (d2 : Nat) (ce : Nat → Int32) (se : Nat → Int32) (len : Int32) (en : Int32) (hrc : ro * co ≤ 48) (hco : co ≤ 6) (hro : ro ≤ 8) (hsn : sn ≤ 6) (hk : ∀ i, i < sn → kx i < co ∧ kw i ≤ 20 ∧ ke i ≤ 99) (hR : ∀ (r : Int32) (u : (Nat → Int32) × (Nat → Int32) × (Int32) × (Int32)), ((nI 1 = r) ∧ (∀ i, i < sn → ren th co ro 0 (kx i) (kw i) = ke i) ∧ (True)) ∨ ((nI 0 = r) ∧ (¬ (∀ i, i < sn → ren th co ro 0 (kx i) (kw i) = ke i)) ∧ (True)) → RetI X cX6_allHold 4 0 0 r [(v0, .inr (6, [.ref v1, .ref v2, .ref v3, .int (nI sn)])), (v1, .inl (cI, 6, .inl (nA kx))), (v2, .inl (cI, 6, .inl (nA kw))), (v3, .inl (cI, 6, .inl (nA ke))), (a0, .inr (0, [.ref a1, .ref a2, .int (nI co), .int (nI ro), .int sl])), (a1, .inl (cI, 48, .inl th)), (a2, .inl (cI, 48, .inl ow)), (d0, .inr (3, [.ref d1, .ref d2, .int u.2.2.1, .int u.2.2.2])), (d1, .inl (cI, 8, .inl u.1)), (d2, .inl (cI, 8, .inl u.2.1))]) : J X 4 0 0 0 [(0, .ref v0), (1, .ref a0), (2, .ref d0)] [] [(v0, .inr (6, [.ref v1, .ref v2, .ref v3, .int (nI sn)])), (v1, .inl (cI, 6, .inl (nA kx))), (v2, .inl (cI, 6, .inl (nA kw))), (v3, .inl (cI, 6, .inl (nA ke))), (a0, .inr (0, [.ref a1, .ref a2, .int (nI co), .int (nI ro), .int sl])), (a1, .inl (cI, 48, .inl th)), (a2, .inl (cI, 48, .inl ow)), (d0, .inr (3, [.ref d1, .ref d2, .int len, .int en])), (d1, .inl (cI, 8, .inl ce)), (d2, .inl (cI, 8, .inl se))] := by
  refine J_iconst h (v := nI 0) dX6_allHold_0 (by decide) ?_
  refine J_istore_n h (i := 3) (lv' := [(3, .int (nI 0)), (0, .ref v0), (1, .ref a0), (2, .ref d0)]) dX6_allHold_1 rfl (by decide) rfl ?_
  refine J.loc [1, 2, 3, 0] (lv' := [(0, .ref v0), (1, .ref a0), (2, .ref d0), (3, .int (nI 0))]) rfl ?_
  exact w_X6_allHold_2 X h v0 v1 v2 v3 kx kw ke sn a0 a1 a2 th ow co ro sl d0 d1 d2 ce se len en hrc hco hro hsn hk hR  (sn - 0 + 1) 0 ce se len en (by first | assumption | omega | rfl) (by intro j hj; omega) (by omega)
theorem c_X6_allHold (l : Launch) (D : va_G) (cI cE : ClassId) (v0 : Nat) (v1 : Nat) (v2 : Nat) (v3 : Nat) (kx : Nat → Nat) (kw : Nat → Nat) (ke : Nat → Nat) (sn : Nat) (a0 : Nat) (a1 : Nat) (a2 : Nat) (th : Nat → Int32) (ow : Nat → Int32) (co : Nat) (ro : Nat) (sl : Int32) (d0 : Nat) (d1 : Nat) (d2 : Nat) (ce : Nat → Int32) (se : Nat → Int32) (len : Int32) (en : Int32) (hrc : ro * co ≤ 48) (hco : co ≤ 6) (hro : ro ≤ 8) (hsn : sn ≤ 6) (hk : ∀ i, i < sn → kx i < co ∧ kw i ≤ 20 ∧ ke i ≤ 99) : Ci l D cI cE yX6_allHold cX6_allHold 4 (some .boolean) 3 0 0 [.ref v0, .ref a0, .ref d0] [(v0, .inr (6, [.ref v1, .ref v2, .ref v3, .int (nI sn)])), (v1, .inl (cI, 6, .inl (nA kx))), (v2, .inl (cI, 6, .inl (nA kw))), (v3, .inl (cI, 6, .inl (nA ke))), (a0, .inr (0, [.ref a1, .ref a2, .int (nI co), .int (nI ro), .int sl])), (a1, .inl (cI, 48, .inl th)), (a2, .inl (cI, 48, .inl ow)), (d0, .inr (3, [.ref d1, .ref d2, .int len, .int en])), (d1, .inl (cI, 8, .inl ce)), (d2, .inl (cI, 8, .inl se))] (fun (r : Int32) (u : (Nat → Int32) × (Nat → Int32) × (Int32) × (Int32)) => ((nI 1 = r) ∧ (∀ i, i < sn → ren th co ro 0 (kx i) (kw i) = ke i) ∧ (True)) ∨ ((nI 0 = r) ∧ (¬ (∀ i, i < sn → ren th co ro 0 (kx i) (kw i) = ke i)) ∧ (True))) (fun (u : (Nat → Int32) × (Nat → Int32) × (Int32) × (Int32)) => ([(v0, .inr (6, [.ref v1, .ref v2, .ref v3, .int (nI sn)])), (v1, .inl (cI, 6, .inl (nA kx))), (v2, .inl (cI, 6, .inl (nA kw))), (v3, .inl (cI, 6, .inl (nA ke))), (a0, .inr (0, [.ref a1, .ref a2, .int (nI co), .int (nI ro), .int sl])), (a1, .inl (cI, 48, .inl th)), (a2, .inl (cI, 48, .inl ow)), (d0, .inr (3, [.ref d1, .ref d2, .int u.2.2.1, .int u.2.2.2])), (d1, .inl (cI, 8, .inl u.1)), (d2, .inl (cI, 8, .inl u.2.1))] : va_W)) :=
  Ci.of (by decide) (Nat.le_of_ble_eq_true rfl) (fun r u hp => by rcases hp with ⟨hp, _⟩ | ⟨hp, _⟩ <;> (rw [← hp]; rfl)) (fun X h hR => w_X6_allHold X h v0 v1 v2 v3 kx kw ke sn a0 a1 a2 th ow co ro sl d0 d1 d2 ce se len en hrc hco hro hsn hk hR)
theorem yv_X6_allHold : YV yX6_allHold cX6_allHold 4 (some .boolean) 2 := ⟨no_X6_allHold, nv_X6_allHold, ni_X6, nk_X6_allHold, by decide +kernel⟩
