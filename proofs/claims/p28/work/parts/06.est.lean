set_option maxRecDepth 100000 in
set_option maxHeartbeats 4000000 in
theorem w_X0_clear (X : Cx) {cI cE : ClassId} (h : Ok X cX0_clear RX0 1 cI cE 0 0 0) (a0 : Nat) (a1 : Nat) (a2 : Nat) (th : Nat → Int32) (ow : Nat → Int32) (co : Int32) (ro : Int32) (sl : Int32)  (hR : ∀ (u : Unit), ((True)) → RetV X cX0_clear 1 0 0 [(a0, .inr (0, [.ref a1, .ref a2, .int (nI 0), .int (nI 0), .int (nI 0)])), (a1, .inl (cI, 48, .inl th)), (a2, .inl (cI, 48, .inl ow))]) : J X 1 0 0 0 [(0, .ref a0)] [] [(a0, .inr (0, [.ref a1, .ref a2, .int co, .int ro, .int sl])), (a1, .inl (cI, 48, .inl th)), (a2, .inl (cI, 48, .inl ow))] := by
  refine J_aload_n h (i := 0) dX0_clear_0 rfl 0 rfl ?_
  refine J_iconst h (v := nI 0) dX0_clear_1 (by decide) ?_
  refine J_put h (ws' := [(a0, .inr (0, [.ref a1, .ref a2, .int (nI 0), .int ro, .int sl])), (a1, .inl (cI, 48, .inl th)), (a2, .inl (cI, 48, .inl ow))]) inX0 tyX0 tyX0_ok nmX0 rfl 0 2 (by decide) rfl nf_X0_18 rfl rfl rfl rfl (Nat.le_of_ble_eq_true rfl) dX0_clear_2 rfl ?_
  refine J_aload_n h (i := 0) dX0_clear_5 rfl 0 rfl ?_
  refine J_iconst h (v := nI 0) dX0_clear_6 (by decide) ?_
  refine J_put h (ws' := [(a0, .inr (0, [.ref a1, .ref a2, .int (nI 0), .int (nI 0), .int sl])), (a1, .inl (cI, 48, .inl th)), (a2, .inl (cI, 48, .inl ow))]) inX0 tyX0 tyX0_ok nmX0 rfl 0 3 (by decide) rfl nf_X0_22 rfl rfl rfl rfl (Nat.le_of_ble_eq_true rfl) dX0_clear_7 rfl ?_
  refine J_aload_n h (i := 0) dX0_clear_10 rfl 0 rfl ?_
  refine J_iconst h (v := nI 0) dX0_clear_11 (by decide) ?_
  refine J_put h (ws' := [(a0, .inr (0, [.ref a1, .ref a2, .int (nI 0), .int (nI 0), .int (nI 0)])), (a1, .inl (cI, 48, .inl th)), (a2, .inl (cI, 48, .inl ow))]) inX0 tyX0 tyX0_ok nmX0 rfl 0 4 (by decide) rfl nf_X0_25 rfl rfl rfl rfl (Nat.le_of_ble_eq_true rfl) dX0_clear_12 rfl ?_
  exact hR () (trivial) 15 _ dX0_clear_15
theorem c_X0_clear (l : Launch) (D : va_G) (cI cE : ClassId) (a0 : Nat) (a1 : Nat) (a2 : Nat) (th : Nat → Int32) (ow : Nat → Int32) (co : Int32) (ro : Int32) (sl : Int32)  : Cv l D cI cE yX0_clear cX0_clear 1 none 0 0 0 [.ref a0] [(a0, .inr (0, [.ref a1, .ref a2, .int co, .int ro, .int sl])), (a1, .inl (cI, 48, .inl th)), (a2, .inl (cI, 48, .inl ow))] (fun (u : Unit) => ((True))) (fun (u : Unit) => ([(a0, .inr (0, [.ref a1, .ref a2, .int (nI 0), .int (nI 0), .int (nI 0)])), (a1, .inl (cI, 48, .inl th)), (a2, .inl (cI, 48, .inl ow))] : va_W)) :=
  Cv.of (by decide) (Nat.le_of_ble_eq_true rfl) (fun X h hR _ => w_X0_clear X h a0 a1 a2 th ow co ro sl hR)
theorem yv_X0_clear : YV yX0_clear cX0_clear 1 none 0 := ⟨no_X0_clear, nv_X0_clear, ni_X0, nk_X0_clear, by decide +kernel⟩
set_option maxRecDepth 100000 in
set_option maxHeartbeats 4000000 in
theorem w_X0_copyFrom_2 (X : Cx) {cI cE : ClassId} (h : Ok X cX0_copyFrom RX0 3 cI cE 0 0 0) (a0 : Nat) (a1 : Nat) (a2 : Nat) (th : Nat → Int32) (ow : Nat → Int32) (co : Int32) (ro : Int32) (sl : Int32) (b0 : Nat) (b1 : Nat) (b2 : Nat) (th2 : Nat → Int32) (ow2 : Nat → Int32) (co2 : Int32) (ro2 : Int32) (sl2 : Int32)  (hR : ∀ (u : Unit), ((True)) → RetV X cX0_copyFrom 3 0 0 [(a0, .inr (0, [.ref a1, .ref a2, .int co2, .int ro2, .int sl2])), (a1, .inl (cI, 48, .inl th2)), (a2, .inl (cI, 48, .inl ow2)), (b0, .inr (0, [.ref b1, .ref b2, .int co2, .int ro2, .int sl2])), (b1, .inl (cI, 48, .inl th2)), (b2, .inl (cI, 48, .inl ow2))]) : ∀ (n_2 : Nat) (i : Nat) (t1 : Nat → Int32) (o1 : Nat → Int32), (i ≤ 48) → (∀ j, j < i → t1 j = th2 j) → (∀ j, j < i → o1 j = ow2 j) → 48 - i < n_2 → J X 3 0 0 2 [(0, .ref a0), (1, .ref b0), (2, .int (nI i))] [] [(a0, .inr (0, [.ref a1, .ref a2, .int co, .int ro, .int sl])), (a1, .inl (cI, 48, .inl t1)), (a2, .inl (cI, 48, .inl o1)), (b0, .inr (0, [.ref b1, .ref b2, .int co2, .int ro2, .int sl2])), (b1, .inl (cI, 48, .inl th2)), (b2, .inl (cI, 48, .inl ow2))] := by
  intro n_2
  induction n_2 with
  | zero => intro i t1 o1 hi h1 h2 hn_; exact absurd hn_ (Nat.not_lt_zero _)
  | succ n_2 ih_2 =>
    intro i t1 o1 hi h1 h2 hn_2
    refine J_iload_n h (i := 2) dX0_copyFrom_2 rfl 2 rfl ?_
    refine J_bipush h (v := nI 48) dX0_copyFrom_3 (by decide) ?_
    refine N_icmp_ge h 38 dX0_copyFrom_5 (by decide) (by omega) (by omega) (fun c_5 => ?_) (fun c_5 => ?_)
    · skip
      refine J_arr (g := th2) (ws' := [(a0, .inr (0, [.ref a1, .ref a2, .int co, .int ro, .int sl])), (a1, .inl (cI, 48, .inl th2)), (a2, .inl (cI, 48, .inl o1)), (b0, .inr (0, [.ref b1, .ref b2, .int co2, .int ro2, .int sl2])), (b1, .inl (cI, 48, .inl th2)), (b2, .inl (cI, 48, .inl ow2))]) 1 rfl (by exact fun j hj => h1 j (by omega)) rfl ?_
      refine J_arr (g := ow2) (ws' := [(a0, .inr (0, [.ref a1, .ref a2, .int co, .int ro, .int sl])), (a1, .inl (cI, 48, .inl th2)), (a2, .inl (cI, 48, .inl ow2)), (b0, .inr (0, [.ref b1, .ref b2, .int co2, .int ro2, .int sl2])), (b1, .inl (cI, 48, .inl th2)), (b2, .inl (cI, 48, .inl ow2))]) 2 rfl (by exact fun j hj => h2 j (by omega)) rfl ?_
      refine J_aload_n h (i := 0) dX0_copyFrom_38 rfl 0 rfl ?_
      refine J_aload_n h (i := 1) dX0_copyFrom_39 rfl 1 rfl ?_
      refine J_get h inX0 rfl 3 2 (by decide) rfl rfl nf_X0_18 dX0_copyFrom_40 ?_
      refine J_put h (ws' := [(a0, .inr (0, [.ref a1, .ref a2, .int co2, .int ro, .int sl])), (a1, .inl (cI, 48, .inl th2)), (a2, .inl (cI, 48, .inl ow2)), (b0, .inr (0, [.ref b1, .ref b2, .int co2, .int ro2, .int sl2])), (b1, .inl (cI, 48, .inl th2)), (b2, .inl (cI, 48, .inl ow2))]) inX0 tyX0 tyX0_ok nmX0 rfl 0 2 (by decide) rfl nf_X0_18 rfl rfl rfl rfl (Nat.le_of_ble_eq_true rfl) dX0_copyFrom_43 rfl ?_
      refine J_aload_n h (i := 0) dX0_copyFrom_46 rfl 0 rfl ?_
      refine J_aload_n h (i := 1) dX0_copyFrom_47 rfl 1 rfl ?_
      refine J_get h inX0 rfl 3 3 (by decide) rfl rfl nf_X0_22 dX0_copyFrom_48 ?_
      refine J_put h (ws' := [(a0, .inr (0, [.ref a1, .ref a2, .int co2, .int ro2, .int sl])), (a1, .inl (cI, 48, .inl th2)), (a2, .inl (cI, 48, .inl ow2)), (b0, .inr (0, [.ref b1, .ref b2, .int co2, .int ro2, .int sl2])), (b1, .inl (cI, 48, .inl th2)), (b2, .inl (cI, 48, .inl ow2))]) inX0 tyX0 tyX0_ok nmX0 rfl 0 3 (by decide) rfl nf_X0_22 rfl rfl rfl rfl (Nat.le_of_ble_eq_true rfl) dX0_copyFrom_51 rfl ?_
      refine J_aload_n h (i := 0) dX0_copyFrom_54 rfl 0 rfl ?_
      refine J_aload_n h (i := 1) dX0_copyFrom_55 rfl 1 rfl ?_
      refine J_get h inX0 rfl 3 4 (by decide) rfl rfl nf_X0_25 dX0_copyFrom_56 ?_
      refine J_put h (ws' := [(a0, .inr (0, [.ref a1, .ref a2, .int co2, .int ro2, .int sl2])), (a1, .inl (cI, 48, .inl th2)), (a2, .inl (cI, 48, .inl ow2)), (b0, .inr (0, [.ref b1, .ref b2, .int co2, .int ro2, .int sl2])), (b1, .inl (cI, 48, .inl th2)), (b2, .inl (cI, 48, .inl ow2))]) inX0 tyX0 tyX0_ok nmX0 rfl 0 4 (by decide) rfl nf_X0_25 rfl rfl rfl rfl (Nat.le_of_ble_eq_true rfl) dX0_copyFrom_59 rfl ?_
      exact hR () (trivial) 62 _ dX0_copyFrom_62
    · skip
      refine J_aload_n h (i := 0) dX0_copyFrom_8 rfl 0 rfl ?_
      refine J_get h inX0 rfl 0 0 (by decide) rfl rfl nf_X0_9 dX0_copyFrom_9 ?_
      refine J_iload_n h (i := 2) dX0_copyFrom_12 rfl 2 rfl ?_
      refine J_aload_n h (i := 1) dX0_copyFrom_13 rfl 1 rfl ?_
      refine J_get h inX0 rfl 3 0 (by decide) rfl rfl nf_X0_9 dX0_copyFrom_14 ?_
      refine J_iload_n h (i := 2) dX0_copyFrom_17 rfl 2 rfl ?_
      refine N_iald h 4 rfl (by decide) (by omega) dX0_copyFrom_18 ?_
      refine N_iast h (ws' := [(a0, .inr (0, [.ref a1, .ref a2, .int co, .int ro, .int sl])), (a1, .inl (cI, 48, .inl (upd t1 i (th2 i)))), (a2, .inl (cI, 48, .inl o1)), (b0, .inr (0, [.ref b1, .ref b2, .int co2, .int ro2, .int sl2])), (b1, .inl (cI, 48, .inl th2)), (b2, .inl (cI, 48, .inl ow2))]) 1 rfl (by decide) (by omega) dX0_copyFrom_19 rfl ?_
      refine J_aload_n h (i := 0) dX0_copyFrom_20 rfl 0 rfl ?_
      refine J_get h inX0 rfl 0 1 (by decide) rfl rfl nf_X0_15 dX0_copyFrom_21 ?_
      refine J_iload_n h (i := 2) dX0_copyFrom_24 rfl 2 rfl ?_
      refine J_aload_n h (i := 1) dX0_copyFrom_25 rfl 1 rfl ?_
      refine J_get h inX0 rfl 3 1 (by decide) rfl rfl nf_X0_15 dX0_copyFrom_26 ?_
      refine J_iload_n h (i := 2) dX0_copyFrom_29 rfl 2 rfl ?_
      refine N_iald h 5 rfl (by decide) (by omega) dX0_copyFrom_30 ?_
      refine N_iast h (ws' := [(a0, .inr (0, [.ref a1, .ref a2, .int co, .int ro, .int sl])), (a1, .inl (cI, 48, .inl (upd t1 i (th2 i)))), (a2, .inl (cI, 48, .inl (upd o1 i (ow2 i)))), (b0, .inr (0, [.ref b1, .ref b2, .int co2, .int ro2, .int sl2])), (b1, .inl (cI, 48, .inl th2)), (b2, .inl (cI, 48, .inl ow2))]) 2 rfl (by decide) (by omega) dX0_copyFrom_31 rfl ?_
      refine J_iinc h (v := nI (i + 1)) (lv' := [(2, .int (nI (i + 1))), (0, .ref a0), (1, .ref b0)]) dX0_copyFrom_32 2 rfl (inc_ok _ 1) (by decide) rfl ?_
      refine J_goto h 2 dX0_copyFrom_35 (by decide) ?_
      refine J.loc [1, 2, 0] (lv' := [(0, .ref a0), (1, .ref b0), (2, .int (nI (i + 1)))]) rfl ?_
      exact ih_2 (i + 1) (upd t1 i (th2 i)) (upd o1 i (ow2 i)) (by first | exact hi |  assumption | omega | rfl) (by exact upd_ext h1) (by exact upd_ext h2) (by omega)
set_option maxRecDepth 100000 in
set_option maxHeartbeats 4000000 in
theorem w_X0_copyFrom (X : Cx) {cI cE : ClassId} (h : Ok X cX0_copyFrom RX0 3 cI cE 0 0 0) (a0 : Nat) (a1 : Nat) (a2 : Nat) (th : Nat → Int32) (ow : Nat → Int32) (co : Int32) (ro : Int32) (sl : Int32) (b0 : Nat) (b1 : Nat) (b2 : Nat) (th2 : Nat → Int32) (ow2 : Nat → Int32) (co2 : Int32) (ro2 : Int32) (sl2 : Int32)  (hR : ∀ (u : Unit), ((True)) → RetV X cX0_copyFrom 3 0 0 [(a0, .inr (0, [.ref a1, .ref a2, .int co2, .int ro2, .int sl2])), (a1, .inl (cI, 48, .inl th2)), (a2, .inl (cI, 48, .inl ow2)), (b0, .inr (0, [.ref b1, .ref b2, .int co2, .int ro2, .int sl2])), (b1, .inl (cI, 48, .inl th2)), (b2, .inl (cI, 48, .inl ow2))]) : J X 3 0 0 0 [(0, .ref a0), (1, .ref b0)] [] [(a0, .inr (0, [.ref a1, .ref a2, .int co, .int ro, .int sl])), (a1, .inl (cI, 48, .inl th)), (a2, .inl (cI, 48, .inl ow)), (b0, .inr (0, [.ref b1, .ref b2, .int co2, .int ro2, .int sl2])), (b1, .inl (cI, 48, .inl th2)), (b2, .inl (cI, 48, .inl ow2))] := by
  refine J_iconst h (v := nI 0) dX0_copyFrom_0 (by decide) ?_
  refine J_istore_n h (i := 2) (lv' := [(2, .int (nI 0)), (0, .ref a0), (1, .ref b0)]) dX0_copyFrom_1 rfl (by decide) rfl ?_
  refine J.loc [1, 2, 0] (lv' := [(0, .ref a0), (1, .ref b0), (2, .int (nI 0))]) rfl ?_
  exact w_X0_copyFrom_2 X h a0 a1 a2 th ow co ro sl b0 b1 b2 th2 ow2 co2 ro2 sl2 hR  (48 - 0 + 1) 0 th ow (by first | assumption | omega | rfl) (by intro j hj; omega) (by intro j hj; omega) (by omega)
theorem c_X0_copyFrom (l : Launch) (D : va_G) (cI cE : ClassId) (a0 : Nat) (a1 : Nat) (a2 : Nat) (th : Nat → Int32) (ow : Nat → Int32) (co : Int32) (ro : Int32) (sl : Int32) (b0 : Nat) (b1 : Nat) (b2 : Nat) (th2 : Nat → Int32) (ow2 : Nat → Int32) (co2 : Int32) (ro2 : Int32) (sl2 : Int32)  : Cv l D cI cE yX0_copyFrom cX0_copyFrom 3 none 0 0 0 [.ref a0, .ref b0] [(a0, .inr (0, [.ref a1, .ref a2, .int co, .int ro, .int sl])), (a1, .inl (cI, 48, .inl th)), (a2, .inl (cI, 48, .inl ow)), (b0, .inr (0, [.ref b1, .ref b2, .int co2, .int ro2, .int sl2])), (b1, .inl (cI, 48, .inl th2)), (b2, .inl (cI, 48, .inl ow2))] (fun (u : Unit) => ((True))) (fun (u : Unit) => ([(a0, .inr (0, [.ref a1, .ref a2, .int co2, .int ro2, .int sl2])), (a1, .inl (cI, 48, .inl th2)), (a2, .inl (cI, 48, .inl ow2)), (b0, .inr (0, [.ref b1, .ref b2, .int co2, .int ro2, .int sl2])), (b1, .inl (cI, 48, .inl th2)), (b2, .inl (cI, 48, .inl ow2))] : va_W)) :=
  Cv.of (by decide) (Nat.le_of_ble_eq_true rfl) (fun X h hR _ => w_X0_copyFrom X h a0 a1 a2 th ow co ro sl b0 b1 b2 th2 ow2 co2 ro2 sl2 hR)
theorem yv_X0_copyFrom : YV yX0_copyFrom cX0_copyFrom 3 none 1 := ⟨no_X0_copyFrom, nv_X0_copyFrom, ni_X0, nk_X0_copyFrom, by decide +kernel⟩
set_option maxRecDepth 100000 in
set_option maxHeartbeats 4000000 in
theorem w_X0_cells (X : Cx) {cI cE : ClassId} (h : Ok X cX0_cells RX0 1 cI cE 0 0 0) (a0 : Nat) (a1 : Nat) (a2 : Nat) (th : Nat → Int32) (ow : Nat → Int32) (co : Nat) (ro : Nat) (sl : Int32)  (hR : ∀ (r : Int32) (u : Unit), ((nI (ro * co) = r) ∧ (True)) → RetI X cX0_cells 1 0 0 r [(a0, .inr (0, [.ref a1, .ref a2, .int (nI co), .int (nI ro), .int sl])), (a1, .inl (cI, 48, .inl th)), (a2, .inl (cI, 48, .inl ow))]) : J X 1 0 0 0 [(0, .ref a0)] [] [(a0, .inr (0, [.ref a1, .ref a2, .int (nI co), .int (nI ro), .int sl])), (a1, .inl (cI, 48, .inl th)), (a2, .inl (cI, 48, .inl ow))] := by
  refine J_aload_n h (i := 0) dX0_cells_0 rfl 0 rfl ?_
  refine J_get h inX0 rfl 0 3 (by decide) rfl rfl nf_X0_22 dX0_cells_1 ?_
  refine J_aload_n h (i := 0) dX0_cells_4 rfl 0 rfl ?_
  refine J_get h inX0 rfl 0 2 (by decide) rfl rfl nf_X0_18 dX0_cells_5 ?_
  refine N_imul h dX0_cells_8 ?_
  exact hR (nI (ro * co)) () (⟨rfl, trivial⟩) 9 _ dX0_cells_9
theorem c_X0_cells (l : Launch) (D : va_G) (cI cE : ClassId) (a0 : Nat) (a1 : Nat) (a2 : Nat) (th : Nat → Int32) (ow : Nat → Int32) (co : Nat) (ro : Nat) (sl : Int32)  : Ci l D cI cE yX0_cells cX0_cells 1 (some .int) 0 0 0 [.ref a0] [(a0, .inr (0, [.ref a1, .ref a2, .int (nI co), .int (nI ro), .int sl])), (a1, .inl (cI, 48, .inl th)), (a2, .inl (cI, 48, .inl ow))] (fun (r : Int32) (u : Unit) => ((nI (ro * co) = r) ∧ (True))) (fun (u : Unit) => ([(a0, .inr (0, [.ref a1, .ref a2, .int (nI co), .int (nI ro), .int sl])), (a1, .inl (cI, 48, .inl th)), (a2, .inl (cI, 48, .inl ow))] : va_W)) :=
  Ci.of (by decide) (Nat.le_of_ble_eq_true rfl) (fun _ _ _ => rfl) (fun X h hR => w_X0_cells X h a0 a1 a2 th ow co ro sl hR)
theorem yv_X0_cells : YV yX0_cells cX0_cells 1 (some .int) 0 := ⟨no_X0_cells, nv_X0_cells, ni_X0, nk_X0_cells, by decide +kernel⟩
set_option maxRecDepth 100000 in
set_option maxHeartbeats 4000000 in
theorem w_X0_hasCell (X : Cx) {cI cE : ClassId} (h : Ok X cX0_hasCell RX0 2 cI cE 0 0 0) (a0 : Nat) (a1 : Nat) (a2 : Nat) (th : Nat → Int32) (ow : Nat → Int32) (co : Nat) (ro : Nat) (sl : Int32) (p0 : Int32) (hrc : ro * co ≤ 48) (hR : ∀ (r : Int32) (u : Unit), (∃ (j : Nat), (nI 1 = r) ∧ (j < ro * co) ∧ (p0 = nI j) ∧ (True)) ∨ ((nI 0 = r) ∧ (¬ (0 ≤ p0.toInt ∧ p0.toInt < ((ro * co : Nat) : Int))) ∧ (True)) → RetI X cX0_hasCell 2 0 0 r [(a0, .inr (0, [.ref a1, .ref a2, .int (nI co), .int (nI ro), .int sl])), (a1, .inl (cI, 48, .inl th)), (a2, .inl (cI, 48, .inl ow))]) : J X 2 0 0 0 [(0, .ref a0), (1, .int p0)] [] [(a0, .inr (0, [.ref a1, .ref a2, .int (nI co), .int (nI ro), .int sl])), (a1, .inl (cI, 48, .inl th)), (a2, .inl (cI, 48, .inl ow))] := by
  refine J_iload_n h (i := 1) dX0_hasCell_0 rfl 1 rfl ?_
  refine T_if_lt h (A := (p0).toInt) 27 dX0_hasCell_1 (by decide) (rfl) (fun c_1 => ?_) (fun c_1 => ?_)
  · skip
    refine J_iconst h (v := nI 0) dX0_hasCell_27 (by decide) ?_
    exact hR (nI 0) () (by first | (obtain ⟨j, h1, h2⟩ := toNI (x := p0) (n := ro * co) (by omega) (by omega); exact Or.inl ⟨j, rfl, h1, h2, trivial⟩) | exact Or.inr ⟨rfl, by omega, trivial⟩) 28 _ dX0_hasCell_28
  · skip
    refine J_iload_n h (i := 1) dX0_hasCell_4 rfl 1 rfl ?_
    refine J_aload_n h (i := 0) dX0_hasCell_5 rfl 0 rfl ?_
    refine J_get h inX0 rfl 0 3 (by decide) rfl rfl nf_X0_22 dX0_hasCell_6 ?_
    refine J_aload_n h (i := 0) dX0_hasCell_9 rfl 0 rfl ?_
    refine J_get h inX0 rfl 0 2 (by decide) rfl rfl nf_X0_18 dX0_hasCell_10 ?_
    refine N_imul h dX0_hasCell_13 ?_
    refine T_icmp_ge h (A := (p0).toInt) (B := ((ro * co : Nat) : Int)) 27 dX0_hasCell_14 (by decide) (rfl) (nI_toInt (by omega)) (fun c_14 => ?_) (fun c_14 => ?_)
    · skip
      refine J_iconst h (v := nI 0) dX0_hasCell_27 (by decide) ?_
      exact hR (nI 0) () (by first | (obtain ⟨j, h1, h2⟩ := toNI (x := p0) (n := ro * co) (by omega) (by omega); exact Or.inl ⟨j, rfl, h1, h2, trivial⟩) | exact Or.inr ⟨rfl, by omega, trivial⟩) 28 _ dX0_hasCell_28
    · skip
      refine J_iload_n h (i := 1) dX0_hasCell_17 rfl 1 rfl ?_
      refine J_bipush h (v := nI 48) dX0_hasCell_18 (by decide) ?_
      refine T_icmp_ge h (A := (p0).toInt) (B := 48) 27 dX0_hasCell_20 (by decide) (rfl) (nI_toInt (by omega)) (fun c_20 => absurd c_20 (by omega)) (fun c_20 => ?_)
      refine J_iconst h (v := nI 1) dX0_hasCell_23 (by decide) ?_
      refine J_goto h 28 dX0_hasCell_24 (by decide) ?_
      exact hR (nI 1) () (by first | (obtain ⟨j, h1, h2⟩ := toNI (x := p0) (n := ro * co) (by omega) (by omega); exact Or.inl ⟨j, rfl, h1, h2, trivial⟩) | exact Or.inr ⟨rfl, by omega, trivial⟩) 28 _ dX0_hasCell_28
theorem c_X0_hasCell (l : Launch) (D : va_G) (cI cE : ClassId) (a0 : Nat) (a1 : Nat) (a2 : Nat) (th : Nat → Int32) (ow : Nat → Int32) (co : Nat) (ro : Nat) (sl : Int32) (p0 : Int32) (hrc : ro * co ≤ 48) : Ci l D cI cE yX0_hasCell cX0_hasCell 2 (some .boolean) 0 0 0 [.ref a0, .int p0] [(a0, .inr (0, [.ref a1, .ref a2, .int (nI co), .int (nI ro), .int sl])), (a1, .inl (cI, 48, .inl th)), (a2, .inl (cI, 48, .inl ow))] (fun (r : Int32) (u : Unit) => (∃ (j : Nat), (nI 1 = r) ∧ (j < ro * co) ∧ (p0 = nI j) ∧ (True)) ∨ ((nI 0 = r) ∧ (¬ (0 ≤ p0.toInt ∧ p0.toInt < ((ro * co : Nat) : Int))) ∧ (True))) (fun (u : Unit) => ([(a0, .inr (0, [.ref a1, .ref a2, .int (nI co), .int (nI ro), .int sl])), (a1, .inl (cI, 48, .inl th)), (a2, .inl (cI, 48, .inl ow))] : va_W)) :=
  Ci.of (by decide) (Nat.le_of_ble_eq_true rfl) (fun r u hp => by rcases hp with ⟨_, hp, _⟩ | ⟨hp, _⟩ <;> (rw [← hp]; rfl)) (fun X h hR => w_X0_hasCell X h a0 a1 a2 th ow co ro sl p0 hrc hR)
theorem yv_X0_hasCell : YV yX0_hasCell cX0_hasCell 2 (some .boolean) 1 := ⟨no_X0_hasCell, nv_X0_hasCell, ni_X0, nk_X0_hasCell, by decide +kernel⟩
set_option maxRecDepth 100000 in
set_option maxHeartbeats 4000000 in
theorem w_X0_hasCellN (X : Cx) {cI cE : ClassId} (h : Ok X cX0_hasCell RX0 2 cI cE 0 0 0) (a0 : Nat) (a1 : Nat) (a2 : Nat) (th : Nat → Int32) (ow : Nat → Int32) (co : Nat) (ro : Nat) (sl : Int32) (p0 : Nat) (hrc : ro * co ≤ 48) (hp0 : p0 < 2147483648) (hR : ∀ (r : Int32) (u : Unit), ((nI 1 = r) ∧ (p0 < ro * co) ∧ (True)) ∨ ((nI 0 = r) ∧ (ro * co ≤ p0) ∧ (True)) → RetI X cX0_hasCell 2 0 0 r [(a0, .inr (0, [.ref a1, .ref a2, .int (nI co), .int (nI ro), .int sl])), (a1, .inl (cI, 48, .inl th)), (a2, .inl (cI, 48, .inl ow))]) : J X 2 0 0 0 [(0, .ref a0), (1, .int (nI p0))] [] [(a0, .inr (0, [.ref a1, .ref a2, .int (nI co), .int (nI ro), .int sl])), (a1, .inl (cI, 48, .inl th)), (a2, .inl (cI, 48, .inl ow))] := by
  refine J_iload_n h (i := 1) dX0_hasCell_0 rfl 1 rfl ?_
  refine N_if_lt h 27 dX0_hasCell_1 (by decide) (by omega) ?_
  refine J_iload_n h (i := 1) dX0_hasCell_4 rfl 1 rfl ?_
  refine J_aload_n h (i := 0) dX0_hasCell_5 rfl 0 rfl ?_
  refine J_get h inX0 rfl 0 3 (by decide) rfl rfl nf_X0_22 dX0_hasCell_6 ?_
  refine J_aload_n h (i := 0) dX0_hasCell_9 rfl 0 rfl ?_
  refine J_get h inX0 rfl 0 2 (by decide) rfl rfl nf_X0_18 dX0_hasCell_10 ?_
  refine N_imul h dX0_hasCell_13 ?_
  refine N_icmp_ge h 27 dX0_hasCell_14 (by decide) (by omega) (by omega) (fun c_14 => ?_) (fun c_14 => ?_)
  · skip
    refine J_iconst h (v := nI 0) dX0_hasCell_27 (by decide) ?_
    exact hR (nI 0) () (Or.inr (⟨rfl, (by first | assumption | omega | rfl), trivial⟩)) 28 _ dX0_hasCell_28
  · skip
    refine J_iload_n h (i := 1) dX0_hasCell_17 rfl 1 rfl ?_
    refine J_bipush h (v := nI 48) dX0_hasCell_18 (by decide) ?_
    refine N_icmp_ge h 27 dX0_hasCell_20 (by decide) (by omega) (by omega) (fun c_20 => absurd c_20 (by omega)) (fun c_20 => ?_)
    refine J_iconst h (v := nI 1) dX0_hasCell_23 (by decide) ?_
    refine J_goto h 28 dX0_hasCell_24 (by decide) ?_
    exact hR (nI 1) () (Or.inl ⟨rfl, (by first | assumption | omega | rfl), trivial⟩) 28 _ dX0_hasCell_28
theorem c_X0_hasCellN (l : Launch) (D : va_G) (cI cE : ClassId) (a0 : Nat) (a1 : Nat) (a2 : Nat) (th : Nat → Int32) (ow : Nat → Int32) (co : Nat) (ro : Nat) (sl : Int32) (p0 : Nat) (hrc : ro * co ≤ 48) (hp0 : p0 < 2147483648) : Ci l D cI cE yX0_hasCell cX0_hasCell 2 (some .boolean) 0 0 0 [.ref a0, .int (nI p0)] [(a0, .inr (0, [.ref a1, .ref a2, .int (nI co), .int (nI ro), .int sl])), (a1, .inl (cI, 48, .inl th)), (a2, .inl (cI, 48, .inl ow))] (fun (r : Int32) (u : Unit) => ((nI 1 = r) ∧ (p0 < ro * co) ∧ (True)) ∨ ((nI 0 = r) ∧ (ro * co ≤ p0) ∧ (True))) (fun (u : Unit) => ([(a0, .inr (0, [.ref a1, .ref a2, .int (nI co), .int (nI ro), .int sl])), (a1, .inl (cI, 48, .inl th)), (a2, .inl (cI, 48, .inl ow))] : va_W)) :=
  Ci.of (by decide) (Nat.le_of_ble_eq_true rfl) (fun r u hp => by rcases hp with ⟨hp, _⟩ | ⟨hp, _⟩ <;> (rw [← hp]; rfl)) (fun X h hR => w_X0_hasCellN X h a0 a1 a2 th ow co ro sl p0 hrc hp0 hR)
set_option maxRecDepth 100000 in
set_option maxHeartbeats 4000000 in
theorem w_X0_hasCellT (X : Cx) {cI cE : ClassId} (h : Ok X cX0_hasCell RX0 2 cI cE 0 0 0) (a0 : Nat) (a1 : Nat) (a2 : Nat) (th : Nat → Int32) (ow : Nat → Int32) (co : Nat) (ro : Nat) (sl : Int32) (p0 : Int32) (z : Int) (hrc : ro * co ≤ 48) (hz : p0.toInt = z) (hR : ∀ (r : Int32) (u : Unit), ((nI 1 = r) ∧ (0 ≤ z) ∧ (z < ((ro * co : Nat) : Int)) ∧ (True)) ∨ ((nI 0 = r) ∧ (¬ (0 ≤ z ∧ z < ((ro * co : Nat) : Int))) ∧ (True)) → RetI X cX0_hasCell 2 0 0 r [(a0, .inr (0, [.ref a1, .ref a2, .int (nI co), .int (nI ro), .int sl])), (a1, .inl (cI, 48, .inl th)), (a2, .inl (cI, 48, .inl ow))]) : J X 2 0 0 0 [(0, .ref a0), (1, .int p0)] [] [(a0, .inr (0, [.ref a1, .ref a2, .int (nI co), .int (nI ro), .int sl])), (a1, .inl (cI, 48, .inl th)), (a2, .inl (cI, 48, .inl ow))] := by
  refine J_iload_n h (i := 1) dX0_hasCell_0 rfl 1 rfl ?_
  refine T_if_lt h (A := z) 27 dX0_hasCell_1 (by decide) (hz) (fun c_1 => ?_) (fun c_1 => ?_)
  · skip
    refine J_iconst h (v := nI 0) dX0_hasCell_27 (by decide) ?_
    exact hR (nI 0) () (Or.inr (⟨rfl, (by first | assumption | omega | rfl), trivial⟩)) 28 _ dX0_hasCell_28
  · skip
    refine J_iload_n h (i := 1) dX0_hasCell_4 rfl 1 rfl ?_
    refine J_aload_n h (i := 0) dX0_hasCell_5 rfl 0 rfl ?_
    refine J_get h inX0 rfl 0 3 (by decide) rfl rfl nf_X0_22 dX0_hasCell_6 ?_
    refine J_aload_n h (i := 0) dX0_hasCell_9 rfl 0 rfl ?_
    refine J_get h inX0 rfl 0 2 (by decide) rfl rfl nf_X0_18 dX0_hasCell_10 ?_
    refine N_imul h dX0_hasCell_13 ?_
    refine T_icmp_ge h (A := z) (B := ((ro * co : Nat) : Int)) 27 dX0_hasCell_14 (by decide) (hz) (nI_toInt (by omega)) (fun c_14 => ?_) (fun c_14 => ?_)
    · skip
      refine J_iconst h (v := nI 0) dX0_hasCell_27 (by decide) ?_
      exact hR (nI 0) () (Or.inr (⟨rfl, (by first | assumption | omega | rfl), trivial⟩)) 28 _ dX0_hasCell_28
    · skip
      refine J_iload_n h (i := 1) dX0_hasCell_17 rfl 1 rfl ?_
      refine J_bipush h (v := nI 48) dX0_hasCell_18 (by decide) ?_
      refine T_icmp_ge h (A := z) (B := 48) 27 dX0_hasCell_20 (by decide) (hz) (nI_toInt (by omega)) (fun c_20 => absurd c_20 (by omega)) (fun c_20 => ?_)
      refine J_iconst h (v := nI 1) dX0_hasCell_23 (by decide) ?_
      refine J_goto h 28 dX0_hasCell_24 (by decide) ?_
      exact hR (nI 1) () (Or.inl ⟨rfl, (by first | assumption | omega | rfl), (by first | assumption | omega | rfl), trivial⟩) 28 _ dX0_hasCell_28
theorem c_X0_hasCellT (l : Launch) (D : va_G) (cI cE : ClassId) (a0 : Nat) (a1 : Nat) (a2 : Nat) (th : Nat → Int32) (ow : Nat → Int32) (co : Nat) (ro : Nat) (sl : Int32) (p0 : Int32) (z : Int) (hrc : ro * co ≤ 48) (hz : p0.toInt = z) : Ci l D cI cE yX0_hasCell cX0_hasCell 2 (some .boolean) 0 0 0 [.ref a0, .int p0] [(a0, .inr (0, [.ref a1, .ref a2, .int (nI co), .int (nI ro), .int sl])), (a1, .inl (cI, 48, .inl th)), (a2, .inl (cI, 48, .inl ow))] (fun (r : Int32) (u : Unit) => ((nI 1 = r) ∧ (0 ≤ z) ∧ (z < ((ro * co : Nat) : Int)) ∧ (True)) ∨ ((nI 0 = r) ∧ (¬ (0 ≤ z ∧ z < ((ro * co : Nat) : Int))) ∧ (True))) (fun (u : Unit) => ([(a0, .inr (0, [.ref a1, .ref a2, .int (nI co), .int (nI ro), .int sl])), (a1, .inl (cI, 48, .inl th)), (a2, .inl (cI, 48, .inl ow))] : va_W)) :=
  Ci.of (by decide) (Nat.le_of_ble_eq_true rfl) (fun r u hp => by rcases hp with ⟨hp, _⟩ | ⟨hp, _⟩ <;> (rw [← hp]; rfl)) (fun X h hR => w_X0_hasCellT X h a0 a1 a2 th ow co ro sl p0 z hrc hz hR)
set_option maxRecDepth 100000 in
set_option maxHeartbeats 4000000 in
theorem w_X0_hasColumnN (X : Cx) {cI cE : ClassId} (h : Ok X cX0_hasColumn RX0 2 cI cE 0 0 0) (a0 : Nat) (a1 : Nat) (a2 : Nat) (th : Nat → Int32) (ow : Nat → Int32) (co : Nat) (ro : Nat) (sl : Int32) (p0 : Nat) (hc : co ≤ 8) (hp0 : p0 < 2147483648) (hR : ∀ (r : Int32) (u : Unit), ((nI 1 = r) ∧ (p0 < co) ∧ (True)) ∨ ((nI 0 = r) ∧ (co ≤ p0) ∧ (True)) → RetI X cX0_hasColumn 2 0 0 r [(a0, .inr (0, [.ref a1, .ref a2, .int (nI co), .int (nI ro), .int sl])), (a1, .inl (cI, 48, .inl th)), (a2, .inl (cI, 48, .inl ow))]) : J X 2 0 0 0 [(0, .ref a0), (1, .int (nI p0))] [] [(a0, .inr (0, [.ref a1, .ref a2, .int (nI co), .int (nI ro), .int sl])), (a1, .inl (cI, 48, .inl th)), (a2, .inl (cI, 48, .inl ow))] := by
  refine J_iload_n h (i := 1) dX0_hasColumn_0 rfl 1 rfl ?_
  refine N_if_lt h 16 dX0_hasColumn_1 (by decide) (by omega) ?_
  refine J_iload_n h (i := 1) dX0_hasColumn_4 rfl 1 rfl ?_
  refine J_aload_n h (i := 0) dX0_hasColumn_5 rfl 0 rfl ?_
  refine J_get h inX0 rfl 0 2 (by decide) rfl rfl nf_X0_18 dX0_hasColumn_6 ?_
  refine N_icmp_ge h 16 dX0_hasColumn_9 (by decide) (by omega) (by omega) (fun c_9 => ?_) (fun c_9 => ?_)
  · skip
    refine J_iconst h (v := nI 0) dX0_hasColumn_16 (by decide) ?_
    exact hR (nI 0) () (Or.inr (⟨rfl, (by first | assumption | omega | rfl), trivial⟩)) 17 _ dX0_hasColumn_17
  · skip
    refine J_iconst h (v := nI 1) dX0_hasColumn_12 (by decide) ?_
    refine J_goto h 17 dX0_hasColumn_13 (by decide) ?_
    exact hR (nI 1) () (Or.inl ⟨rfl, (by first | assumption | omega | rfl), trivial⟩) 17 _ dX0_hasColumn_17
theorem c_X0_hasColumnN (l : Launch) (D : va_G) (cI cE : ClassId) (a0 : Nat) (a1 : Nat) (a2 : Nat) (th : Nat → Int32) (ow : Nat → Int32) (co : Nat) (ro : Nat) (sl : Int32) (p0 : Nat) (hc : co ≤ 8) (hp0 : p0 < 2147483648) : Ci l D cI cE yX0_hasColumn cX0_hasColumn 2 (some .boolean) 0 0 0 [.ref a0, .int (nI p0)] [(a0, .inr (0, [.ref a1, .ref a2, .int (nI co), .int (nI ro), .int sl])), (a1, .inl (cI, 48, .inl th)), (a2, .inl (cI, 48, .inl ow))] (fun (r : Int32) (u : Unit) => ((nI 1 = r) ∧ (p0 < co) ∧ (True)) ∨ ((nI 0 = r) ∧ (co ≤ p0) ∧ (True))) (fun (u : Unit) => ([(a0, .inr (0, [.ref a1, .ref a2, .int (nI co), .int (nI ro), .int sl])), (a1, .inl (cI, 48, .inl th)), (a2, .inl (cI, 48, .inl ow))] : va_W)) :=
  Ci.of (by decide) (Nat.le_of_ble_eq_true rfl) (fun r u hp => by rcases hp with ⟨hp, _⟩ | ⟨hp, _⟩ <;> (rw [← hp]; rfl)) (fun X h hR => w_X0_hasColumnN X h a0 a1 a2 th ow co ro sl p0 hc hp0 hR)
theorem yv_X0_hasColumn : YV yX0_hasColumn cX0_hasColumn 2 (some .boolean) 1 := ⟨no_X0_hasColumn, nv_X0_hasColumn, ni_X0, nk_X0_hasColumn, by decide +kernel⟩
set_option maxRecDepth 100000 in
set_option maxHeartbeats 4000000 in
theorem w_X0_hasColumnT (X : Cx) {cI cE : ClassId} (h : Ok X cX0_hasColumn RX0 2 cI cE 0 0 0) (a0 : Nat) (a1 : Nat) (a2 : Nat) (th : Nat → Int32) (ow : Nat → Int32) (co : Nat) (ro : Nat) (sl : Int32) (p0 : Int32) (z : Int) (hc : co ≤ 8) (hz : p0.toInt = z) (hR : ∀ (r : Int32) (u : Unit), ((nI 1 = r) ∧ (0 ≤ z) ∧ (z < ((co : Nat) : Int)) ∧ (True)) ∨ ((nI 0 = r) ∧ (¬ (0 ≤ z ∧ z < ((co : Nat) : Int))) ∧ (True)) → RetI X cX0_hasColumn 2 0 0 r [(a0, .inr (0, [.ref a1, .ref a2, .int (nI co), .int (nI ro), .int sl])), (a1, .inl (cI, 48, .inl th)), (a2, .inl (cI, 48, .inl ow))]) : J X 2 0 0 0 [(0, .ref a0), (1, .int p0)] [] [(a0, .inr (0, [.ref a1, .ref a2, .int (nI co), .int (nI ro), .int sl])), (a1, .inl (cI, 48, .inl th)), (a2, .inl (cI, 48, .inl ow))] := by
  refine J_iload_n h (i := 1) dX0_hasColumn_0 rfl 1 rfl ?_
  refine T_if_lt h (A := z) 16 dX0_hasColumn_1 (by decide) (hz) (fun c_1 => ?_) (fun c_1 => ?_)
  · skip
    refine J_iconst h (v := nI 0) dX0_hasColumn_16 (by decide) ?_
    exact hR (nI 0) () (Or.inr (⟨rfl, (by first | assumption | omega | rfl), trivial⟩)) 17 _ dX0_hasColumn_17
  · skip
    refine J_iload_n h (i := 1) dX0_hasColumn_4 rfl 1 rfl ?_
    refine J_aload_n h (i := 0) dX0_hasColumn_5 rfl 0 rfl ?_
    refine J_get h inX0 rfl 0 2 (by decide) rfl rfl nf_X0_18 dX0_hasColumn_6 ?_
    refine T_icmp_ge h (A := z) (B := ((co : Nat) : Int)) 16 dX0_hasColumn_9 (by decide) (hz) (nI_toInt (by omega)) (fun c_9 => ?_) (fun c_9 => ?_)
    · skip
      refine J_iconst h (v := nI 0) dX0_hasColumn_16 (by decide) ?_
      exact hR (nI 0) () (Or.inr (⟨rfl, (by first | assumption | omega | rfl), trivial⟩)) 17 _ dX0_hasColumn_17
    · skip
      refine J_iconst h (v := nI 1) dX0_hasColumn_12 (by decide) ?_
      refine J_goto h 17 dX0_hasColumn_13 (by decide) ?_
      exact hR (nI 1) () (Or.inl ⟨rfl, (by first | assumption | omega | rfl), (by first | assumption | omega | rfl), trivial⟩) 17 _ dX0_hasColumn_17
theorem c_X0_hasColumnT (l : Launch) (D : va_G) (cI cE : ClassId) (a0 : Nat) (a1 : Nat) (a2 : Nat) (th : Nat → Int32) (ow : Nat → Int32) (co : Nat) (ro : Nat) (sl : Int32) (p0 : Int32) (z : Int) (hc : co ≤ 8) (hz : p0.toInt = z) : Ci l D cI cE yX0_hasColumn cX0_hasColumn 2 (some .boolean) 0 0 0 [.ref a0, .int p0] [(a0, .inr (0, [.ref a1, .ref a2, .int (nI co), .int (nI ro), .int sl])), (a1, .inl (cI, 48, .inl th)), (a2, .inl (cI, 48, .inl ow))] (fun (r : Int32) (u : Unit) => ((nI 1 = r) ∧ (0 ≤ z) ∧ (z < ((co : Nat) : Int)) ∧ (True)) ∨ ((nI 0 = r) ∧ (¬ (0 ≤ z ∧ z < ((co : Nat) : Int))) ∧ (True))) (fun (u : Unit) => ([(a0, .inr (0, [.ref a1, .ref a2, .int (nI co), .int (nI ro), .int sl])), (a1, .inl (cI, 48, .inl th)), (a2, .inl (cI, 48, .inl ow))] : va_W)) :=
  Ci.of (by decide) (Nat.le_of_ble_eq_true rfl) (fun r u hp => by rcases hp with ⟨hp, _⟩ | ⟨hp, _⟩ <;> (rw [← hp]; rfl)) (fun X h hR => w_X0_hasColumnT X h a0 a1 a2 th ow co ro sl p0 z hc hz hR)
set_option maxRecDepth 100000 in
set_option maxHeartbeats 4000000 in
theorem w_X0_hasColumn (X : Cx) {cI cE : ClassId} (h : Ok X cX0_hasColumn RX0 2 cI cE 0 0 0) (a0 : Nat) (a1 : Nat) (a2 : Nat) (th : Nat → Int32) (ow : Nat → Int32) (co : Nat) (ro : Nat) (sl : Int32) (p0 : Int32) (hc : co ≤ 8) (hR : ∀ (r : Int32) (u : Unit), (∃ (j : Nat), (nI 1 = r) ∧ (j < co) ∧ (p0 = nI j) ∧ (True)) ∨ ((nI 0 = r) ∧ (¬ (0 ≤ p0.toInt ∧ p0.toInt < ((co : Nat) : Int))) ∧ (True)) → RetI X cX0_hasColumn 2 0 0 r [(a0, .inr (0, [.ref a1, .ref a2, .int (nI co), .int (nI ro), .int sl])), (a1, .inl (cI, 48, .inl th)), (a2, .inl (cI, 48, .inl ow))]) : J X 2 0 0 0 [(0, .ref a0), (1, .int p0)] [] [(a0, .inr (0, [.ref a1, .ref a2, .int (nI co), .int (nI ro), .int sl])), (a1, .inl (cI, 48, .inl th)), (a2, .inl (cI, 48, .inl ow))] := by
  refine J_iload_n h (i := 1) dX0_hasColumn_0 rfl 1 rfl ?_
  refine T_if_lt h (A := (p0).toInt) 16 dX0_hasColumn_1 (by decide) (rfl) (fun c_1 => ?_) (fun c_1 => ?_)
  · skip
    refine J_iconst h (v := nI 0) dX0_hasColumn_16 (by decide) ?_
    exact hR (nI 0) () (by first | (obtain ⟨j, h1, h2⟩ := toNI (x := p0) (n := co) (by omega) (by omega); exact Or.inl ⟨j, rfl, h1, h2, trivial⟩) | exact Or.inr ⟨rfl, by omega, trivial⟩) 17 _ dX0_hasColumn_17
  · skip
    refine J_iload_n h (i := 1) dX0_hasColumn_4 rfl 1 rfl ?_
    refine J_aload_n h (i := 0) dX0_hasColumn_5 rfl 0 rfl ?_
    refine J_get h inX0 rfl 0 2 (by decide) rfl rfl nf_X0_18 dX0_hasColumn_6 ?_
    refine T_icmp_ge h (A := (p0).toInt) (B := ((co : Nat) : Int)) 16 dX0_hasColumn_9 (by decide) (rfl) (nI_toInt (by omega)) (fun c_9 => ?_) (fun c_9 => ?_)
    · skip
      refine J_iconst h (v := nI 0) dX0_hasColumn_16 (by decide) ?_
      exact hR (nI 0) () (by first | (obtain ⟨j, h1, h2⟩ := toNI (x := p0) (n := co) (by omega) (by omega); exact Or.inl ⟨j, rfl, h1, h2, trivial⟩) | exact Or.inr ⟨rfl, by omega, trivial⟩) 17 _ dX0_hasColumn_17
    · skip
      refine J_iconst h (v := nI 1) dX0_hasColumn_12 (by decide) ?_
      refine J_goto h 17 dX0_hasColumn_13 (by decide) ?_
      exact hR (nI 1) () (by first | (obtain ⟨j, h1, h2⟩ := toNI (x := p0) (n := co) (by omega) (by omega); exact Or.inl ⟨j, rfl, h1, h2, trivial⟩) | exact Or.inr ⟨rfl, by omega, trivial⟩) 17 _ dX0_hasColumn_17
theorem c_X0_hasColumn (l : Launch) (D : va_G) (cI cE : ClassId) (a0 : Nat) (a1 : Nat) (a2 : Nat) (th : Nat → Int32) (ow : Nat → Int32) (co : Nat) (ro : Nat) (sl : Int32) (p0 : Int32) (hc : co ≤ 8) : Ci l D cI cE yX0_hasColumn cX0_hasColumn 2 (some .boolean) 0 0 0 [.ref a0, .int p0] [(a0, .inr (0, [.ref a1, .ref a2, .int (nI co), .int (nI ro), .int sl])), (a1, .inl (cI, 48, .inl th)), (a2, .inl (cI, 48, .inl ow))] (fun (r : Int32) (u : Unit) => (∃ (j : Nat), (nI 1 = r) ∧ (j < co) ∧ (p0 = nI j) ∧ (True)) ∨ ((nI 0 = r) ∧ (¬ (0 ≤ p0.toInt ∧ p0.toInt < ((co : Nat) : Int))) ∧ (True))) (fun (u : Unit) => ([(a0, .inr (0, [.ref a1, .ref a2, .int (nI co), .int (nI ro), .int sl])), (a1, .inl (cI, 48, .inl th)), (a2, .inl (cI, 48, .inl ow))] : va_W)) :=
  Ci.of (by decide) (Nat.le_of_ble_eq_true rfl) (fun r u hp => by rcases hp with ⟨_, hp, _⟩ | ⟨hp, _⟩ <;> (rw [← hp]; rfl)) (fun X h hR => w_X0_hasColumn X h a0 a1 a2 th ow co ro sl p0 hc hR)
set_option maxRecDepth 100000 in
set_option maxHeartbeats 4000000 in
theorem w_X0_hasRowN (X : Cx) {cI cE : ClassId} (h : Ok X cX0_hasRow RX0 2 cI cE 0 0 0) (a0 : Nat) (a1 : Nat) (a2 : Nat) (th : Nat → Int32) (ow : Nat → Int32) (co : Nat) (ro : Nat) (sl : Int32) (p0 : Nat) (hc : ro ≤ 8) (hp0 : p0 < 2147483648) (hR : ∀ (r : Int32) (u : Unit), ((nI 1 = r) ∧ (p0 < ro) ∧ (True)) ∨ ((nI 0 = r) ∧ (ro ≤ p0) ∧ (True)) → RetI X cX0_hasRow 2 0 0 r [(a0, .inr (0, [.ref a1, .ref a2, .int (nI co), .int (nI ro), .int sl])), (a1, .inl (cI, 48, .inl th)), (a2, .inl (cI, 48, .inl ow))]) : J X 2 0 0 0 [(0, .ref a0), (1, .int (nI p0))] [] [(a0, .inr (0, [.ref a1, .ref a2, .int (nI co), .int (nI ro), .int sl])), (a1, .inl (cI, 48, .inl th)), (a2, .inl (cI, 48, .inl ow))] := by
  refine J_iload_n h (i := 1) dX0_hasRow_0 rfl 1 rfl ?_
  refine N_if_lt h 16 dX0_hasRow_1 (by decide) (by omega) ?_
  refine J_iload_n h (i := 1) dX0_hasRow_4 rfl 1 rfl ?_
  refine J_aload_n h (i := 0) dX0_hasRow_5 rfl 0 rfl ?_
  refine J_get h inX0 rfl 0 3 (by decide) rfl rfl nf_X0_22 dX0_hasRow_6 ?_
  refine N_icmp_ge h 16 dX0_hasRow_9 (by decide) (by omega) (by omega) (fun c_9 => ?_) (fun c_9 => ?_)
  · skip
    refine J_iconst h (v := nI 0) dX0_hasRow_16 (by decide) ?_
    exact hR (nI 0) () (Or.inr (⟨rfl, (by first | assumption | omega | rfl), trivial⟩)) 17 _ dX0_hasRow_17
  · skip
    refine J_iconst h (v := nI 1) dX0_hasRow_12 (by decide) ?_
    refine J_goto h 17 dX0_hasRow_13 (by decide) ?_
    exact hR (nI 1) () (Or.inl ⟨rfl, (by first | assumption | omega | rfl), trivial⟩) 17 _ dX0_hasRow_17
theorem c_X0_hasRowN (l : Launch) (D : va_G) (cI cE : ClassId) (a0 : Nat) (a1 : Nat) (a2 : Nat) (th : Nat → Int32) (ow : Nat → Int32) (co : Nat) (ro : Nat) (sl : Int32) (p0 : Nat) (hc : ro ≤ 8) (hp0 : p0 < 2147483648) : Ci l D cI cE yX0_hasRow cX0_hasRow 2 (some .boolean) 0 0 0 [.ref a0, .int (nI p0)] [(a0, .inr (0, [.ref a1, .ref a2, .int (nI co), .int (nI ro), .int sl])), (a1, .inl (cI, 48, .inl th)), (a2, .inl (cI, 48, .inl ow))] (fun (r : Int32) (u : Unit) => ((nI 1 = r) ∧ (p0 < ro) ∧ (True)) ∨ ((nI 0 = r) ∧ (ro ≤ p0) ∧ (True))) (fun (u : Unit) => ([(a0, .inr (0, [.ref a1, .ref a2, .int (nI co), .int (nI ro), .int sl])), (a1, .inl (cI, 48, .inl th)), (a2, .inl (cI, 48, .inl ow))] : va_W)) :=
  Ci.of (by decide) (Nat.le_of_ble_eq_true rfl) (fun r u hp => by rcases hp with ⟨hp, _⟩ | ⟨hp, _⟩ <;> (rw [← hp]; rfl)) (fun X h hR => w_X0_hasRowN X h a0 a1 a2 th ow co ro sl p0 hc hp0 hR)
theorem yv_X0_hasRow : YV yX0_hasRow cX0_hasRow 2 (some .boolean) 1 := ⟨no_X0_hasRow, nv_X0_hasRow, ni_X0, nk_X0_hasRow, by decide +kernel⟩
set_option maxRecDepth 100000 in
set_option maxHeartbeats 4000000 in
theorem w_X0_hasRowT (X : Cx) {cI cE : ClassId} (h : Ok X cX0_hasRow RX0 2 cI cE 0 0 0) (a0 : Nat) (a1 : Nat) (a2 : Nat) (th : Nat → Int32) (ow : Nat → Int32) (co : Nat) (ro : Nat) (sl : Int32) (p0 : Int32) (z : Int) (hc : ro ≤ 8) (hz : p0.toInt = z) (hR : ∀ (r : Int32) (u : Unit), ((nI 1 = r) ∧ (0 ≤ z) ∧ (z < ((ro : Nat) : Int)) ∧ (True)) ∨ ((nI 0 = r) ∧ (¬ (0 ≤ z ∧ z < ((ro : Nat) : Int))) ∧ (True)) → RetI X cX0_hasRow 2 0 0 r [(a0, .inr (0, [.ref a1, .ref a2, .int (nI co), .int (nI ro), .int sl])), (a1, .inl (cI, 48, .inl th)), (a2, .inl (cI, 48, .inl ow))]) : J X 2 0 0 0 [(0, .ref a0), (1, .int p0)] [] [(a0, .inr (0, [.ref a1, .ref a2, .int (nI co), .int (nI ro), .int sl])), (a1, .inl (cI, 48, .inl th)), (a2, .inl (cI, 48, .inl ow))] := by
  refine J_iload_n h (i := 1) dX0_hasRow_0 rfl 1 rfl ?_
  refine T_if_lt h (A := z) 16 dX0_hasRow_1 (by decide) (hz) (fun c_1 => ?_) (fun c_1 => ?_)
  · skip
    refine J_iconst h (v := nI 0) dX0_hasRow_16 (by decide) ?_
    exact hR (nI 0) () (Or.inr (⟨rfl, (by first | assumption | omega | rfl), trivial⟩)) 17 _ dX0_hasRow_17
  · skip
    refine J_iload_n h (i := 1) dX0_hasRow_4 rfl 1 rfl ?_
    refine J_aload_n h (i := 0) dX0_hasRow_5 rfl 0 rfl ?_
    refine J_get h inX0 rfl 0 3 (by decide) rfl rfl nf_X0_22 dX0_hasRow_6 ?_
    refine T_icmp_ge h (A := z) (B := ((ro : Nat) : Int)) 16 dX0_hasRow_9 (by decide) (hz) (nI_toInt (by omega)) (fun c_9 => ?_) (fun c_9 => ?_)
    · skip
      refine J_iconst h (v := nI 0) dX0_hasRow_16 (by decide) ?_
      exact hR (nI 0) () (Or.inr (⟨rfl, (by first | assumption | omega | rfl), trivial⟩)) 17 _ dX0_hasRow_17
    · skip
      refine J_iconst h (v := nI 1) dX0_hasRow_12 (by decide) ?_
      refine J_goto h 17 dX0_hasRow_13 (by decide) ?_
      exact hR (nI 1) () (Or.inl ⟨rfl, (by first | assumption | omega | rfl), (by first | assumption | omega | rfl), trivial⟩) 17 _ dX0_hasRow_17
theorem c_X0_hasRowT (l : Launch) (D : va_G) (cI cE : ClassId) (a0 : Nat) (a1 : Nat) (a2 : Nat) (th : Nat → Int32) (ow : Nat → Int32) (co : Nat) (ro : Nat) (sl : Int32) (p0 : Int32) (z : Int) (hc : ro ≤ 8) (hz : p0.toInt = z) : Ci l D cI cE yX0_hasRow cX0_hasRow 2 (some .boolean) 0 0 0 [.ref a0, .int p0] [(a0, .inr (0, [.ref a1, .ref a2, .int (nI co), .int (nI ro), .int sl])), (a1, .inl (cI, 48, .inl th)), (a2, .inl (cI, 48, .inl ow))] (fun (r : Int32) (u : Unit) => ((nI 1 = r) ∧ (0 ≤ z) ∧ (z < ((ro : Nat) : Int)) ∧ (True)) ∨ ((nI 0 = r) ∧ (¬ (0 ≤ z ∧ z < ((ro : Nat) : Int))) ∧ (True))) (fun (u : Unit) => ([(a0, .inr (0, [.ref a1, .ref a2, .int (nI co), .int (nI ro), .int sl])), (a1, .inl (cI, 48, .inl th)), (a2, .inl (cI, 48, .inl ow))] : va_W)) :=
  Ci.of (by decide) (Nat.le_of_ble_eq_true rfl) (fun r u hp => by rcases hp with ⟨hp, _⟩ | ⟨hp, _⟩ <;> (rw [← hp]; rfl)) (fun X h hR => w_X0_hasRowT X h a0 a1 a2 th ow co ro sl p0 z hc hz hR)
set_option maxRecDepth 100000 in
set_option maxHeartbeats 4000000 in
theorem w_X0_hasRow (X : Cx) {cI cE : ClassId} (h : Ok X cX0_hasRow RX0 2 cI cE 0 0 0) (a0 : Nat) (a1 : Nat) (a2 : Nat) (th : Nat → Int32) (ow : Nat → Int32) (co : Nat) (ro : Nat) (sl : Int32) (p0 : Int32) (hc : ro ≤ 8) (hR : ∀ (r : Int32) (u : Unit), (∃ (j : Nat), (nI 1 = r) ∧ (j < ro) ∧ (p0 = nI j) ∧ (True)) ∨ ((nI 0 = r) ∧ (¬ (0 ≤ p0.toInt ∧ p0.toInt < ((ro : Nat) : Int))) ∧ (True)) → RetI X cX0_hasRow 2 0 0 r [(a0, .inr (0, [.ref a1, .ref a2, .int (nI co), .int (nI ro), .int sl])), (a1, .inl (cI, 48, .inl th)), (a2, .inl (cI, 48, .inl ow))]) : J X 2 0 0 0 [(0, .ref a0), (1, .int p0)] [] [(a0, .inr (0, [.ref a1, .ref a2, .int (nI co), .int (nI ro), .int sl])), (a1, .inl (cI, 48, .inl th)), (a2, .inl (cI, 48, .inl ow))] := by
  refine J_iload_n h (i := 1) dX0_hasRow_0 rfl 1 rfl ?_
  refine T_if_lt h (A := (p0).toInt) 16 dX0_hasRow_1 (by decide) (rfl) (fun c_1 => ?_) (fun c_1 => ?_)
  · skip
    refine J_iconst h (v := nI 0) dX0_hasRow_16 (by decide) ?_
    exact hR (nI 0) () (by first | (obtain ⟨j, h1, h2⟩ := toNI (x := p0) (n := ro) (by omega) (by omega); exact Or.inl ⟨j, rfl, h1, h2, trivial⟩) | exact Or.inr ⟨rfl, by omega, trivial⟩) 17 _ dX0_hasRow_17
  · skip
    refine J_iload_n h (i := 1) dX0_hasRow_4 rfl 1 rfl ?_
    refine J_aload_n h (i := 0) dX0_hasRow_5 rfl 0 rfl ?_
    refine J_get h inX0 rfl 0 3 (by decide) rfl rfl nf_X0_22 dX0_hasRow_6 ?_
    refine T_icmp_ge h (A := (p0).toInt) (B := ((ro : Nat) : Int)) 16 dX0_hasRow_9 (by decide) (rfl) (nI_toInt (by omega)) (fun c_9 => ?_) (fun c_9 => ?_)
    · skip
      refine J_iconst h (v := nI 0) dX0_hasRow_16 (by decide) ?_
      exact hR (nI 0) () (by first | (obtain ⟨j, h1, h2⟩ := toNI (x := p0) (n := ro) (by omega) (by omega); exact Or.inl ⟨j, rfl, h1, h2, trivial⟩) | exact Or.inr ⟨rfl, by omega, trivial⟩) 17 _ dX0_hasRow_17
    · skip
      refine J_iconst h (v := nI 1) dX0_hasRow_12 (by decide) ?_
      refine J_goto h 17 dX0_hasRow_13 (by decide) ?_
      exact hR (nI 1) () (by first | (obtain ⟨j, h1, h2⟩ := toNI (x := p0) (n := ro) (by omega) (by omega); exact Or.inl ⟨j, rfl, h1, h2, trivial⟩) | exact Or.inr ⟨rfl, by omega, trivial⟩) 17 _ dX0_hasRow_17
theorem c_X0_hasRow (l : Launch) (D : va_G) (cI cE : ClassId) (a0 : Nat) (a1 : Nat) (a2 : Nat) (th : Nat → Int32) (ow : Nat → Int32) (co : Nat) (ro : Nat) (sl : Int32) (p0 : Int32) (hc : ro ≤ 8) : Ci l D cI cE yX0_hasRow cX0_hasRow 2 (some .boolean) 0 0 0 [.ref a0, .int p0] [(a0, .inr (0, [.ref a1, .ref a2, .int (nI co), .int (nI ro), .int sl])), (a1, .inl (cI, 48, .inl th)), (a2, .inl (cI, 48, .inl ow))] (fun (r : Int32) (u : Unit) => (∃ (j : Nat), (nI 1 = r) ∧ (j < ro) ∧ (p0 = nI j) ∧ (True)) ∨ ((nI 0 = r) ∧ (¬ (0 ≤ p0.toInt ∧ p0.toInt < ((ro : Nat) : Int))) ∧ (True))) (fun (u : Unit) => ([(a0, .inr (0, [.ref a1, .ref a2, .int (nI co), .int (nI ro), .int sl])), (a1, .inl (cI, 48, .inl th)), (a2, .inl (cI, 48, .inl ow))] : va_W)) :=
  Ci.of (by decide) (Nat.le_of_ble_eq_true rfl) (fun r u hp => by rcases hp with ⟨_, hp, _⟩ | ⟨hp, _⟩ <;> (rw [← hp]; rfl)) (fun X h hR => w_X0_hasRow X h a0 a1 a2 th ow co ro sl p0 hc hR)
set_option maxRecDepth 100000 in
set_option maxHeartbeats 4000000 in
theorem w_X0_thingOn (X : Cx) {cI cE : ClassId} (h : Ok X cX0_thingOn RX0 2 cI cE 1 0 0) (a0 : Nat) (a1 : Nat) (a2 : Nat) (th : Nat → Int32) (ow : Nat → Int32) (co : Nat) (ro : Nat) (sl : Int32) (p0 : Nat) (hrc : ro * co ≤ 48) (hp0 : p0 < ro * co) (hR : ∀ (r : Int32) (u : Unit), ((th p0 = r) ∧ (True)) → RetI X cX0_thingOn 2 0 0 r [(a0, .inr (0, [.ref a1, .ref a2, .int (nI co), .int (nI ro), .int sl])), (a1, .inl (cI, 48, .inl th)), (a2, .inl (cI, 48, .inl ow))]) : J X 2 0 0 0 [(0, .ref a0), (1, .int (nI p0))] [] [(a0, .inr (0, [.ref a1, .ref a2, .int (nI co), .int (nI ro), .int sl])), (a1, .inl (cI, 48, .inl th)), (a2, .inl (cI, 48, .inl ow))] := by
  refine J_aload_n h (i := 0) dX0_thingOn_0 rfl 0 rfl ?_
  refine J_iload_n h (i := 1) dX0_thingOn_1 rfl 1 rfl ?_
  refine K_vi h (wr := []) (c_X0_hasCellN (xl X) (xD X) cI cE a0 a1 a2 th ow co ro sl p0 (by first | exact hrc |  assumption | omega | rfl) (by first | exact hp0 |  assumption | omega | rfl)) yv_X0_hasCell nm_X0_39 (by decide) (by decide) rfl rfl 0 rfl rfl rfl rfl (Nat.le_of_ble_eq_true rfl) (Nat.le_refl _) (Nat.le_refl _) dX0_thingOn_2 (fun r_2 u_2 p_2 => ?_)
  rcases p_2 with p_2 | p_2
  · obtain ⟨rfl, f0_2, -⟩ := p_2
    show J X 2 0 0 5 [(0, .ref a0), (1, .int (nI p0))] [.int (nI 1)] [(a0, .inr (0, [.ref a1, .ref a2, .int (nI co), .int (nI ro), .int sl])), (a1, .inl (cI, 48, .inl th)), (a2, .inl (cI, 48, .inl ow))]
    refine J_if_eq h 17 dX0_thingOn_5 (by decide) (fun z => absurd z (by decide)) (fun _ => ?_)
    refine J_aload_n h (i := 0) dX0_thingOn_8 rfl 0 rfl ?_
    refine J_get h inX0 rfl 0 0 (by decide) rfl rfl nf_X0_9 dX0_thingOn_9 ?_
    refine J_iload_n h (i := 1) dX0_thingOn_12 rfl 1 rfl ?_
    refine N_iald h 1 rfl (by decide) (by omega) dX0_thingOn_13 ?_
    refine J_goto h 18 dX0_thingOn_14 (by decide) ?_
    exact hR (th p0) () (⟨rfl, trivial⟩) 18 _ dX0_thingOn_18
  · obtain ⟨rfl, f0_2, -⟩ := p_2
    exact absurd f0_2 (by omega)
theorem c_X0_thingOn (l : Launch) (D : va_G) (cI cE : ClassId) (a0 : Nat) (a1 : Nat) (a2 : Nat) (th : Nat → Int32) (ow : Nat → Int32) (co : Nat) (ro : Nat) (sl : Int32) (p0 : Nat) (hrc : ro * co ≤ 48) (hp0 : p0 < ro * co) : Ci l D cI cE yX0_thingOn cX0_thingOn 2 (some .int) 1 0 0 [.ref a0, .int (nI p0)] [(a0, .inr (0, [.ref a1, .ref a2, .int (nI co), .int (nI ro), .int sl])), (a1, .inl (cI, 48, .inl th)), (a2, .inl (cI, 48, .inl ow))] (fun (r : Int32) (u : Unit) => ((th p0 = r) ∧ (True))) (fun (u : Unit) => ([(a0, .inr (0, [.ref a1, .ref a2, .int (nI co), .int (nI ro), .int sl])), (a1, .inl (cI, 48, .inl th)), (a2, .inl (cI, 48, .inl ow))] : va_W)) :=
  Ci.of (by decide) (Nat.le_of_ble_eq_true rfl) (fun _ _ _ => rfl) (fun X h hR => w_X0_thingOn X h a0 a1 a2 th ow co ro sl p0 hrc hp0 hR)
theorem yv_X0_thingOn : YV yX0_thingOn cX0_thingOn 2 (some .int) 1 := ⟨no_X0_thingOn, nv_X0_thingOn, ni_X0, nk_X0_thingOn, by decide +kernel⟩
set_option maxRecDepth 100000 in
set_option maxHeartbeats 4000000 in
theorem w_X0_ownerOf (X : Cx) {cI cE : ClassId} (h : Ok X cX0_ownerOf RX0 2 cI cE 1 0 0) (a0 : Nat) (a1 : Nat) (a2 : Nat) (th : Nat → Int32) (ow : Nat → Int32) (co : Nat) (ro : Nat) (sl : Int32) (p0 : Nat) (hrc : ro * co ≤ 48) (hp0 : p0 < ro * co) (hR : ∀ (r : Int32) (u : Unit), ((ow p0 = r) ∧ (True)) → RetI X cX0_ownerOf 2 0 0 r [(a0, .inr (0, [.ref a1, .ref a2, .int (nI co), .int (nI ro), .int sl])), (a1, .inl (cI, 48, .inl th)), (a2, .inl (cI, 48, .inl ow))]) : J X 2 0 0 0 [(0, .ref a0), (1, .int (nI p0))] [] [(a0, .inr (0, [.ref a1, .ref a2, .int (nI co), .int (nI ro), .int sl])), (a1, .inl (cI, 48, .inl th)), (a2, .inl (cI, 48, .inl ow))] := by
  refine J_aload_n h (i := 0) dX0_ownerOf_0 rfl 0 rfl ?_
  refine J_iload_n h (i := 1) dX0_ownerOf_1 rfl 1 rfl ?_
  refine K_vi h (wr := []) (c_X0_hasCellN (xl X) (xD X) cI cE a0 a1 a2 th ow co ro sl p0 (by first | exact hrc |  assumption | omega | rfl) (by first | exact hp0 |  assumption | omega | rfl)) yv_X0_hasCell nm_X0_39 (by decide) (by decide) rfl rfl 0 rfl rfl rfl rfl (Nat.le_of_ble_eq_true rfl) (Nat.le_refl _) (Nat.le_refl _) dX0_ownerOf_2 (fun r_2 u_2 p_2 => ?_)
  rcases p_2 with p_2 | p_2
  · obtain ⟨rfl, f0_2, -⟩ := p_2
    show J X 2 0 0 5 [(0, .ref a0), (1, .int (nI p0))] [.int (nI 1)] [(a0, .inr (0, [.ref a1, .ref a2, .int (nI co), .int (nI ro), .int sl])), (a1, .inl (cI, 48, .inl th)), (a2, .inl (cI, 48, .inl ow))]
    refine J_if_eq h 17 dX0_ownerOf_5 (by decide) (fun z => absurd z (by decide)) (fun _ => ?_)
    refine J_aload_n h (i := 0) dX0_ownerOf_8 rfl 0 rfl ?_
    refine J_get h inX0 rfl 0 1 (by decide) rfl rfl nf_X0_15 dX0_ownerOf_9 ?_
    refine J_iload_n h (i := 1) dX0_ownerOf_12 rfl 1 rfl ?_
    refine N_iald h 2 rfl (by decide) (by omega) dX0_ownerOf_13 ?_
    refine J_goto h 18 dX0_ownerOf_14 (by decide) ?_
    exact hR (ow p0) () (⟨rfl, trivial⟩) 18 _ dX0_ownerOf_18
  · obtain ⟨rfl, f0_2, -⟩ := p_2
    exact absurd f0_2 (by omega)
theorem c_X0_ownerOf (l : Launch) (D : va_G) (cI cE : ClassId) (a0 : Nat) (a1 : Nat) (a2 : Nat) (th : Nat → Int32) (ow : Nat → Int32) (co : Nat) (ro : Nat) (sl : Int32) (p0 : Nat) (hrc : ro * co ≤ 48) (hp0 : p0 < ro * co) : Ci l D cI cE yX0_ownerOf cX0_ownerOf 2 (some .int) 1 0 0 [.ref a0, .int (nI p0)] [(a0, .inr (0, [.ref a1, .ref a2, .int (nI co), .int (nI ro), .int sl])), (a1, .inl (cI, 48, .inl th)), (a2, .inl (cI, 48, .inl ow))] (fun (r : Int32) (u : Unit) => ((ow p0 = r) ∧ (True))) (fun (u : Unit) => ([(a0, .inr (0, [.ref a1, .ref a2, .int (nI co), .int (nI ro), .int sl])), (a1, .inl (cI, 48, .inl th)), (a2, .inl (cI, 48, .inl ow))] : va_W)) :=
  Ci.of (by decide) (Nat.le_of_ble_eq_true rfl) (fun _ _ _ => rfl) (fun X h hR => w_X0_ownerOf X h a0 a1 a2 th ow co ro sl p0 hrc hp0 hR)
theorem yv_X0_ownerOf : YV yX0_ownerOf cX0_ownerOf 2 (some .int) 1 := ⟨no_X0_ownerOf, nv_X0_ownerOf, ni_X0, nk_X0_ownerOf, by decide +kernel⟩
set_option maxRecDepth 100000 in
set_option maxHeartbeats 4000000 in
theorem w_X0_putThing (X : Cx) {cI cE : ClassId} (h : Ok X cX0_putThing RX0 3 cI cE 1 0 0) (a0 : Nat) (a1 : Nat) (a2 : Nat) (th : Nat → Int32) (ow : Nat → Int32) (co : Nat) (ro : Nat) (sl : Int32) (p0 : Nat) (p1 : Int32) (hrc : ro * co ≤ 48) (hp0 : p0 < ro * co) (hR : ∀ (u : Unit), ((True)) → RetV X cX0_putThing 3 0 0 [(a0, .inr (0, [.ref a1, .ref a2, .int (nI co), .int (nI ro), .int sl])), (a1, .inl (cI, 48, .inl (upd th p0 p1))), (a2, .inl (cI, 48, .inl ow))]) : J X 3 0 0 0 [(0, .ref a0), (1, .int (nI p0)), (2, .int p1)] [] [(a0, .inr (0, [.ref a1, .ref a2, .int (nI co), .int (nI ro), .int sl])), (a1, .inl (cI, 48, .inl th)), (a2, .inl (cI, 48, .inl ow))] := by
  refine J_aload_n h (i := 0) dX0_putThing_0 rfl 0 rfl ?_
  refine J_iload_n h (i := 1) dX0_putThing_1 rfl 1 rfl ?_
  refine K_vi h (wr := []) (c_X0_hasCellN (xl X) (xD X) cI cE a0 a1 a2 th ow co ro sl p0 (by first | exact hrc |  assumption | omega | rfl) (by first | exact hp0 |  assumption | omega | rfl)) yv_X0_hasCell nm_X0_39 (by decide) (by decide) rfl rfl 0 rfl rfl rfl rfl (Nat.le_of_ble_eq_true rfl) (Nat.le_refl _) (Nat.le_refl _) dX0_putThing_2 (fun r_2 u_2 p_2 => ?_)
  rcases p_2 with p_2 | p_2
  · obtain ⟨rfl, f0_2, -⟩ := p_2
    show J X 3 0 0 5 [(0, .ref a0), (1, .int (nI p0)), (2, .int p1)] [.int (nI 1)] [(a0, .inr (0, [.ref a1, .ref a2, .int (nI co), .int (nI ro), .int sl])), (a1, .inl (cI, 48, .inl th)), (a2, .inl (cI, 48, .inl ow))]
    refine J_if_eq h 15 dX0_putThing_5 (by decide) (fun z => absurd z (by decide)) (fun _ => ?_)
    refine J_aload_n h (i := 0) dX0_putThing_8 rfl 0 rfl ?_
    refine J_get h inX0 rfl 0 0 (by decide) rfl rfl nf_X0_9 dX0_putThing_9 ?_
    refine J_iload_n h (i := 1) dX0_putThing_12 rfl 1 rfl ?_
    refine J_iload_n h (i := 2) dX0_putThing_13 rfl 2 rfl ?_
    refine N_iast h (ws' := [(a0, .inr (0, [.ref a1, .ref a2, .int (nI co), .int (nI ro), .int sl])), (a1, .inl (cI, 48, .inl (upd th p0 p1))), (a2, .inl (cI, 48, .inl ow))]) 1 rfl (by decide) (by omega) dX0_putThing_14 rfl ?_
    exact hR () (trivial) 15 _ dX0_putThing_15
  · obtain ⟨rfl, f0_2, -⟩ := p_2
    exact absurd f0_2 (by omega)
theorem c_X0_putThing (l : Launch) (D : va_G) (cI cE : ClassId) (a0 : Nat) (a1 : Nat) (a2 : Nat) (th : Nat → Int32) (ow : Nat → Int32) (co : Nat) (ro : Nat) (sl : Int32) (p0 : Nat) (p1 : Int32) (hrc : ro * co ≤ 48) (hp0 : p0 < ro * co) : Cv l D cI cE yX0_putThing cX0_putThing 3 none 1 0 0 [.ref a0, .int (nI p0), .int p1] [(a0, .inr (0, [.ref a1, .ref a2, .int (nI co), .int (nI ro), .int sl])), (a1, .inl (cI, 48, .inl th)), (a2, .inl (cI, 48, .inl ow))] (fun (u : Unit) => ((True))) (fun (u : Unit) => ([(a0, .inr (0, [.ref a1, .ref a2, .int (nI co), .int (nI ro), .int sl])), (a1, .inl (cI, 48, .inl (upd th p0 p1))), (a2, .inl (cI, 48, .inl ow))] : va_W)) :=
  Cv.of (by decide) (Nat.le_of_ble_eq_true rfl) (fun X h hR _ => w_X0_putThing X h a0 a1 a2 th ow co ro sl p0 p1 hrc hp0 hR)
theorem yv_X0_putThing : YV yX0_putThing cX0_putThing 3 none 2 := ⟨no_X0_putThing, nv_X0_putThing, ni_X0, nk_X0_putThing, by decide +kernel⟩
set_option maxRecDepth 100000 in
set_option maxHeartbeats 4000000 in
theorem w_X0_putOwner (X : Cx) {cI cE : ClassId} (h : Ok X cX0_putOwner RX0 3 cI cE 1 0 0) (a0 : Nat) (a1 : Nat) (a2 : Nat) (th : Nat → Int32) (ow : Nat → Int32) (co : Nat) (ro : Nat) (sl : Int32) (p0 : Nat) (p1 : Int32) (hrc : ro * co ≤ 48) (hp0 : p0 < ro * co) (hR : ∀ (u : Unit), ((True)) → RetV X cX0_putOwner 3 0 0 [(a0, .inr (0, [.ref a1, .ref a2, .int (nI co), .int (nI ro), .int sl])), (a1, .inl (cI, 48, .inl th)), (a2, .inl (cI, 48, .inl (upd ow p0 p1)))]) : J X 3 0 0 0 [(0, .ref a0), (1, .int (nI p0)), (2, .int p1)] [] [(a0, .inr (0, [.ref a1, .ref a2, .int (nI co), .int (nI ro), .int sl])), (a1, .inl (cI, 48, .inl th)), (a2, .inl (cI, 48, .inl ow))] := by
  refine J_aload_n h (i := 0) dX0_putOwner_0 rfl 0 rfl ?_
  refine J_iload_n h (i := 1) dX0_putOwner_1 rfl 1 rfl ?_
  refine K_vi h (wr := []) (c_X0_hasCellN (xl X) (xD X) cI cE a0 a1 a2 th ow co ro sl p0 (by first | exact hrc |  assumption | omega | rfl) (by first | exact hp0 |  assumption | omega | rfl)) yv_X0_hasCell nm_X0_39 (by decide) (by decide) rfl rfl 0 rfl rfl rfl rfl (Nat.le_of_ble_eq_true rfl) (Nat.le_refl _) (Nat.le_refl _) dX0_putOwner_2 (fun r_2 u_2 p_2 => ?_)
  rcases p_2 with p_2 | p_2
  · obtain ⟨rfl, f0_2, -⟩ := p_2
    show J X 3 0 0 5 [(0, .ref a0), (1, .int (nI p0)), (2, .int p1)] [.int (nI 1)] [(a0, .inr (0, [.ref a1, .ref a2, .int (nI co), .int (nI ro), .int sl])), (a1, .inl (cI, 48, .inl th)), (a2, .inl (cI, 48, .inl ow))]
    refine J_if_eq h 15 dX0_putOwner_5 (by decide) (fun z => absurd z (by decide)) (fun _ => ?_)
    refine J_aload_n h (i := 0) dX0_putOwner_8 rfl 0 rfl ?_
    refine J_get h inX0 rfl 0 1 (by decide) rfl rfl nf_X0_15 dX0_putOwner_9 ?_
    refine J_iload_n h (i := 1) dX0_putOwner_12 rfl 1 rfl ?_
    refine J_iload_n h (i := 2) dX0_putOwner_13 rfl 2 rfl ?_
    refine N_iast h (ws' := [(a0, .inr (0, [.ref a1, .ref a2, .int (nI co), .int (nI ro), .int sl])), (a1, .inl (cI, 48, .inl th)), (a2, .inl (cI, 48, .inl (upd ow p0 p1)))]) 2 rfl (by decide) (by omega) dX0_putOwner_14 rfl ?_
    exact hR () (trivial) 15 _ dX0_putOwner_15
  · obtain ⟨rfl, f0_2, -⟩ := p_2
    exact absurd f0_2 (by omega)
theorem c_X0_putOwner (l : Launch) (D : va_G) (cI cE : ClassId) (a0 : Nat) (a1 : Nat) (a2 : Nat) (th : Nat → Int32) (ow : Nat → Int32) (co : Nat) (ro : Nat) (sl : Int32) (p0 : Nat) (p1 : Int32) (hrc : ro * co ≤ 48) (hp0 : p0 < ro * co) : Cv l D cI cE yX0_putOwner cX0_putOwner 3 none 1 0 0 [.ref a0, .int (nI p0), .int p1] [(a0, .inr (0, [.ref a1, .ref a2, .int (nI co), .int (nI ro), .int sl])), (a1, .inl (cI, 48, .inl th)), (a2, .inl (cI, 48, .inl ow))] (fun (u : Unit) => ((True))) (fun (u : Unit) => ([(a0, .inr (0, [.ref a1, .ref a2, .int (nI co), .int (nI ro), .int sl])), (a1, .inl (cI, 48, .inl th)), (a2, .inl (cI, 48, .inl (upd ow p0 p1)))] : va_W)) :=
  Cv.of (by decide) (Nat.le_of_ble_eq_true rfl) (fun X h hR _ => w_X0_putOwner X h a0 a1 a2 th ow co ro sl p0 p1 hrc hp0 hR)
theorem yv_X0_putOwner : YV yX0_putOwner cX0_putOwner 3 none 2 := ⟨no_X0_putOwner, nv_X0_putOwner, ni_X0, nk_X0_putOwner, by decide +kernel⟩
set_option maxRecDepth 100000 in
set_option maxHeartbeats 4000000 in
theorem w_X0_cellsOf_4 (X : Cx) {cI cE : ClassId} (h : Ok X cX0_cellsOf RX0 4 cI cE 2 0 0) (a0 : Nat) (a1 : Nat) (a2 : Nat) (th : Nat → Int32) (ow : Nat → Int32) (co : Nat) (ro : Nat) (sl : Int32) (p0 : Int32) (hrc : ro * co ≤ 48) (hR : ∀ (r : Int32) (u : Unit), ((nI (cntP (fun k => decide (ow k = p0)) (ro * co)) = r) ∧ (True)) → RetI X cX0_cellsOf 4 0 0 r [(a0, .inr (0, [.ref a1, .ref a2, .int (nI co), .int (nI ro), .int sl])), (a1, .inl (cI, 48, .inl th)), (a2, .inl (cI, 48, .inl ow))]) : ∀ (n_4 : Nat) (i : Nat) (n : Nat), (i ≤ ro * co) → (n = cntP (fun k => decide (ow k = p0)) i) → ro * co - i < n_4 → J X 4 0 0 4 [(0, .ref a0), (1, .int p0), (2, .int (nI n)), (3, .int (nI i))] [] [(a0, .inr (0, [.ref a1, .ref a2, .int (nI co), .int (nI ro), .int sl])), (a1, .inl (cI, 48, .inl th)), (a2, .inl (cI, 48, .inl ow))] := by
  intro n_4
  induction n_4 with
  | zero => intro i n hi hn hn_; exact absurd hn_ (Nat.not_lt_zero _)
  | succ n_4 ih_4 =>
    intro i n hi hn hn_4
    refine J_iload_n h (i := 3) dX0_cellsOf_4 rfl 3 rfl ?_
    refine J_aload_n h (i := 0) dX0_cellsOf_5 rfl 0 rfl ?_
    refine K_vi h (wr := []) (c_X0_cells (xl X) (xD X) cI cE a0 a1 a2 th ow co ro sl ) yv_X0_cells nm_X0_28 (by decide) (by decide) rfl rfl 0 rfl rfl rfl rfl (Nat.le_of_ble_eq_true rfl) (Nat.le_refl _) (Nat.le_refl _) dX0_cellsOf_6 (fun r_6 u_6 p_6 => ?_)
    obtain ⟨rfl, -⟩ := p_6
    show J X 4 0 0 9 [(0, .ref a0), (1, .int p0), (2, .int (nI n)), (3, .int (nI i))] [.int (nI (ro * co)), .int (nI i)] [(a0, .inr (0, [.ref a1, .ref a2, .int (nI co), .int (nI ro), .int sl])), (a1, .inl (cI, 48, .inl th)), (a2, .inl (cI, 48, .inl ow))]
    refine N_icmp_ge h 30 dX0_cellsOf_9 (by decide) (by omega) (by omega) (fun c_9 => ?_) (fun c_9 => ?_)
    · skip
      refine J_iload_n h (i := 2) dX0_cellsOf_30 rfl 2 rfl ?_
      exact hR (nI n) () (⟨(by rw [hn, show i = ro * co by omega]), trivial⟩) 31 _ dX0_cellsOf_31
    · skip
      refine J_aload_n h (i := 0) dX0_cellsOf_12 rfl 0 rfl ?_
      refine J_iload_n h (i := 3) dX0_cellsOf_13 rfl 3 rfl ?_
      refine K_vi h (wr := []) (c_X0_ownerOf (xl X) (xD X) cI cE a0 a1 a2 th ow co ro sl i (by first | exact hrc |  assumption | omega | rfl) (by first | assumption | omega | rfl)) yv_X0_ownerOf nm_X0_43 (by decide) (by decide) rfl rfl 0 rfl rfl rfl rfl (Nat.le_of_ble_eq_true rfl) (Nat.le_refl _) (Nat.le_refl _) dX0_cellsOf_14 (fun r_14 u_14 p_14 => ?_)
      obtain ⟨rfl, -⟩ := p_14
      show J X 4 0 0 17 [(0, .ref a0), (1, .int p0), (2, .int (nI n)), (3, .int (nI i))] [.int (ow i)] [(a0, .inr (0, [.ref a1, .ref a2, .int (nI co), .int (nI ro), .int sl])), (a1, .inl (cI, 48, .inl th)), (a2, .inl (cI, 48, .inl ow))]
      refine J_iload_n h (i := 1) dX0_cellsOf_17 rfl 1 rfl ?_
      refine J_icmp_ne h 24 dX0_cellsOf_18 (by decide) (fun c_18 => ?_) (fun c_18 => ?_)
      · skip
        refine J_iinc h (v := nI (i + 1)) (lv' := [(3, .int (nI (i + 1))), (0, .ref a0), (1, .int p0), (2, .int (nI n))]) dX0_cellsOf_24 3 rfl (inc_ok _ 1) (by decide) rfl ?_
        refine J_goto h 4 dX0_cellsOf_27 (by decide) ?_
        refine J.loc [1, 2, 3, 0] (lv' := [(0, .ref a0), (1, .int p0), (2, .int (nI n)), (3, .int (nI (i + 1)))]) rfl ?_
        exact ih_4 (i + 1) n (by first | exact hi |  assumption | omega | rfl) (by first | (rw [hn, cntP_yes (by simp; assumption)]; done) | (rw [hn, cntP_no (by simp; assumption)]; done)) (by omega)
      · skip
        refine J_iinc h (v := nI (n + 1)) (lv' := [(2, .int (nI (n + 1))), (0, .ref a0), (1, .int p0), (3, .int (nI i))]) dX0_cellsOf_21 2 rfl (inc_ok _ 1) (by decide) rfl ?_
        refine J_iinc h (v := nI (i + 1)) (lv' := [(3, .int (nI (i + 1))), (2, .int (nI (n + 1))), (0, .ref a0), (1, .int p0)]) dX0_cellsOf_24 3 rfl (inc_ok _ 1) (by decide) rfl ?_
        refine J_goto h 4 dX0_cellsOf_27 (by decide) ?_
        refine J.loc [2, 3, 1, 0] (lv' := [(0, .ref a0), (1, .int p0), (2, .int (nI (n + 1))), (3, .int (nI (i + 1)))]) rfl ?_
        exact ih_4 (i + 1) (n + 1) (by first | exact hi |  assumption | omega | rfl) (by first | (rw [hn, cntP_yes (by simp; assumption)]; done) | (rw [hn, cntP_no (by simp; assumption)]; done)) (by omega)
set_option maxRecDepth 100000 in
set_option maxHeartbeats 4000000 in
theorem w_X0_cellsOf (X : Cx) {cI cE : ClassId} (h : Ok X cX0_cellsOf RX0 4 cI cE 2 0 0) (a0 : Nat) (a1 : Nat) (a2 : Nat) (th : Nat → Int32) (ow : Nat → Int32) (co : Nat) (ro : Nat) (sl : Int32) (p0 : Int32) (hrc : ro * co ≤ 48) (hR : ∀ (r : Int32) (u : Unit), ((nI (cntP (fun k => decide (ow k = p0)) (ro * co)) = r) ∧ (True)) → RetI X cX0_cellsOf 4 0 0 r [(a0, .inr (0, [.ref a1, .ref a2, .int (nI co), .int (nI ro), .int sl])), (a1, .inl (cI, 48, .inl th)), (a2, .inl (cI, 48, .inl ow))]) : J X 4 0 0 0 [(0, .ref a0), (1, .int p0)] [] [(a0, .inr (0, [.ref a1, .ref a2, .int (nI co), .int (nI ro), .int sl])), (a1, .inl (cI, 48, .inl th)), (a2, .inl (cI, 48, .inl ow))] := by
  refine J_iconst h (v := nI 0) dX0_cellsOf_0 (by decide) ?_
  refine J_istore_n h (i := 2) (lv' := [(2, .int (nI 0)), (0, .ref a0), (1, .int p0)]) dX0_cellsOf_1 rfl (by decide) rfl ?_
  refine J_iconst h (v := nI 0) dX0_cellsOf_2 (by decide) ?_
  refine J_istore_n h (i := 3) (lv' := [(3, .int (nI 0)), (2, .int (nI 0)), (0, .ref a0), (1, .int p0)]) dX0_cellsOf_3 rfl (by decide) rfl ?_
  refine J.loc [2, 3, 1, 0] (lv' := [(0, .ref a0), (1, .int p0), (2, .int (nI 0)), (3, .int (nI 0))]) rfl ?_
  exact w_X0_cellsOf_4 X h a0 a1 a2 th ow co ro sl p0 hrc hR  (ro * co - 0 + 1) 0 0 (by first | assumption | omega | rfl) (by rfl) (by omega)
theorem c_X0_cellsOf (l : Launch) (D : va_G) (cI cE : ClassId) (a0 : Nat) (a1 : Nat) (a2 : Nat) (th : Nat → Int32) (ow : Nat → Int32) (co : Nat) (ro : Nat) (sl : Int32) (p0 : Int32) (hrc : ro * co ≤ 48) : Ci l D cI cE yX0_cellsOf cX0_cellsOf 4 (some .int) 2 0 0 [.ref a0, .int p0] [(a0, .inr (0, [.ref a1, .ref a2, .int (nI co), .int (nI ro), .int sl])), (a1, .inl (cI, 48, .inl th)), (a2, .inl (cI, 48, .inl ow))] (fun (r : Int32) (u : Unit) => ((nI (cntP (fun k => decide (ow k = p0)) (ro * co)) = r) ∧ (True))) (fun (u : Unit) => ([(a0, .inr (0, [.ref a1, .ref a2, .int (nI co), .int (nI ro), .int sl])), (a1, .inl (cI, 48, .inl th)), (a2, .inl (cI, 48, .inl ow))] : va_W)) :=
  Ci.of (by decide) (Nat.le_of_ble_eq_true rfl) (fun _ _ _ => rfl) (fun X h hR => w_X0_cellsOf X h a0 a1 a2 th ow co ro sl p0 hrc hR)
theorem yv_X0_cellsOf : YV yX0_cellsOf cX0_cellsOf 4 (some .int) 1 := ⟨no_X0_cellsOf, nv_X0_cellsOf, ni_X0, nk_X0_cellsOf, by decide +kernel⟩
set_option maxRecDepth 100000 in
set_option maxHeartbeats 4000000 in
theorem w_X0_cellsWith_4 (X : Cx) {cI cE : ClassId} (h : Ok X cX0_cellsWith RX0 4 cI cE 2 0 0) (a0 : Nat) (a1 : Nat) (a2 : Nat) (th : Nat → Int32) (ow : Nat → Int32) (co : Nat) (ro : Nat) (sl : Int32) (p0 : Int32) (hrc : ro * co ≤ 48) (hR : ∀ (r : Int32) (u : Unit), ((nI (cntP (fun k => decide (th k = p0)) (ro * co)) = r) ∧ (True)) → RetI X cX0_cellsWith 4 0 0 r [(a0, .inr (0, [.ref a1, .ref a2, .int (nI co), .int (nI ro), .int sl])), (a1, .inl (cI, 48, .inl th)), (a2, .inl (cI, 48, .inl ow))]) : ∀ (n_4 : Nat) (i : Nat) (n : Nat), (i ≤ ro * co) → (n = cntP (fun k => decide (th k = p0)) i) → ro * co - i < n_4 → J X 4 0 0 4 [(0, .ref a0), (1, .int p0), (2, .int (nI n)), (3, .int (nI i))] [] [(a0, .inr (0, [.ref a1, .ref a2, .int (nI co), .int (nI ro), .int sl])), (a1, .inl (cI, 48, .inl th)), (a2, .inl (cI, 48, .inl ow))] := by
  intro n_4
  induction n_4 with
  | zero => intro i n hi hn hn_; exact absurd hn_ (Nat.not_lt_zero _)
  | succ n_4 ih_4 =>
    intro i n hi hn hn_4
    refine J_iload_n h (i := 3) dX0_cellsWith_4 rfl 3 rfl ?_
    refine J_aload_n h (i := 0) dX0_cellsWith_5 rfl 0 rfl ?_
    refine K_vi h (wr := []) (c_X0_cells (xl X) (xD X) cI cE a0 a1 a2 th ow co ro sl ) yv_X0_cells nm_X0_28 (by decide) (by decide) rfl rfl 0 rfl rfl rfl rfl (Nat.le_of_ble_eq_true rfl) (Nat.le_refl _) (Nat.le_refl _) dX0_cellsWith_6 (fun r_6 u_6 p_6 => ?_)
    obtain ⟨rfl, -⟩ := p_6
    show J X 4 0 0 9 [(0, .ref a0), (1, .int p0), (2, .int (nI n)), (3, .int (nI i))] [.int (nI (ro * co)), .int (nI i)] [(a0, .inr (0, [.ref a1, .ref a2, .int (nI co), .int (nI ro), .int sl])), (a1, .inl (cI, 48, .inl th)), (a2, .inl (cI, 48, .inl ow))]
    refine N_icmp_ge h 30 dX0_cellsWith_9 (by decide) (by omega) (by omega) (fun c_9 => ?_) (fun c_9 => ?_)
    · skip
      refine J_iload_n h (i := 2) dX0_cellsWith_30 rfl 2 rfl ?_
      exact hR (nI n) () (⟨(by rw [hn, show i = ro * co by omega]), trivial⟩) 31 _ dX0_cellsWith_31
    · skip
      refine J_aload_n h (i := 0) dX0_cellsWith_12 rfl 0 rfl ?_
      refine J_iload_n h (i := 3) dX0_cellsWith_13 rfl 3 rfl ?_
      refine K_vi h (wr := []) (c_X0_thingOn (xl X) (xD X) cI cE a0 a1 a2 th ow co ro sl i (by first | exact hrc |  assumption | omega | rfl) (by first | assumption | omega | rfl)) yv_X0_thingOn nm_X0_50 (by decide) (by decide) rfl rfl 0 rfl rfl rfl rfl (Nat.le_of_ble_eq_true rfl) (Nat.le_refl _) (Nat.le_refl _) dX0_cellsWith_14 (fun r_14 u_14 p_14 => ?_)
      obtain ⟨rfl, -⟩ := p_14
      show J X 4 0 0 17 [(0, .ref a0), (1, .int p0), (2, .int (nI n)), (3, .int (nI i))] [.int (th i)] [(a0, .inr (0, [.ref a1, .ref a2, .int (nI co), .int (nI ro), .int sl])), (a1, .inl (cI, 48, .inl th)), (a2, .inl (cI, 48, .inl ow))]
      refine J_iload_n h (i := 1) dX0_cellsWith_17 rfl 1 rfl ?_
      refine J_icmp_ne h 24 dX0_cellsWith_18 (by decide) (fun c_18 => ?_) (fun c_18 => ?_)
      · skip
        refine J_iinc h (v := nI (i + 1)) (lv' := [(3, .int (nI (i + 1))), (0, .ref a0), (1, .int p0), (2, .int (nI n))]) dX0_cellsWith_24 3 rfl (inc_ok _ 1) (by decide) rfl ?_
        refine J_goto h 4 dX0_cellsWith_27 (by decide) ?_
        refine J.loc [1, 2, 3, 0] (lv' := [(0, .ref a0), (1, .int p0), (2, .int (nI n)), (3, .int (nI (i + 1)))]) rfl ?_
        exact ih_4 (i + 1) n (by first | exact hi |  assumption | omega | rfl) (by first | (rw [hn, cntP_yes (by simp; assumption)]; done) | (rw [hn, cntP_no (by simp; assumption)]; done)) (by omega)
      · skip
        refine J_iinc h (v := nI (n + 1)) (lv' := [(2, .int (nI (n + 1))), (0, .ref a0), (1, .int p0), (3, .int (nI i))]) dX0_cellsWith_21 2 rfl (inc_ok _ 1) (by decide) rfl ?_
        refine J_iinc h (v := nI (i + 1)) (lv' := [(3, .int (nI (i + 1))), (2, .int (nI (n + 1))), (0, .ref a0), (1, .int p0)]) dX0_cellsWith_24 3 rfl (inc_ok _ 1) (by decide) rfl ?_
        refine J_goto h 4 dX0_cellsWith_27 (by decide) ?_
        refine J.loc [2, 3, 1, 0] (lv' := [(0, .ref a0), (1, .int p0), (2, .int (nI (n + 1))), (3, .int (nI (i + 1)))]) rfl ?_
        exact ih_4 (i + 1) (n + 1) (by first | exact hi |  assumption | omega | rfl) (by first | (rw [hn, cntP_yes (by simp; assumption)]; done) | (rw [hn, cntP_no (by simp; assumption)]; done)) (by omega)
set_option maxRecDepth 100000 in
set_option maxHeartbeats 4000000 in
theorem w_X0_cellsWith (X : Cx) {cI cE : ClassId} (h : Ok X cX0_cellsWith RX0 4 cI cE 2 0 0) (a0 : Nat) (a1 : Nat) (a2 : Nat) (th : Nat → Int32) (ow : Nat → Int32) (co : Nat) (ro : Nat) (sl : Int32) (p0 : Int32) (hrc : ro * co ≤ 48) (hR : ∀ (r : Int32) (u : Unit), ((nI (cntP (fun k => decide (th k = p0)) (ro * co)) = r) ∧ (True)) → RetI X cX0_cellsWith 4 0 0 r [(a0, .inr (0, [.ref a1, .ref a2, .int (nI co), .int (nI ro), .int sl])), (a1, .inl (cI, 48, .inl th)), (a2, .inl (cI, 48, .inl ow))]) : J X 4 0 0 0 [(0, .ref a0), (1, .int p0)] [] [(a0, .inr (0, [.ref a1, .ref a2, .int (nI co), .int (nI ro), .int sl])), (a1, .inl (cI, 48, .inl th)), (a2, .inl (cI, 48, .inl ow))] := by
  refine J_iconst h (v := nI 0) dX0_cellsWith_0 (by decide) ?_
  refine J_istore_n h (i := 2) (lv' := [(2, .int (nI 0)), (0, .ref a0), (1, .int p0)]) dX0_cellsWith_1 rfl (by decide) rfl ?_
  refine J_iconst h (v := nI 0) dX0_cellsWith_2 (by decide) ?_
  refine J_istore_n h (i := 3) (lv' := [(3, .int (nI 0)), (2, .int (nI 0)), (0, .ref a0), (1, .int p0)]) dX0_cellsWith_3 rfl (by decide) rfl ?_
  refine J.loc [2, 3, 1, 0] (lv' := [(0, .ref a0), (1, .int p0), (2, .int (nI 0)), (3, .int (nI 0))]) rfl ?_
  exact w_X0_cellsWith_4 X h a0 a1 a2 th ow co ro sl p0 hrc hR  (ro * co - 0 + 1) 0 0 (by first | assumption | omega | rfl) (by rfl) (by omega)
theorem c_X0_cellsWith (l : Launch) (D : va_G) (cI cE : ClassId) (a0 : Nat) (a1 : Nat) (a2 : Nat) (th : Nat → Int32) (ow : Nat → Int32) (co : Nat) (ro : Nat) (sl : Int32) (p0 : Int32) (hrc : ro * co ≤ 48) : Ci l D cI cE yX0_cellsWith cX0_cellsWith 4 (some .int) 2 0 0 [.ref a0, .int p0] [(a0, .inr (0, [.ref a1, .ref a2, .int (nI co), .int (nI ro), .int sl])), (a1, .inl (cI, 48, .inl th)), (a2, .inl (cI, 48, .inl ow))] (fun (r : Int32) (u : Unit) => ((nI (cntP (fun k => decide (th k = p0)) (ro * co)) = r) ∧ (True))) (fun (u : Unit) => ([(a0, .inr (0, [.ref a1, .ref a2, .int (nI co), .int (nI ro), .int sl])), (a1, .inl (cI, 48, .inl th)), (a2, .inl (cI, 48, .inl ow))] : va_W)) :=
  Ci.of (by decide) (Nat.le_of_ble_eq_true rfl) (fun _ _ _ => rfl) (fun X h hR => w_X0_cellsWith X h a0 a1 a2 th ow co ro sl p0 hrc hR)
theorem yv_X0_cellsWith : YV yX0_cellsWith cX0_cellsWith 4 (some .int) 1 := ⟨no_X0_cellsWith, nv_X0_cellsWith, ni_X0, nk_X0_cellsWith, by decide +kernel⟩
set_option maxRecDepth 100000 in
set_option maxHeartbeats 4000000 in
theorem w_X0_cellsOfSides (X : Cx) {cI cE : ClassId} (h : Ok X cX0_cellsOfSides RX0 1 cI cE 3 0 0) (a0 : Nat) (a1 : Nat) (a2 : Nat) (th : Nat → Int32) (ow : Nat → Int32) (co : Nat) (ro : Nat) (sl : Int32) (hrc : ro * co ≤ 48) (hR : ∀ (r : Int32) (u : Unit), ((nI (ro * co - cntP (fun k => decide (ow k = nI 4)) (ro * co)) = r) ∧ (True)) → RetI X cX0_cellsOfSides 1 0 0 r [(a0, .inr (0, [.ref a1, .ref a2, .int (nI co), .int (nI ro), .int sl])), (a1, .inl (cI, 48, .inl th)), (a2, .inl (cI, 48, .inl ow))]) : J X 1 0 0 0 [(0, .ref a0)] [] [(a0, .inr (0, [.ref a1, .ref a2, .int (nI co), .int (nI ro), .int sl])), (a1, .inl (cI, 48, .inl th)), (a2, .inl (cI, 48, .inl ow))] := by
  refine J_aload_n h (i := 0) dX0_cellsOfSides_0 rfl 0 rfl ?_
  refine K_vi h (wr := []) (c_X0_cells (xl X) (xD X) cI cE a0 a1 a2 th ow co ro sl ) yv_X0_cells nm_X0_28 (by decide) (by decide) rfl rfl 0 rfl rfl rfl rfl (Nat.le_of_ble_eq_true rfl) (Nat.le_refl _) (Nat.le_refl _) dX0_cellsOfSides_1 (fun r_1 u_1 p_1 => ?_)
  obtain ⟨rfl, -⟩ := p_1
  show J X 1 0 0 4 [(0, .ref a0)] [.int (nI (ro * co))] [(a0, .inr (0, [.ref a1, .ref a2, .int (nI co), .int (nI ro), .int sl])), (a1, .inl (cI, 48, .inl th)), (a2, .inl (cI, 48, .inl ow))]
  refine J_aload_n h (i := 0) dX0_cellsOfSides_4 rfl 0 rfl ?_
  refine J_iconst h (v := nI 4) dX0_cellsOfSides_5 (by decide) ?_
  refine K_vi h (wr := []) (c_X0_cellsOf (xl X) (xD X) cI cE a0 a1 a2 th ow co ro sl (nI 4) (by first | exact hrc |  assumption | omega | rfl)) yv_X0_cellsOf nm_X0_47 (by decide) (by decide) rfl rfl 0 rfl rfl rfl rfl (Nat.le_of_ble_eq_true rfl) (Nat.le_refl _) (Nat.le_refl _) dX0_cellsOfSides_6 (fun r_6 u_6 p_6 => ?_)
  obtain ⟨rfl, -⟩ := p_6
  show J X 1 0 0 9 [(0, .ref a0)] [.int (nI (cntP (fun k => decide (ow k = (nI 4))) (ro * co))), .int (nI (ro * co))] [(a0, .inr (0, [.ref a1, .ref a2, .int (nI co), .int (nI ro), .int sl])), (a1, .inl (cI, 48, .inl th)), (a2, .inl (cI, 48, .inl ow))]
  have hle := cntP_le (fun k => decide (ow k = nI 4)) (ro * co)
  refine N_isub h (by omega) dX0_cellsOfSides_9 ?_
  exact hR (nI ((ro * co) - (cntP (fun k => decide (ow k = (nI 4))) (ro * co)))) () (⟨(by first | assumption | omega | rfl), trivial⟩) 10 _ dX0_cellsOfSides_10
theorem c_X0_cellsOfSides (l : Launch) (D : va_G) (cI cE : ClassId) (a0 : Nat) (a1 : Nat) (a2 : Nat) (th : Nat → Int32) (ow : Nat → Int32) (co : Nat) (ro : Nat) (sl : Int32) (hrc : ro * co ≤ 48) : Ci l D cI cE yX0_cellsOfSides cX0_cellsOfSides 1 (some .int) 3 0 0 [.ref a0] [(a0, .inr (0, [.ref a1, .ref a2, .int (nI co), .int (nI ro), .int sl])), (a1, .inl (cI, 48, .inl th)), (a2, .inl (cI, 48, .inl ow))] (fun (r : Int32) (u : Unit) => ((nI (ro * co - cntP (fun k => decide (ow k = nI 4)) (ro * co)) = r) ∧ (True))) (fun (u : Unit) => ([(a0, .inr (0, [.ref a1, .ref a2, .int (nI co), .int (nI ro), .int sl])), (a1, .inl (cI, 48, .inl th)), (a2, .inl (cI, 48, .inl ow))] : va_W)) :=
  Ci.of (by decide) (Nat.le_of_ble_eq_true rfl) (fun _ _ _ => rfl) (fun X h hR => w_X0_cellsOfSides X h a0 a1 a2 th ow co ro sl hrc hR)
theorem yv_X0_cellsOfSides : YV yX0_cellsOfSides cX0_cellsOfSides 1 (some .int) 0 := ⟨no_X0_cellsOfSides, nv_X0_cellsOfSides, ni_X0, nk_X0_cellsOfSides, by decide +kernel⟩
set_option maxRecDepth 100000 in
set_option maxHeartbeats 4000000 in
theorem w_X0_frozen (X : Cx) {cI cE : ClassId} (h : Ok X cX0_frozen RX0 1 cI cE 0 0 0) (p0 : Int32)  (hR : ∀ (r : Int32) (u : Unit), ((fz p0 = r) ∧ (True)) → RetI X cX0_frozen 1 0 0 r []) : J X 1 0 0 0 [(0, .int p0)] [] [] := by
  refine J_iload_n h (i := 0) dX0_frozen_0 rfl 0 rfl ?_
  have c_1 : (p0).toInt = 0 ∨ (p0).toInt = 2 ∨ ((p0).toInt ≠ 0 ∧ (p0).toInt ≠ 2) := by omega
  rcases c_1 with c_1 | c_1 | c_1
  · refine J_look h 28 dX0_frozen_1 (by decide) (by first | (rw [c_1]; done) | (rw [c_1]; decide +kernel)) (by decide) ?_
    refine J_iconst h (v := nI 1) dX0_frozen_28 (by decide) ?_
    exact hR (nI 1) () (⟨(by unfold fz; simp [c_1]), trivial⟩) 29 _ dX0_frozen_29
  · refine J_look h 30 dX0_frozen_1 (by decide) (by first | (rw [c_1]; done) | (rw [c_1]; decide +kernel)) (by decide) ?_
    refine J_iconst h (v := nI 0) dX0_frozen_30 (by decide) ?_
    exact hR (nI 0) () (⟨(by unfold fz; simp [c_1]), trivial⟩) 31 _ dX0_frozen_31
  · refine J_look h (off := 31) 32 dX0_frozen_1 (by decide) (by simp [Op.lookupswitch.offset]; rw [if_neg (by omega), if_neg (by omega)]) (by decide) ?_
    refine J_iload_n h (i := 0) dX0_frozen_32 rfl 0 rfl ?_
    exact hR p0 () (⟨(by unfold fz; simp [c_1]), trivial⟩) 33 _ dX0_frozen_33
theorem c_X0_frozen (l : Launch) (D : va_G) (cI cE : ClassId) (p0 : Int32)  : Ci l D cI cE yX0_frozen cX0_frozen 1 (some .int) 0 0 0 [.int p0] [] (fun (r : Int32) (u : Unit) => ((fz p0 = r) ∧ (True))) (fun (u : Unit) => ([] : va_W)) :=
  Ci.of (by decide) (Nat.le_of_ble_eq_true rfl) (fun _ _ _ => rfl) (fun X h hR => w_X0_frozen X h p0 hR)
theorem yv_X0_frozen : YS yX0_frozen cX0_frozen 1 (some .int) 1 := ⟨ns_X0_frozen, ni_X0, nk_X0_frozen, by decide +kernel⟩
set_option maxRecDepth 100000 in
set_option maxHeartbeats 4000000 in
theorem w_X0_freezable_9 (X : Cx) {cI cE : ClassId} (h : Ok X cX0_freezable RX0 4 cI cE 2 0 0) (a0 : Nat) (a1 : Nat) (a2 : Nat) (th : Nat → Int32) (ow : Nat → Int32) (co : Nat) (ro : Nat) (sl : Int32) (p0 : Nat) (hrc : ro * co ≤ 48) (hp0 : p0 < ro) (hR : ∀ (r : Int32) (u : Unit), ((nI (cntP (fun k => decide (fz (th (p0 * co + k)) ≠ th (p0 * co + k))) co) = r) ∧ (True)) → RetI X cX0_freezable 4 0 0 r [(a0, .inr (0, [.ref a1, .ref a2, .int (nI co), .int (nI ro), .int sl])), (a1, .inl (cI, 48, .inl th)), (a2, .inl (cI, 48, .inl ow))]) : ∀ (n_9 : Nat) (i : Nat) (n : Nat), (i ≤ co) → (n = cntP (fun k => decide (fz (th (p0 * co + k)) ≠ th (p0 * co + k))) i) → co - i < n_9 → J X 4 0 0 9 [(0, .ref a0), (1, .int (nI p0)), (2, .int (nI n)), (3, .int (nI (p0 * co + i)))] [] [(a0, .inr (0, [.ref a1, .ref a2, .int (nI co), .int (nI ro), .int sl])), (a1, .inl (cI, 48, .inl th)), (a2, .inl (cI, 48, .inl ow))] := by
  intro n_9
  induction n_9 with
  | zero => intro i n hi hn hn_; exact absurd hn_ (Nat.not_lt_zero _)
  | succ n_9 ih_9 =>
    intro i n hi hn hn_9
    have hlt : p0 * co + co ≤ ro * co := by rw [← Nat.succ_mul]; exact Nat.mul_le_mul_right _ hp0
    have he1 : (p0 + 1) * co = p0 * co + co := Nat.succ_mul _ _
    have hle := cntP_le (fun k => decide (fz (th (p0 * co + k)) ≠ th (p0 * co + k))) i
    refine J_iload_n h (i := 3) dX0_freezable_9 rfl 3 rfl ?_
    refine J_iload_n h (i := 1) dX0_freezable_10 rfl 1 rfl ?_
    refine J_iconst h (v := nI 1) dX0_freezable_11 (by decide) ?_
    refine N_iadd h dX0_freezable_12 ?_
    refine J_aload_n h (i := 0) dX0_freezable_13 rfl 0 rfl ?_
    refine J_get h inX0 rfl 0 2 (by decide) rfl rfl nf_X0_18 dX0_freezable_14 ?_
    refine N_imul h dX0_freezable_17 ?_
    refine N_icmp_ge h 46 dX0_freezable_18 (by decide) (by omega) (by omega) (fun c_18 => ?_) (fun c_18 => ?_)
    · skip
      refine J_iload_n h (i := 2) dX0_freezable_46 rfl 2 rfl ?_
      exact hR (nI n) () (⟨(by rw [hn, show i = co by omega]), trivial⟩) 47 _ dX0_freezable_47
    · skip
      refine J_aload_n h (i := 0) dX0_freezable_21 rfl 0 rfl ?_
      refine J_iload_n h (i := 3) dX0_freezable_22 rfl 3 rfl ?_
      refine K_vi h (wr := []) (c_X0_thingOn (xl X) (xD X) cI cE a0 a1 a2 th ow co ro sl (p0 * co + i) (by first | exact hrc |  assumption | omega | rfl) (by first | exact hp0 |  assumption | omega | rfl)) yv_X0_thingOn nm_X0_50 (by decide) (by decide) rfl rfl 0 rfl rfl rfl rfl (Nat.le_of_ble_eq_true rfl) (Nat.le_refl _) (Nat.le_refl _) dX0_freezable_23 (fun r_23 u_23 p_23 => ?_)
      obtain ⟨rfl, -⟩ := p_23
      show J X 4 0 0 26 [(0, .ref a0), (1, .int (nI p0)), (2, .int (nI n)), (3, .int (nI (p0 * co + i)))] [.int (th (p0 * co + i))] [(a0, .inr (0, [.ref a1, .ref a2, .int (nI co), .int (nI ro), .int sl])), (a1, .inl (cI, 48, .inl th)), (a2, .inl (cI, 48, .inl ow))]
      refine K_si h (wr := [(a0, .inr (0, [.ref a1, .ref a2, .int (nI co), .int (nI ro), .int sl])), (a1, .inl (cI, 48, .inl th)), (a2, .inl (cI, 48, .inl ow))]) (c_X0_frozen (xl X) (xD X) cI cE (th (p0 * co + i)) ) yv_X0_frozen nm_X0_53 (by decide) (by decide) rfl rfl rfl (Nat.le_of_ble_eq_true rfl) (Nat.le_refl _) (Nat.le_refl _) dX0_freezable_26 (fun r_26 u_26 p_26 => ?_)
      obtain ⟨rfl, -⟩ := p_26
      show J X 4 0 0 29 [(0, .ref a0), (1, .int (nI p0)), (2, .int (nI n)), (3, .int (nI (p0 * co + i)))] [.int (fz (th (p0 * co + i)))] [(a0, .inr (0, [.ref a1, .ref a2, .int (nI co), .int (nI ro), .int sl])), (a1, .inl (cI, 48, .inl th)), (a2, .inl (cI, 48, .inl ow))]
      refine J_aload_n h (i := 0) dX0_freezable_29 rfl 0 rfl ?_
      refine J_iload_n h (i := 3) dX0_freezable_30 rfl 3 rfl ?_
      refine K_vi h (wr := []) (c_X0_thingOn (xl X) (xD X) cI cE a0 a1 a2 th ow co ro sl (p0 * co + i) (by first | exact hrc |  assumption | omega | rfl) (by first | exact hp0 |  assumption | omega | rfl)) yv_X0_thingOn nm_X0_50 (by decide) (by decide) rfl rfl 0 rfl rfl rfl rfl (Nat.le_of_ble_eq_true rfl) (Nat.le_refl _) (Nat.le_refl _) dX0_freezable_31 (fun r_31 u_31 p_31 => ?_)
      obtain ⟨rfl, -⟩ := p_31
      show J X 4 0 0 34 [(0, .ref a0), (1, .int (nI p0)), (2, .int (nI n)), (3, .int (nI (p0 * co + i)))] [.int (th (p0 * co + i)), .int (fz (th (p0 * co + i)))] [(a0, .inr (0, [.ref a1, .ref a2, .int (nI co), .int (nI ro), .int sl])), (a1, .inl (cI, 48, .inl th)), (a2, .inl (cI, 48, .inl ow))]
      refine J_icmp_eq h 40 dX0_freezable_34 (by decide) (fun c_34 => ?_) (fun c_34 => ?_)
      · skip
        refine J_iinc h (v := nI ((p0 * co + i) + 1)) (lv' := [(3, .int (nI ((p0 * co + i) + 1))), (0, .ref a0), (1, .int (nI p0)), (2, .int (nI n))]) dX0_freezable_40 3 rfl (inc_ok _ 1) (by decide) rfl ?_
        refine J_goto h 9 dX0_freezable_43 (by decide) ?_
        refine J.loc [1, 2, 3, 0] (lv' := [(0, .ref a0), (1, .int (nI p0)), (2, .int (nI n)), (3, .int (nI ((p0 * co + i) + 1)))]) rfl ?_
        exact ih_9 (i + 1) n (by first | exact hi |  assumption | omega | rfl) (by first | (rw [hn, cntP_yes (by simp; assumption)]; done) | (rw [hn, cntP_no (by simp; assumption)]; done)) (by omega)
      · skip
        refine J_iinc h (v := nI (n + 1)) (lv' := [(2, .int (nI (n + 1))), (0, .ref a0), (1, .int (nI p0)), (3, .int (nI (p0 * co + i)))]) dX0_freezable_37 2 rfl (inc_ok _ 1) (by decide) rfl ?_
        refine J_iinc h (v := nI ((p0 * co + i) + 1)) (lv' := [(3, .int (nI ((p0 * co + i) + 1))), (2, .int (nI (n + 1))), (0, .ref a0), (1, .int (nI p0))]) dX0_freezable_40 3 rfl (inc_ok _ 1) (by decide) rfl ?_
        refine J_goto h 9 dX0_freezable_43 (by decide) ?_
        refine J.loc [2, 3, 1, 0] (lv' := [(0, .ref a0), (1, .int (nI p0)), (2, .int (nI (n + 1))), (3, .int (nI ((p0 * co + i) + 1)))]) rfl ?_
        exact ih_9 (i + 1) (n + 1) (by first | exact hi |  assumption | omega | rfl) (by first | (rw [hn, cntP_yes (by simp; assumption)]; done) | (rw [hn, cntP_no (by simp; assumption)]; done)) (by omega)
set_option maxRecDepth 100000 in
set_option maxHeartbeats 4000000 in
theorem w_X0_freezable (X : Cx) {cI cE : ClassId} (h : Ok X cX0_freezable RX0 4 cI cE 2 0 0) (a0 : Nat) (a1 : Nat) (a2 : Nat) (th : Nat → Int32) (ow : Nat → Int32) (co : Nat) (ro : Nat) (sl : Int32) (p0 : Nat) (hrc : ro * co ≤ 48) (hp0 : p0 < ro) (hR : ∀ (r : Int32) (u : Unit), ((nI (cntP (fun k => decide (fz (th (p0 * co + k)) ≠ th (p0 * co + k))) co) = r) ∧ (True)) → RetI X cX0_freezable 4 0 0 r [(a0, .inr (0, [.ref a1, .ref a2, .int (nI co), .int (nI ro), .int sl])), (a1, .inl (cI, 48, .inl th)), (a2, .inl (cI, 48, .inl ow))]) : J X 4 0 0 0 [(0, .ref a0), (1, .int (nI p0))] [] [(a0, .inr (0, [.ref a1, .ref a2, .int (nI co), .int (nI ro), .int sl])), (a1, .inl (cI, 48, .inl th)), (a2, .inl (cI, 48, .inl ow))] := by
  have hlt : p0 * co + co ≤ ro * co := by rw [← Nat.succ_mul]; exact Nat.mul_le_mul_right _ hp0
  have he1 : (p0 + 1) * co = p0 * co + co := Nat.succ_mul _ _
  refine J_iconst h (v := nI 0) dX0_freezable_0 (by decide) ?_
  refine J_istore_n h (i := 2) (lv' := [(2, .int (nI 0)), (0, .ref a0), (1, .int (nI p0))]) dX0_freezable_1 rfl (by decide) rfl ?_
  refine J_iload_n h (i := 1) dX0_freezable_2 rfl 2 rfl ?_
  refine J_aload_n h (i := 0) dX0_freezable_3 rfl 1 rfl ?_
  refine J_get h inX0 rfl 0 2 (by decide) rfl rfl nf_X0_18 dX0_freezable_4 ?_
  refine N_imul h dX0_freezable_7 ?_
  refine J_istore_n h (i := 3) (lv' := [(3, .int (nI (p0 * co))), (2, .int (nI 0)), (0, .ref a0), (1, .int (nI p0))]) dX0_freezable_8 rfl (by decide) rfl ?_
  refine J.loc [2, 3, 1, 0] (lv' := [(0, .ref a0), (1, .int (nI p0)), (2, .int (nI 0)), (3, .int (nI (p0 * co)))]) rfl ?_
  exact w_X0_freezable_9 X h a0 a1 a2 th ow co ro sl p0 hrc hp0 hR  (co - 0 + 1) 0 0 (by first | assumption | omega | rfl) (by rfl) (by omega)
theorem c_X0_freezable (l : Launch) (D : va_G) (cI cE : ClassId) (a0 : Nat) (a1 : Nat) (a2 : Nat) (th : Nat → Int32) (ow : Nat → Int32) (co : Nat) (ro : Nat) (sl : Int32) (p0 : Nat) (hrc : ro * co ≤ 48) (hp0 : p0 < ro) : Ci l D cI cE yX0_freezable cX0_freezable 4 (some .int) 2 0 0 [.ref a0, .int (nI p0)] [(a0, .inr (0, [.ref a1, .ref a2, .int (nI co), .int (nI ro), .int sl])), (a1, .inl (cI, 48, .inl th)), (a2, .inl (cI, 48, .inl ow))] (fun (r : Int32) (u : Unit) => ((nI (cntP (fun k => decide (fz (th (p0 * co + k)) ≠ th (p0 * co + k))) co) = r) ∧ (True))) (fun (u : Unit) => ([(a0, .inr (0, [.ref a1, .ref a2, .int (nI co), .int (nI ro), .int sl])), (a1, .inl (cI, 48, .inl th)), (a2, .inl (cI, 48, .inl ow))] : va_W)) :=
  Ci.of (by decide) (Nat.le_of_ble_eq_true rfl) (fun _ _ _ => rfl) (fun X h hR => w_X0_freezable X h a0 a1 a2 th ow co ro sl p0 hrc hp0 hR)
theorem yv_X0_freezable : YV yX0_freezable cX0_freezable 4 (some .int) 1 := ⟨no_X0_freezable, nv_X0_freezable, ni_X0, nk_X0_freezable, by decide +kernel⟩
set_option maxRecDepth 100000 in
set_option maxHeartbeats 4000000 in
theorem w_X0_freeze_7 (X : Cx) {cI cE : ClassId} (h : Ok X cX0_freeze RX0 3 cI cE 2 0 0) (a0 : Nat) (a1 : Nat) (a2 : Nat) (th : Nat → Int32) (ow : Nat → Int32) (co : Nat) (ro : Nat) (sl : Int32) (p0 : Nat) (hrc : ro * co ≤ 48) (hp0 : p0 < ro) (hR : ∀ (u : Unit), ((True)) → RetV X cX0_freeze 3 0 0 [(a0, .inr (0, [.ref a1, .ref a2, .int (nI co), .int (nI ro), .int sl])), (a1, .inl (cI, 48, .inl (sgm (p0 * co) co fz th))), (a2, .inl (cI, 48, .inl ow))]) : ∀ (n_7 : Nat) (i : Nat) (t1 : Nat → Int32), (i ≤ co) → (t1 = sgm (p0 * co) i fz th) → co - i < n_7 → J X 3 0 0 7 [(0, .ref a0), (1, .int (nI p0)), (2, .int (nI (p0 * co + i)))] [] [(a0, .inr (0, [.ref a1, .ref a2, .int (nI co), .int (nI ro), .int sl])), (a1, .inl (cI, 48, .inl t1)), (a2, .inl (cI, 48, .inl ow))] := by
  intro n_7
  induction n_7 with
  | zero => intro i t1 hi ht hn_; exact absurd hn_ (Nat.not_lt_zero _)
  | succ n_7 ih_7 =>
    intro i t1 hi ht hn_7
    have hlt : p0 * co + co ≤ ro * co := by rw [← Nat.succ_mul]; exact Nat.mul_le_mul_right _ hp0
    have he1 : (p0 + 1) * co = p0 * co + co := Nat.succ_mul _ _
    refine J_iload_n h (i := 2) dX0_freeze_7 rfl 2 rfl ?_
    refine J_iload_n h (i := 1) dX0_freeze_8 rfl 1 rfl ?_
    refine J_iconst h (v := nI 1) dX0_freeze_9 (by decide) ?_
    refine N_iadd h dX0_freeze_10 ?_
    refine J_aload_n h (i := 0) dX0_freeze_11 rfl 0 rfl ?_
    refine J_get h inX0 rfl 0 2 (by decide) rfl rfl nf_X0_18 dX0_freeze_12 ?_
    refine N_imul h dX0_freeze_15 ?_
    refine N_icmp_ge h 38 dX0_freeze_16 (by decide) (by omega) (by omega) (fun c_16 => ?_) (fun c_16 => ?_)
    · skip
      refine J_arr (g := (sgm (p0 * co) co fz th)) (ws' := [(a0, .inr (0, [.ref a1, .ref a2, .int (nI co), .int (nI ro), .int sl])), (a1, .inl (cI, 48, .inl (sgm (p0 * co) co fz th))), (a2, .inl (cI, 48, .inl ow))]) 1 rfl (by intro j hj; rw [ht, show i = co by omega]) rfl ?_
      exact hR () (trivial) 38 _ dX0_freeze_38
    · skip
      refine J_aload_n h (i := 0) dX0_freeze_19 rfl 0 rfl ?_
      refine J_iload_n h (i := 2) dX0_freeze_20 rfl 2 rfl ?_
      refine J_aload_n h (i := 0) dX0_freeze_21 rfl 0 rfl ?_
      refine J_iload_n h (i := 2) dX0_freeze_22 rfl 2 rfl ?_
      refine K_vi h (wr := []) (c_X0_thingOn (xl X) (xD X) cI cE a0 a1 a2 t1 ow co ro sl (p0 * co + i) (by first | exact hrc |  assumption | omega | rfl) (by first | exact hp0 |  assumption | omega | rfl)) yv_X0_thingOn nm_X0_50 (by decide) (by decide) rfl rfl 0 rfl rfl rfl rfl (Nat.le_of_ble_eq_true rfl) (Nat.le_refl _) (Nat.le_refl _) dX0_freeze_23 (fun r_23 u_23 p_23 => ?_)
      obtain ⟨rfl, -⟩ := p_23
      show J X 3 0 0 26 [(0, .ref a0), (1, .int (nI p0)), (2, .int (nI (p0 * co + i)))] [.int (t1 (p0 * co + i)), .int (nI (p0 * co + i)), .ref a0] [(a0, .inr (0, [.ref a1, .ref a2, .int (nI co), .int (nI ro), .int sl])), (a1, .inl (cI, 48, .inl t1)), (a2, .inl (cI, 48, .inl ow))]
      refine K_si h (wr := [(a0, .inr (0, [.ref a1, .ref a2, .int (nI co), .int (nI ro), .int sl])), (a1, .inl (cI, 48, .inl t1)), (a2, .inl (cI, 48, .inl ow))]) (c_X0_frozen (xl X) (xD X) cI cE (t1 (p0 * co + i)) ) yv_X0_frozen nm_X0_53 (by decide) (by decide) rfl rfl rfl (Nat.le_of_ble_eq_true rfl) (Nat.le_refl _) (Nat.le_refl _) dX0_freeze_26 (fun r_26 u_26 p_26 => ?_)
      obtain ⟨rfl, -⟩ := p_26
      show J X 3 0 0 29 [(0, .ref a0), (1, .int (nI p0)), (2, .int (nI (p0 * co + i)))] [.int (fz (t1 (p0 * co + i))), .int (nI (p0 * co + i)), .ref a0] [(a0, .inr (0, [.ref a1, .ref a2, .int (nI co), .int (nI ro), .int sl])), (a1, .inl (cI, 48, .inl t1)), (a2, .inl (cI, 48, .inl ow))]
      refine K_vv h (wr := []) (c_X0_putThing (xl X) (xD X) cI cE a0 a1 a2 t1 ow co ro sl (p0 * co + i) (fz (t1 (p0 * co + i))) (by first | exact hrc |  assumption | omega | rfl) (by first | exact hp0 |  assumption | omega | rfl)) yv_X0_putThing nm_X0_32 (by decide) (by decide) rfl rfl 0 rfl rfl rfl rfl (Nat.le_of_ble_eq_true rfl) (Nat.le_refl _) (Nat.le_refl _) dX0_freeze_29 (fun u_29 p_29 => ?_)
      show J X 3 0 0 32 [(0, .ref a0), (1, .int (nI p0)), (2, .int (nI (p0 * co + i)))] [] [(a0, .inr (0, [.ref a1, .ref a2, .int (nI co), .int (nI ro), .int sl])), (a1, .inl (cI, 48, .inl (upd t1 (p0 * co + i) (fz (t1 (p0 * co + i)))))), (a2, .inl (cI, 48, .inl ow))]
      refine J_iinc h (v := nI ((p0 * co + i) + 1)) (lv' := [(2, .int (nI ((p0 * co + i) + 1))), (0, .ref a0), (1, .int (nI p0))]) dX0_freeze_32 2 rfl (inc_ok _ 1) (by decide) rfl ?_
      refine J_goto h 7 dX0_freeze_35 (by decide) ?_
      refine J.loc [1, 2, 0] (lv' := [(0, .ref a0), (1, .int (nI p0)), (2, .int (nI ((p0 * co + i) + 1)))]) rfl ?_
      exact ih_7 (i + 1) (upd t1 (p0 * co + i) (fz (t1 (p0 * co + i)))) (by first | exact hi |  assumption | omega | rfl) (by rw [ht, sgm_at, sgm_s]) (by omega)
set_option maxRecDepth 100000 in
set_option maxHeartbeats 4000000 in
theorem w_X0_freeze (X : Cx) {cI cE : ClassId} (h : Ok X cX0_freeze RX0 3 cI cE 2 0 0) (a0 : Nat) (a1 : Nat) (a2 : Nat) (th : Nat → Int32) (ow : Nat → Int32) (co : Nat) (ro : Nat) (sl : Int32) (p0 : Nat) (hrc : ro * co ≤ 48) (hp0 : p0 < ro) (hR : ∀ (u : Unit), ((True)) → RetV X cX0_freeze 3 0 0 [(a0, .inr (0, [.ref a1, .ref a2, .int (nI co), .int (nI ro), .int sl])), (a1, .inl (cI, 48, .inl (sgm (p0 * co) co fz th))), (a2, .inl (cI, 48, .inl ow))]) : J X 3 0 0 0 [(0, .ref a0), (1, .int (nI p0))] [] [(a0, .inr (0, [.ref a1, .ref a2, .int (nI co), .int (nI ro), .int sl])), (a1, .inl (cI, 48, .inl th)), (a2, .inl (cI, 48, .inl ow))] := by
  have hlt : p0 * co + co ≤ ro * co := by rw [← Nat.succ_mul]; exact Nat.mul_le_mul_right _ hp0
  have he1 : (p0 + 1) * co = p0 * co + co := Nat.succ_mul _ _
  refine J_iload_n h (i := 1) dX0_freeze_0 rfl 1 rfl ?_
  refine J_aload_n h (i := 0) dX0_freeze_1 rfl 0 rfl ?_
  refine J_get h inX0 rfl 0 2 (by decide) rfl rfl nf_X0_18 dX0_freeze_2 ?_
  refine N_imul h dX0_freeze_5 ?_
  refine J_istore_n h (i := 2) (lv' := [(2, .int (nI (p0 * co))), (0, .ref a0), (1, .int (nI p0))]) dX0_freeze_6 rfl (by decide) rfl ?_
  refine J.loc [1, 2, 0] (lv' := [(0, .ref a0), (1, .int (nI p0)), (2, .int (nI (p0 * co)))]) rfl ?_
  exact w_X0_freeze_7 X h a0 a1 a2 th ow co ro sl p0 hrc hp0 hR  (co - 0 + 1) 0 th (by first | assumption | omega | rfl) (by rw [sgm_0]) (by omega)
theorem c_X0_freeze (l : Launch) (D : va_G) (cI cE : ClassId) (a0 : Nat) (a1 : Nat) (a2 : Nat) (th : Nat → Int32) (ow : Nat → Int32) (co : Nat) (ro : Nat) (sl : Int32) (p0 : Nat) (hrc : ro * co ≤ 48) (hp0 : p0 < ro) : Cv l D cI cE yX0_freeze cX0_freeze 3 none 2 0 0 [.ref a0, .int (nI p0)] [(a0, .inr (0, [.ref a1, .ref a2, .int (nI co), .int (nI ro), .int sl])), (a1, .inl (cI, 48, .inl th)), (a2, .inl (cI, 48, .inl ow))] (fun (u : Unit) => ((True))) (fun (u : Unit) => ([(a0, .inr (0, [.ref a1, .ref a2, .int (nI co), .int (nI ro), .int sl])), (a1, .inl (cI, 48, .inl (sgm (p0 * co) co fz th))), (a2, .inl (cI, 48, .inl ow))] : va_W)) :=
  Cv.of (by decide) (Nat.le_of_ble_eq_true rfl) (fun X h hR _ => w_X0_freeze X h a0 a1 a2 th ow co ro sl p0 hrc hp0 hR)
theorem yv_X0_freeze : YV yX0_freeze cX0_freeze 3 none 1 := ⟨no_X0_freeze, nv_X0_freeze, ni_X0, nk_X0_freeze, by decide +kernel⟩
set_option maxRecDepth 100000 in
set_option maxHeartbeats 4000000 in
theorem w_X0_addRow_61 (X : Cx) {cI cE : ClassId} (h : Ok X cX0_addRow RX0 3 cI cE 2 0 0) (a0 : Nat) (a1 : Nat) (a2 : Nat) (th : Nat → Int32) (ow : Nat → Int32) (co : Nat) (ro : Nat) (sl : Int32) (p0 : Nat) (hro : ro ≤ 8) (hco : co ≤ 6) (hp0 : p0 < 2147483648) (hR : ∀ (r : Int32) (u : (Nat → Int32) × (Nat → Int32) × (Nat) × (Nat)), ((nI 1 = r) ∧ (2 ≤ p0) ∧ (p0 ≤ 6) ∧ (ro < 8) ∧ (ro = 0 ∨ p0 = co) ∧ ((sgm (ro * p0) p0 (fun _ => nI 0) th) = u.1) ∧ ((sgm (ro * p0) p0 (fun _ => nI 4) ow) = u.2.1) ∧ ((p0) = u.2.2.1) ∧ ((ro + 1) = u.2.2.2) ∧ (True)) ∨ ((nI 0 = r) ∧ (¬ (2 ≤ p0 ∧ p0 ≤ 6 ∧ ro < 8 ∧ (ro = 0 ∨ p0 = co))) ∧ ((th) = u.1) ∧ ((ow) = u.2.1) ∧ ((co) = u.2.2.1) ∧ ((ro) = u.2.2.2) ∧ (True)) → RetI X cX0_addRow 3 0 0 r [(a0, .inr (0, [.ref a1, .ref a2, .int (nI u.2.2.1), .int (nI u.2.2.2), .int sl])), (a1, .inl (cI, 48, .inl u.1)), (a2, .inl (cI, 48, .inl u.2.1))]) : ∀ (n_61 : Nat) (i : Nat) (t1 : Nat → Int32) (o1 : Nat → Int32), (2 ≤ p0) → (p0 ≤ 6) → (ro < 8) → (ro = 0 ∨ p0 = co) → (i ≤ p0) → (t1 = sgm (ro * p0) i (fun _ => nI 0) th) → (o1 = sgm (ro * p0) i (fun _ => nI 4) ow) → p0 - i < n_61 → J X 3 0 0 61 [(0, .ref a0), (1, .int (nI p0)), (2, .int (nI (ro * p0 + i)))] [] [(a0, .inr (0, [.ref a1, .ref a2, .int (nI p0), .int (nI (ro + 1)), .int sl])), (a1, .inl (cI, 48, .inl t1)), (a2, .inl (cI, 48, .inl o1))] := by
  intro n_61
  induction n_61 with
  | zero => intro i t1 o1 h2 h6 h8 hor hi ht ho hn_; exact absurd hn_ (Nat.not_lt_zero _)
  | succ n_61 ih_61 =>
    intro i t1 o1 h2 h6 h8 hor hi ht ho hn_61
    have he1 : (ro + 1) * p0 = ro * p0 + p0 := Nat.succ_mul _ _
    have he2 : (ro + 1) * p0 ≤ 8 * 6 := Nat.mul_le_mul (by omega) (by omega)
    refine J_iload_n h (i := 2) dX0_addRow_61 rfl 2 rfl ?_
    refine J_aload_n h (i := 0) dX0_addRow_62 rfl 0 rfl ?_
    refine K_vi h (wr := []) (c_X0_cells (xl X) (xD X) cI cE a0 a1 a2 t1 o1 p0 (ro + 1) sl ) yv_X0_cells nm_X0_28 (by decide) (by decide) rfl rfl 0 rfl rfl rfl rfl (Nat.le_of_ble_eq_true rfl) (Nat.le_refl _) (Nat.le_refl _) dX0_addRow_63 (fun r_63 u_63 p_63 => ?_)
    obtain ⟨rfl, -⟩ := p_63
    show J X 3 0 0 66 [(0, .ref a0), (1, .int (nI p0)), (2, .int (nI (ro * p0 + i)))] [.int (nI ((ro + 1) * p0)), .int (nI (ro * p0 + i))] [(a0, .inr (0, [.ref a1, .ref a2, .int (nI p0), .int (nI (ro + 1)), .int sl])), (a1, .inl (cI, 48, .inl t1)), (a2, .inl (cI, 48, .inl o1))]
    refine N_icmp_ge h 87 dX0_addRow_66 (by decide) (by omega) (by omega) (fun c_66 => ?_) (fun c_66 => ?_)
    · skip
      refine J_arr (g := (sgm (ro * p0) p0 (fun _ => nI 0) th)) (ws' := [(a0, .inr (0, [.ref a1, .ref a2, .int (nI p0), .int (nI (ro + 1)), .int sl])), (a1, .inl (cI, 48, .inl (sgm (ro * p0) p0 (fun _ => nI 0) th))), (a2, .inl (cI, 48, .inl o1))]) 1 rfl (by intro j hj; rw [ht, show i = p0 by omega]) rfl ?_
      refine J_arr (g := (sgm (ro * p0) p0 (fun _ => nI 4) ow)) (ws' := [(a0, .inr (0, [.ref a1, .ref a2, .int (nI p0), .int (nI (ro + 1)), .int sl])), (a1, .inl (cI, 48, .inl (sgm (ro * p0) p0 (fun _ => nI 0) th))), (a2, .inl (cI, 48, .inl (sgm (ro * p0) p0 (fun _ => nI 4) ow)))]) 2 rfl (by intro j hj; rw [ho, show i = p0 by omega]) rfl ?_
      refine J_iconst h (v := nI 1) dX0_addRow_87 (by decide) ?_
      exact hR (nI 1) (sgm (ro * p0) p0 (fun _ => nI 0) th, sgm (ro * p0) p0 (fun _ => nI 4) ow, p0, ro + 1) (Or.inl ⟨rfl, (by (try dsimp only); first | assumption | omega | rfl), (by (try dsimp only); first | assumption | omega | rfl), (by (try dsimp only); first | assumption | omega | rfl), (by (try dsimp only); first | assumption | omega | rfl), (by first | rfl | ((try dsimp only); first | assumption | omega | rfl)), (by first | rfl | ((try dsimp only); first | assumption | omega | rfl)), (by first | rfl | ((try dsimp only); first | assumption | omega | rfl)), (by first | rfl | ((try dsimp only); first | assumption | omega | rfl)), trivial⟩) 88 _ dX0_addRow_88
    · skip
      refine J_aload_n h (i := 0) dX0_addRow_69 rfl 0 rfl ?_
      refine J_iload_n h (i := 2) dX0_addRow_70 rfl 2 rfl ?_
      refine J_iconst h (v := nI 0) dX0_addRow_71 (by decide) ?_
      refine K_vv h (wr := []) (c_X0_putThing (xl X) (xD X) cI cE a0 a1 a2 t1 o1 p0 (ro + 1) sl (ro * p0 + i) (nI 0) (by first | assumption | omega | rfl) (by first | exact hp0 |  assumption | omega | rfl)) yv_X0_putThing nm_X0_32 (by decide) (by decide) rfl rfl 0 rfl rfl rfl rfl (Nat.le_of_ble_eq_true rfl) (Nat.le_refl _) (Nat.le_refl _) dX0_addRow_72 (fun u_72 p_72 => ?_)
      show J X 3 0 0 75 [(0, .ref a0), (1, .int (nI p0)), (2, .int (nI (ro * p0 + i)))] [] [(a0, .inr (0, [.ref a1, .ref a2, .int (nI p0), .int (nI (ro + 1)), .int sl])), (a1, .inl (cI, 48, .inl (upd t1 (ro * p0 + i) (nI 0)))), (a2, .inl (cI, 48, .inl o1))]
      refine J_aload_n h (i := 0) dX0_addRow_75 rfl 0 rfl ?_
      refine J_iload_n h (i := 2) dX0_addRow_76 rfl 2 rfl ?_
      refine J_iconst h (v := nI 4) dX0_addRow_77 (by decide) ?_
      refine K_vv h (wr := []) (c_X0_putOwner (xl X) (xD X) cI cE a0 a1 a2 (upd t1 (ro * p0 + i) (nI 0)) o1 p0 (ro + 1) sl (ro * p0 + i) (nI 4) (by first | assumption | omega | rfl) (by first | exact hp0 |  assumption | omega | rfl)) yv_X0_putOwner nm_X0_36 (by decide) (by decide) rfl rfl 0 rfl rfl rfl rfl (Nat.le_of_ble_eq_true rfl) (Nat.le_refl _) (Nat.le_refl _) dX0_addRow_78 (fun u_78 p_78 => ?_)
      show J X 3 0 0 81 [(0, .ref a0), (1, .int (nI p0)), (2, .int (nI (ro * p0 + i)))] [] [(a0, .inr (0, [.ref a1, .ref a2, .int (nI p0), .int (nI (ro + 1)), .int sl])), (a1, .inl (cI, 48, .inl ((upd t1 (ro * p0 + i) (nI 0))))), (a2, .inl (cI, 48, .inl (upd o1 (ro * p0 + i) (nI 4))))]
      refine J_iinc h (v := nI ((ro * p0 + i) + 1)) (lv' := [(2, .int (nI ((ro * p0 + i) + 1))), (0, .ref a0), (1, .int (nI p0))]) dX0_addRow_81 2 rfl (inc_ok _ 1) (by decide) rfl ?_
      refine J_goto h 61 dX0_addRow_84 (by decide) ?_
      refine J.loc [1, 2, 0] (lv' := [(0, .ref a0), (1, .int (nI p0)), (2, .int (nI ((ro * p0 + i) + 1)))]) rfl ?_
      exact ih_61 (i + 1) (upd t1 (ro * p0 + i) (nI 0)) (upd o1 (ro * p0 + i) (nI 4)) (by first | exact h2 |  assumption | omega | rfl) (by first | exact h6 |  assumption | omega | rfl) (by first | exact h8 |  assumption | omega | rfl) (by first | exact hor |  assumption | omega | rfl) (by first | exact hi |  assumption | omega | rfl) (by rw [ht]; exact sgm_s (ro * p0) i (fun _ => nI 0) th) (by rw [ho]; exact sgm_s (ro * p0) i (fun _ => nI 4) ow) (by omega)
set_option maxRecDepth 100000 in
set_option maxHeartbeats 4000000 in
theorem w_X0_addRow (X : Cx) {cI cE : ClassId} (h : Ok X cX0_addRow RX0 3 cI cE 2 0 0) (a0 : Nat) (a1 : Nat) (a2 : Nat) (th : Nat → Int32) (ow : Nat → Int32) (co : Nat) (ro : Nat) (sl : Int32) (p0 : Nat) (hro : ro ≤ 8) (hco : co ≤ 6) (hp0 : p0 < 2147483648) (hR : ∀ (r : Int32) (u : (Nat → Int32) × (Nat → Int32) × (Nat) × (Nat)), ((nI 1 = r) ∧ (2 ≤ p0) ∧ (p0 ≤ 6) ∧ (ro < 8) ∧ (ro = 0 ∨ p0 = co) ∧ ((sgm (ro * p0) p0 (fun _ => nI 0) th) = u.1) ∧ ((sgm (ro * p0) p0 (fun _ => nI 4) ow) = u.2.1) ∧ ((p0) = u.2.2.1) ∧ ((ro + 1) = u.2.2.2) ∧ (True)) ∨ ((nI 0 = r) ∧ (¬ (2 ≤ p0 ∧ p0 ≤ 6 ∧ ro < 8 ∧ (ro = 0 ∨ p0 = co))) ∧ ((th) = u.1) ∧ ((ow) = u.2.1) ∧ ((co) = u.2.2.1) ∧ ((ro) = u.2.2.2) ∧ (True)) → RetI X cX0_addRow 3 0 0 r [(a0, .inr (0, [.ref a1, .ref a2, .int (nI u.2.2.1), .int (nI u.2.2.2), .int sl])), (a1, .inl (cI, 48, .inl u.1)), (a2, .inl (cI, 48, .inl u.2.1))]) : J X 3 0 0 0 [(0, .ref a0), (1, .int (nI p0))] [] [(a0, .inr (0, [.ref a1, .ref a2, .int (nI co), .int (nI ro), .int sl])), (a1, .inl (cI, 48, .inl th)), (a2, .inl (cI, 48, .inl ow))] := by
  refine J_iload_n h (i := 1) dX0_addRow_0 rfl 1 rfl ?_
  refine J_iconst h (v := nI 2) dX0_addRow_1 (by decide) ?_
  refine N_icmp_lt h 20 dX0_addRow_2 (by decide) (by omega) (by omega) (fun c_2 => ?_) (fun c_2 => ?_)
  · skip
    refine J_iconst h (v := nI 0) dX0_addRow_20 (by decide) ?_
    exact hR (nI 0) (th, ow, co, ro) (Or.inr (⟨rfl, (by (try dsimp only); first | assumption | omega | rfl), (by first | rfl | ((try dsimp only); first | assumption | omega | rfl)), (by first | rfl | ((try dsimp only); first | assumption | omega | rfl)), (by first | rfl | ((try dsimp only); first | assumption | omega | rfl)), (by first | rfl | ((try dsimp only); first | assumption | omega | rfl)), trivial⟩)) 21 _ dX0_addRow_21
  · skip
    refine J_iload_n h (i := 1) dX0_addRow_5 rfl 1 rfl ?_
    refine J_bipush h (v := nI 6) dX0_addRow_6 (by decide) ?_
    refine N_icmp_gt h 20 dX0_addRow_8 (by decide) (by omega) (by omega) (fun c_8 => ?_) (fun c_8 => ?_)
    · skip
      refine J_iconst h (v := nI 0) dX0_addRow_20 (by decide) ?_
      exact hR (nI 0) (th, ow, co, ro) (Or.inr (⟨rfl, (by (try dsimp only); first | assumption | omega | rfl), (by first | rfl | ((try dsimp only); first | assumption | omega | rfl)), (by first | rfl | ((try dsimp only); first | assumption | omega | rfl)), (by first | rfl | ((try dsimp only); first | assumption | omega | rfl)), (by first | rfl | ((try dsimp only); first | assumption | omega | rfl)), trivial⟩)) 21 _ dX0_addRow_21
    · skip
      refine J_aload_n h (i := 0) dX0_addRow_11 rfl 0 rfl ?_
      refine J_get h inX0 rfl 0 3 (by decide) rfl rfl nf_X0_22 dX0_addRow_12 ?_
      refine J_bipush h (v := nI 8) dX0_addRow_15 (by decide) ?_
      refine N_icmp_lt h 22 dX0_addRow_17 (by decide) (by omega) (by omega) (fun c_17 => ?_) (fun c_17 => ?_)
      · skip
        refine J_aload_n h (i := 0) dX0_addRow_22 rfl 0 rfl ?_
        refine J_get h inX0 rfl 0 3 (by decide) rfl rfl nf_X0_22 dX0_addRow_23 ?_
        refine N_if_le h 39 dX0_addRow_26 (by decide) (by omega) (fun c_26 => ?_) (fun c_26 => ?_)
        · skip
          refine J_aload_n h (i := 0) dX0_addRow_39 rfl 0 rfl ?_
          refine J_iload_n h (i := 1) dX0_addRow_40 rfl 1 rfl ?_
          refine J_put h (ws' := [(a0, .inr (0, [.ref a1, .ref a2, .int (nI p0), .int (nI ro), .int sl])), (a1, .inl (cI, 48, .inl th)), (a2, .inl (cI, 48, .inl ow))]) inX0 tyX0 tyX0_ok nmX0 rfl 0 2 (by decide) rfl nf_X0_18 rfl rfl rfl rfl (Nat.le_of_ble_eq_true rfl) dX0_addRow_41 rfl ?_
          refine J_aload_n h (i := 0) dX0_addRow_44 rfl 0 rfl ?_
          refine J_dup h dX0_addRow_45 rfl ?_
          refine J_get h inX0 rfl 0 3 (by decide) rfl rfl nf_X0_22 dX0_addRow_46 ?_
          refine J_iconst h (v := nI 1) dX0_addRow_49 (by decide) ?_
          refine N_iadd h dX0_addRow_50 ?_
          refine J_put h (ws' := [(a0, .inr (0, [.ref a1, .ref a2, .int (nI p0), .int (nI (ro + 1)), .int sl])), (a1, .inl (cI, 48, .inl th)), (a2, .inl (cI, 48, .inl ow))]) inX0 tyX0 tyX0_ok nmX0 rfl 0 3 (by decide) rfl nf_X0_22 rfl rfl rfl rfl (Nat.le_of_ble_eq_true rfl) dX0_addRow_51 rfl ?_
          refine J_aload_n h (i := 0) dX0_addRow_54 rfl 0 rfl ?_
          refine K_vi h (wr := []) (c_X0_cells (xl X) (xD X) cI cE a0 a1 a2 th ow p0 (ro + 1) sl ) yv_X0_cells nm_X0_28 (by decide) (by decide) rfl rfl 0 rfl rfl rfl rfl (Nat.le_of_ble_eq_true rfl) (Nat.le_refl _) (Nat.le_refl _) dX0_addRow_55 (fun r_55 u_55 p_55 => ?_)
          obtain ⟨rfl, -⟩ := p_55
          show J X 3 0 0 58 [(0, .ref a0), (1, .int (nI p0))] [.int (nI ((ro + 1) * p0))] [(a0, .inr (0, [.ref a1, .ref a2, .int (nI p0), .int (nI (ro + 1)), .int sl])), (a1, .inl (cI, 48, .inl th)), (a2, .inl (cI, 48, .inl ow))]
          refine J_iload_n h (i := 1) dX0_addRow_58 rfl 1 rfl ?_
          have he1 : (ro + 1) * p0 = ro * p0 + p0 := Nat.succ_mul _ _
          refine N_isub h (by omega) dX0_addRow_59 ?_
          refine J_eqs (st' := [.int (nI (ro * p0 + 0))]) (by rw [show (ro + 1) * p0 - p0 = ro * p0 + 0 by omega]) ?_
          refine J_istore_n h (i := 2) (lv' := [(2, .int (nI (ro * p0 + 0))), (0, .ref a0), (1, .int (nI p0))]) dX0_addRow_60 rfl (by decide) rfl ?_
          refine J.loc [1, 2, 0] (lv' := [(0, .ref a0), (1, .int (nI p0)), (2, .int (nI (ro * p0 + 0)))]) rfl ?_
          exact w_X0_addRow_61 X h a0 a1 a2 th ow co ro sl p0 hro hco hp0 hR  (p0 - 0 + 1) 0 th ow (by first | assumption | omega | rfl) (by first | assumption | omega | rfl) (by first | assumption | omega | rfl) (by first | assumption | omega | rfl) (by first | assumption | omega | rfl) (by rw [sgm_0]) (by rw [sgm_0]) (by omega)
        · skip
          refine J_iload_n h (i := 1) dX0_addRow_29 rfl 1 rfl ?_
          refine J_aload_n h (i := 0) dX0_addRow_30 rfl 0 rfl ?_
          refine J_get h inX0 rfl 0 2 (by decide) rfl rfl nf_X0_18 dX0_addRow_31 ?_
          refine N_icmp_eq h 39 dX0_addRow_34 (by decide) (by omega) (by omega) (fun c_34 => ?_) (fun c_34 => ?_)
          · skip
            refine J_aload_n h (i := 0) dX0_addRow_39 rfl 0 rfl ?_
            refine J_iload_n h (i := 1) dX0_addRow_40 rfl 1 rfl ?_
            refine J_put h (ws' := [(a0, .inr (0, [.ref a1, .ref a2, .int (nI p0), .int (nI ro), .int sl])), (a1, .inl (cI, 48, .inl th)), (a2, .inl (cI, 48, .inl ow))]) inX0 tyX0 tyX0_ok nmX0 rfl 0 2 (by decide) rfl nf_X0_18 rfl rfl rfl rfl (Nat.le_of_ble_eq_true rfl) dX0_addRow_41 rfl ?_
            refine J_aload_n h (i := 0) dX0_addRow_44 rfl 0 rfl ?_
            refine J_dup h dX0_addRow_45 rfl ?_
            refine J_get h inX0 rfl 0 3 (by decide) rfl rfl nf_X0_22 dX0_addRow_46 ?_
            refine J_iconst h (v := nI 1) dX0_addRow_49 (by decide) ?_
            refine N_iadd h dX0_addRow_50 ?_
            refine J_put h (ws' := [(a0, .inr (0, [.ref a1, .ref a2, .int (nI p0), .int (nI (ro + 1)), .int sl])), (a1, .inl (cI, 48, .inl th)), (a2, .inl (cI, 48, .inl ow))]) inX0 tyX0 tyX0_ok nmX0 rfl 0 3 (by decide) rfl nf_X0_22 rfl rfl rfl rfl (Nat.le_of_ble_eq_true rfl) dX0_addRow_51 rfl ?_
            refine J_aload_n h (i := 0) dX0_addRow_54 rfl 0 rfl ?_
            refine K_vi h (wr := []) (c_X0_cells (xl X) (xD X) cI cE a0 a1 a2 th ow p0 (ro + 1) sl ) yv_X0_cells nm_X0_28 (by decide) (by decide) rfl rfl 0 rfl rfl rfl rfl (Nat.le_of_ble_eq_true rfl) (Nat.le_refl _) (Nat.le_refl _) dX0_addRow_55 (fun r_55 u_55 p_55 => ?_)
            obtain ⟨rfl, -⟩ := p_55
            show J X 3 0 0 58 [(0, .ref a0), (1, .int (nI p0))] [.int (nI ((ro + 1) * p0))] [(a0, .inr (0, [.ref a1, .ref a2, .int (nI p0), .int (nI (ro + 1)), .int sl])), (a1, .inl (cI, 48, .inl th)), (a2, .inl (cI, 48, .inl ow))]
            refine J_iload_n h (i := 1) dX0_addRow_58 rfl 1 rfl ?_
            have he1 : (ro + 1) * p0 = ro * p0 + p0 := Nat.succ_mul _ _
            refine N_isub h (by omega) dX0_addRow_59 ?_
            refine J_eqs (st' := [.int (nI (ro * p0 + 0))]) (by rw [show (ro + 1) * p0 - p0 = ro * p0 + 0 by omega]) ?_
            refine J_istore_n h (i := 2) (lv' := [(2, .int (nI (ro * p0 + 0))), (0, .ref a0), (1, .int (nI p0))]) dX0_addRow_60 rfl (by decide) rfl ?_
            refine J.loc [1, 2, 0] (lv' := [(0, .ref a0), (1, .int (nI p0)), (2, .int (nI (ro * p0 + 0)))]) rfl ?_
            exact w_X0_addRow_61 X h a0 a1 a2 th ow co ro sl p0 hro hco hp0 hR  (p0 - 0 + 1) 0 th ow (by first | assumption | omega | rfl) (by first | assumption | omega | rfl) (by first | assumption | omega | rfl) (by first | assumption | omega | rfl) (by first | assumption | omega | rfl) (by rw [sgm_0]) (by rw [sgm_0]) (by omega)
          · skip
            refine J_iconst h (v := nI 0) dX0_addRow_37 (by decide) ?_
            exact hR (nI 0) (th, ow, co, ro) (Or.inr (⟨rfl, (by (try dsimp only); first | assumption | omega | rfl), (by first | rfl | ((try dsimp only); first | assumption | omega | rfl)), (by first | rfl | ((try dsimp only); first | assumption | omega | rfl)), (by first | rfl | ((try dsimp only); first | assumption | omega | rfl)), (by first | rfl | ((try dsimp only); first | assumption | omega | rfl)), trivial⟩)) 38 _ dX0_addRow_38
      · skip
        refine J_iconst h (v := nI 0) dX0_addRow_20 (by decide) ?_
        exact hR (nI 0) (th, ow, co, ro) (Or.inr (⟨rfl, (by (try dsimp only); first | assumption | omega | rfl), (by first | rfl | ((try dsimp only); first | assumption | omega | rfl)), (by first | rfl | ((try dsimp only); first | assumption | omega | rfl)), (by first | rfl | ((try dsimp only); first | assumption | omega | rfl)), (by first | rfl | ((try dsimp only); first | assumption | omega | rfl)), trivial⟩)) 21 _ dX0_addRow_21
theorem c_X0_addRow (l : Launch) (D : va_G) (cI cE : ClassId) (a0 : Nat) (a1 : Nat) (a2 : Nat) (th : Nat → Int32) (ow : Nat → Int32) (co : Nat) (ro : Nat) (sl : Int32) (p0 : Nat) (hro : ro ≤ 8) (hco : co ≤ 6) (hp0 : p0 < 2147483648) : Ci l D cI cE yX0_addRow cX0_addRow 3 (some .boolean) 2 0 0 [.ref a0, .int (nI p0)] [(a0, .inr (0, [.ref a1, .ref a2, .int (nI co), .int (nI ro), .int sl])), (a1, .inl (cI, 48, .inl th)), (a2, .inl (cI, 48, .inl ow))] (fun (r : Int32) (u : (Nat → Int32) × (Nat → Int32) × (Nat) × (Nat)) => ((nI 1 = r) ∧ (2 ≤ p0) ∧ (p0 ≤ 6) ∧ (ro < 8) ∧ (ro = 0 ∨ p0 = co) ∧ ((sgm (ro * p0) p0 (fun _ => nI 0) th) = u.1) ∧ ((sgm (ro * p0) p0 (fun _ => nI 4) ow) = u.2.1) ∧ ((p0) = u.2.2.1) ∧ ((ro + 1) = u.2.2.2) ∧ (True)) ∨ ((nI 0 = r) ∧ (¬ (2 ≤ p0 ∧ p0 ≤ 6 ∧ ro < 8 ∧ (ro = 0 ∨ p0 = co))) ∧ ((th) = u.1) ∧ ((ow) = u.2.1) ∧ ((co) = u.2.2.1) ∧ ((ro) = u.2.2.2) ∧ (True))) (fun (u : (Nat → Int32) × (Nat → Int32) × (Nat) × (Nat)) => ([(a0, .inr (0, [.ref a1, .ref a2, .int (nI u.2.2.1), .int (nI u.2.2.2), .int sl])), (a1, .inl (cI, 48, .inl u.1)), (a2, .inl (cI, 48, .inl u.2.1))] : va_W)) :=
  Ci.of (by decide) (Nat.le_of_ble_eq_true rfl) (fun r u hp => by rcases hp with ⟨hp, _⟩ | ⟨hp, _⟩ <;> (rw [← hp]; rfl)) (fun X h hR => w_X0_addRow X h a0 a1 a2 th ow co ro sl p0 hro hco hp0 hR)
theorem yv_X0_addRow : YV yX0_addRow cX0_addRow 3 (some .boolean) 1 := ⟨no_X0_addRow, nv_X0_addRow, ni_X0, nk_X0_addRow, by decide +kernel⟩
set_option maxRecDepth 100000 in
set_option maxHeartbeats 4000000 in
theorem w_X0_beside (X : Cx) {cI cE : ClassId} (h : Ok X cX0_beside RX0 5 cI cE 1 0 0) (a0 : Nat) (a1 : Nat) (a2 : Nat) (th : Nat → Int32) (ow : Nat → Int32) (co : Nat) (ro : Nat) (sl : Int32) (p0 : Nat) (p1 : Nat) (hrc : ro * co ≤ 48) (hp0 : p0 < ro * co) (hp1 : p1 < 4) (hR : ∀ (r : Int32) (u : Unit), (∃ (k : Nat), (nI k = r) ∧ (bsd co ro p0 p1 = some k) ∧ (k < ro * co) ∧ (True)) ∨ (((-4) = r) ∧ (bsd co ro p0 p1 = none) ∧ (True)) → RetI X cX0_beside 5 0 0 r [(a0, .inr (0, [.ref a1, .ref a2, .int (nI co), .int (nI ro), .int sl])), (a1, .inl (cI, 48, .inl th)), (a2, .inl (cI, 48, .inl ow))]) : J X 5 0 0 0 [(0, .ref a0), (1, .int (nI p0)), (2, .int (nI p1))] [] [(a0, .inr (0, [.ref a1, .ref a2, .int (nI co), .int (nI ro), .int sl])), (a1, .inl (cI, 48, .inl th)), (a2, .inl (cI, 48, .inl ow))] := by
  have hco : 0 < co := by rcases Nat.eq_zero_or_pos co with q | q; rw [q, Nat.mul_zero] at hp0; omega; exact q
  have hro0 : 0 < ro := by rcases Nat.eq_zero_or_pos ro with q | q; rw [q, Nat.zero_mul] at hp0; omega; exact q
  have hcl : co ≤ 48 := Nat.le_trans (Nat.le_mul_of_pos_left co hro0) hrc
  have hrl : ro ≤ 48 := Nat.le_trans (Nat.le_mul_of_pos_right ro hco) hrc
  obtain ⟨qd, eqd⟩ : ∃ z, z = p0 / co := ⟨_, rfl⟩
  obtain ⟨qm, eqm⟩ : ∃ z, z = p0 % co := ⟨_, rfl⟩
  have hq : co * qd + qm = p0 := by rw [eqd, eqm]; exact Nat.div_add_mod p0 co
  have hqm : qm < co := by rw [eqm]; exact Nat.mod_lt p0 hco
  have hqd : qd < ro := by rw [eqd]; exact (Nat.div_lt_iff_lt_mul hco).mpr hp0
  have hdd : co * qd = qd * co := Nat.mul_comm _ _
  have hd0 : qd * co + co ≤ ro * co := by rw [← Nat.succ_mul]; exact Nat.mul_le_mul_right co hqd
  have hd1 : qd + 1 < ro → qd * co + co + co ≤ ro * co := fun q => by have := Nat.mul_le_mul_right co (show qd + 2 ≤ ro by omega); rw [Nat.add_mul] at this; omega
  have hd2 : 0 < qd → co ≤ qd * co := fun q => Nat.le_mul_of_pos_left co q
  refine J_aload_n h (i := 0) dX0_beside_0 rfl 0 rfl ?_
  refine J_iload_n h (i := 1) dX0_beside_1 rfl 1 rfl ?_
  refine K_vi h (wr := []) (c_X0_hasCellN (xl X) (xD X) cI cE a0 a1 a2 th ow co ro sl p0 (by first | exact hrc |  assumption | omega | rfl) (by first | exact hp0 |  assumption | omega | rfl)) yv_X0_hasCell nm_X0_39 (by decide) (by decide) rfl rfl 0 rfl rfl rfl rfl (Nat.le_of_ble_eq_true rfl) (Nat.le_refl _) (Nat.le_refl _) dX0_beside_2 (fun r_2 u_2 p_2 => ?_)
  rcases p_2 with p_2 | p_2
  · obtain ⟨rfl, f0_2, -⟩ := p_2
    show J X 5 0 0 5 [(0, .ref a0), (1, .int (nI p0)), (2, .int (nI p1))] [.int (nI 1)] [(a0, .inr (0, [.ref a1, .ref a2, .int (nI co), .int (nI ro), .int sl])), (a1, .inl (cI, 48, .inl th)), (a2, .inl (cI, 48, .inl ow))]
    refine J_if_eq h 15 dX0_beside_5 (by decide) (fun z => absurd z (by decide)) (fun _ => ?_)
    refine J_aload_n h (i := 0) dX0_beside_8 rfl 0 rfl ?_
    refine J_get h inX0 rfl 0 2 (by decide) rfl rfl nf_X0_18 dX0_beside_9 ?_
    refine N_if_gt h 18 dX0_beside_12 (by decide) (by omega) (fun c_12 => ?_) (fun c_12 => False.elim (by rw [c_12, Nat.mul_zero] at hp0; omega))
    refine J_iload_n h (i := 1) dX0_beside_18 rfl 1 rfl ?_
    refine J_aload_n h (i := 0) dX0_beside_19 rfl 0 rfl ?_
    refine J_get h inX0 rfl 0 2 (by decide) rfl rfl nf_X0_18 dX0_beside_20 ?_
    refine N_irem h (by omega) (by omega) (by omega) dX0_beside_23 ?_
    refine J_eqs (st' := [.int (nI qm)]) (by rw [eqm]) ?_
    refine J_istore_n h (i := 3) (lv' := [(3, .int (nI qm)), (0, .ref a0), (1, .int (nI p0)), (2, .int (nI p1))]) dX0_beside_24 rfl (by decide) rfl ?_
    refine J_iload_n h (i := 1) dX0_beside_25 rfl 2 rfl ?_
    refine J_aload_n h (i := 0) dX0_beside_26 rfl 1 rfl ?_
    refine J_get h inX0 rfl 0 2 (by decide) rfl rfl nf_X0_18 dX0_beside_27 ?_
    refine N_idiv h (by omega) (by omega) (by omega) dX0_beside_30 ?_
    refine J_eqs (st' := [.int (nI qd)]) (by rw [eqd]) ?_
    refine J_istore h (lv' := [(4, .int (nI qd)), (3, .int (nI qm)), (0, .ref a0), (1, .int (nI p0)), (2, .int (nI p1))]) dX0_beside_31 (by decide) rfl ?_
    refine J_iload_n h (i := 2) dX0_beside_33 rfl 4 rfl ?_
    have c_34 : p1 = 0 ∨ p1 = 1 ∨ p1 = 2 ∨ 2 < p1 := by omega
    rcases c_34 with c_34 | c_34 | c_34 | c_34
    · refine J_tabIn h (off := 26) 60 dX0_beside_34 (by rw [nI_toInt (by omega)]; omega) (by rw [nI_toInt (by omega)]; omega) (by rw [c_34]; decide +kernel) (by decide) ?_
      refine J_iload_n h (i := 3) dX0_beside_60 rfl 1 rfl ?_
      refine N_if_le h 70 dX0_beside_61 (by decide) (by omega) (fun c_61 => ?_) (fun c_61 => ?_)
      · skip
        refine J_bipush h (v := (-4)) dX0_beside_70 (by decide) ?_
        exact hR ((-4)) () (by first | exact Or.inl ⟨_, rfl, by unfold bsd; rw [← eqd, ← eqm]; rw [if_pos (by omega), if_pos (by omega)], by omega, trivial⟩ | exact Or.inr ⟨rfl, by unfold bsd; rw [← eqd, ← eqm]; rw [if_pos (by omega), if_neg (by omega)], trivial⟩) 72 _ dX0_beside_72
      · skip
        refine J_iload_n h (i := 1) dX0_beside_64 rfl 3 rfl ?_
        refine J_iconst h (v := nI 1) dX0_beside_65 (by decide) ?_
        refine N_isub h (by omega) dX0_beside_66 ?_
        refine J_goto h 72 dX0_beside_67 (by decide) ?_
        exact hR (nI (p0 - 1)) () (by first | exact Or.inl ⟨_, rfl, by unfold bsd; rw [← eqd, ← eqm]; rw [if_pos (by omega), if_pos (by omega)], by omega, trivial⟩ | exact Or.inr ⟨rfl, by unfold bsd; rw [← eqd, ← eqm]; rw [if_pos (by omega), if_neg (by omega)], trivial⟩) 72 _ dX0_beside_72
    · refine J_tabIn h (off := 39) 73 dX0_beside_34 (by rw [nI_toInt (by omega)]; omega) (by rw [nI_toInt (by omega)]; omega) (by rw [c_34]; decide +kernel) (by decide) ?_
      refine J_iload_n h (i := 3) dX0_beside_73 rfl 1 rfl ?_
      refine J_iconst h (v := nI 1) dX0_beside_74 (by decide) ?_
      refine N_iadd h dX0_beside_75 ?_
      refine J_aload_n h (i := 0) dX0_beside_76 rfl 2 rfl ?_
      refine J_get h inX0 rfl 0 2 (by decide) rfl rfl nf_X0_18 dX0_beside_77 ?_
      refine N_icmp_ge h 89 dX0_beside_80 (by decide) (by omega) (by omega) (fun c_80 => ?_) (fun c_80 => ?_)
      · skip
        refine J_bipush h (v := (-4)) dX0_beside_89 (by decide) ?_
        exact hR ((-4)) () (by first | exact Or.inl ⟨_, rfl, by unfold bsd; rw [← eqd, ← eqm]; rw [if_neg (by omega), if_pos (by omega), if_pos (by omega)], by omega, trivial⟩ | exact Or.inr ⟨rfl, by unfold bsd; rw [← eqd, ← eqm]; rw [if_neg (by omega), if_pos (by omega), if_neg (by omega)], trivial⟩) 91 _ dX0_beside_91
      · skip
        refine J_iload_n h (i := 1) dX0_beside_83 rfl 3 rfl ?_
        refine J_iconst h (v := nI 1) dX0_beside_84 (by decide) ?_
        refine N_iadd h dX0_beside_85 ?_
        refine J_goto h 91 dX0_beside_86 (by decide) ?_
        exact hR (nI (p0 + 1)) () (by first | exact Or.inl ⟨_, rfl, by unfold bsd; rw [← eqd, ← eqm]; rw [if_neg (by omega), if_pos (by omega), if_pos (by omega)], by omega, trivial⟩ | exact Or.inr ⟨rfl, by unfold bsd; rw [← eqd, ← eqm]; rw [if_neg (by omega), if_pos (by omega), if_neg (by omega)], trivial⟩) 91 _ dX0_beside_91
    · refine J_tabIn h (off := 58) 92 dX0_beside_34 (by rw [nI_toInt (by omega)]; omega) (by rw [nI_toInt (by omega)]; omega) (by rw [c_34]; decide +kernel) (by decide) ?_
      refine J_iload h dX0_beside_92 0 rfl ?_
      refine N_if_le h 106 dX0_beside_94 (by decide) (by omega) (fun c_94 => ?_) (fun c_94 => ?_)
      · skip
        refine J_bipush h (v := (-4)) dX0_beside_106 (by decide) ?_
        exact hR ((-4)) () (by first | exact Or.inl ⟨_, rfl, by unfold bsd; rw [← eqd, ← eqm]; rw [if_neg (by omega), if_neg (by omega), if_pos (by omega), if_pos (by omega)], by omega, trivial⟩ | exact Or.inr ⟨rfl, by unfold bsd; rw [← eqd, ← eqm]; rw [if_neg (by omega), if_neg (by omega), if_pos (by omega), if_neg (by omega)], trivial⟩) 108 _ dX0_beside_108
      · skip
        refine J_iload_n h (i := 1) dX0_beside_97 rfl 3 rfl ?_
        refine J_aload_n h (i := 0) dX0_beside_98 rfl 2 rfl ?_
        refine J_get h inX0 rfl 0 2 (by decide) rfl rfl nf_X0_18 dX0_beside_99 ?_
        have hge : co ≤ p0 := by have := hd2 (by omega); omega
        refine N_isub h (by omega) dX0_beside_102 ?_
        refine J_goto h 108 dX0_beside_103 (by decide) ?_
        exact hR (nI (p0 - co)) () (by first | exact Or.inl ⟨_, rfl, by unfold bsd; rw [← eqd, ← eqm]; rw [if_neg (by omega), if_neg (by omega), if_pos (by omega), if_pos (by omega)], by omega, trivial⟩ | exact Or.inr ⟨rfl, by unfold bsd; rw [← eqd, ← eqm]; rw [if_neg (by omega), if_neg (by omega), if_pos (by omega), if_neg (by omega)], trivial⟩) 108 _ dX0_beside_108
    · refine J_tabOut h 109 dX0_beside_34 (by rw [nI_toInt (by omega)]; omega) (by decide) ?_
      refine J_iload h dX0_beside_109 0 rfl ?_
      refine J_iconst h (v := nI 1) dX0_beside_111 (by decide) ?_
      refine N_iadd h dX0_beside_112 ?_
      refine J_aload_n h (i := 0) dX0_beside_113 rfl 2 rfl ?_
      refine J_get h inX0 rfl 0 3 (by decide) rfl rfl nf_X0_22 dX0_beside_114 ?_
      refine N_icmp_ge h 129 dX0_beside_117 (by decide) (by omega) (by omega) (fun c_117 => ?_) (fun c_117 => ?_)
      · skip
        refine J_bipush h (v := (-4)) dX0_beside_129 (by decide) ?_
        exact hR ((-4)) () (by first | exact Or.inl ⟨_, rfl, by unfold bsd; rw [← eqd, ← eqm]; rw [if_neg (by omega), if_neg (by omega), if_neg (by omega), if_pos (by omega)], by have := hd1 (by omega); omega, trivial⟩ | exact Or.inr ⟨rfl, by unfold bsd; rw [← eqd, ← eqm]; rw [if_neg (by omega), if_neg (by omega), if_neg (by omega), if_neg (by omega)], trivial⟩) 131 _ dX0_beside_131
      · skip
        refine J_iload_n h (i := 1) dX0_beside_120 rfl 3 rfl ?_
        refine J_aload_n h (i := 0) dX0_beside_121 rfl 2 rfl ?_
        refine J_get h inX0 rfl 0 2 (by decide) rfl rfl nf_X0_18 dX0_beside_122 ?_
        refine N_iadd h dX0_beside_125 ?_
        refine J_goto h 131 dX0_beside_126 (by decide) ?_
        exact hR (nI (p0 + co)) () (by first | exact Or.inl ⟨_, rfl, by unfold bsd; rw [← eqd, ← eqm]; rw [if_neg (by omega), if_neg (by omega), if_neg (by omega), if_pos (by omega)], by have := hd1 (by omega); omega, trivial⟩ | exact Or.inr ⟨rfl, by unfold bsd; rw [← eqd, ← eqm]; rw [if_neg (by omega), if_neg (by omega), if_neg (by omega), if_neg (by omega)], trivial⟩) 131 _ dX0_beside_131
  · obtain ⟨rfl, f0_2, -⟩ := p_2
    exact absurd f0_2 (by omega)
theorem c_X0_beside (l : Launch) (D : va_G) (cI cE : ClassId) (a0 : Nat) (a1 : Nat) (a2 : Nat) (th : Nat → Int32) (ow : Nat → Int32) (co : Nat) (ro : Nat) (sl : Int32) (p0 : Nat) (p1 : Nat) (hrc : ro * co ≤ 48) (hp0 : p0 < ro * co) (hp1 : p1 < 4) : Ci l D cI cE yX0_beside cX0_beside 5 (some .int) 1 0 0 [.ref a0, .int (nI p0), .int (nI p1)] [(a0, .inr (0, [.ref a1, .ref a2, .int (nI co), .int (nI ro), .int sl])), (a1, .inl (cI, 48, .inl th)), (a2, .inl (cI, 48, .inl ow))] (fun (r : Int32) (u : Unit) => (∃ (k : Nat), (nI k = r) ∧ (bsd co ro p0 p1 = some k) ∧ (k < ro * co) ∧ (True)) ∨ (((-4) = r) ∧ (bsd co ro p0 p1 = none) ∧ (True))) (fun (u : Unit) => ([(a0, .inr (0, [.ref a1, .ref a2, .int (nI co), .int (nI ro), .int sl])), (a1, .inl (cI, 48, .inl th)), (a2, .inl (cI, 48, .inl ow))] : va_W)) :=
  Ci.of (by decide) (Nat.le_of_ble_eq_true rfl) (fun _ _ _ => rfl) (fun X h hR => w_X0_beside X h a0 a1 a2 th ow co ro sl p0 p1 hrc hp0 hp1 hR)
theorem yv_X0_beside : YV yX0_beside cX0_beside 5 (some .int) 2 := ⟨no_X0_beside, nv_X0_beside, ni_X0, nk_X0_beside, by decide +kernel⟩
