set_option maxRecDepth 100000 in
set_option maxHeartbeats 4000000 in
theorem w_X8_drawOf (X : Cx) {cI cE : ClassId} (h : Ok X cX8_drawOf RX8 4 cI cE 0 0 0) (p0 : Nat) (p1 : Nat) (h0 : p0 ≤ 9999) (h1 : p1 ≤ 60) (hR : ∀ (r : Int32) (u : Unit), ((nI (drw p0 p1) = r) ∧ (True)) → RetI X cX8_drawOf 4 0 0 r []) : J X 4 0 0 0 [(0, .int (nI p0)), (1, .int (nI p1))] [] [] := by
  refine J_ldc2 h nl_X8_258 dX8_drawOf_0 ?_
  refine J_iload_n h (i := 0) dX8_drawOf_3 rfl 0 rfl ?_
  refine J_i2l h dX8_drawOf_4 ?_
  refine J_lmul h dX8_drawOf_5 ?_
  refine J_ldc2 h nl_X8_260 dX8_drawOf_6 ?_
  refine J_iload_n h (i := 1) dX8_drawOf_9 rfl 1 rfl ?_
  refine J_i2l h dX8_drawOf_10 ?_
  refine J_lmul h dX8_drawOf_11 ?_
  refine J_ladd h dX8_drawOf_12 ?_
  refine J_lconst h (v := 1) dX8_drawOf_13 rfl ?_
  refine J_ladd h dX8_drawOf_14 ?_
  refine J_lstore_n h (i := 2) (lv' := [(2, .long (((7919 * ((nI p0).toInt64)) + (6151 * ((nI p1).toInt64))) + 1)), (0, .int (nI p0)), (1, .int (nI p1))]) dX8_drawOf_15 rfl (by decide) rfl ?_
  refine J_lload_n h (i := 2) dX8_drawOf_16 rfl 0 rfl ?_
  refine J_lload_n h (i := 2) dX8_drawOf_17 rfl 0 rfl ?_
  refine J_lmul h dX8_drawOf_18 ?_
  refine J_ldc2 h nl_X8_262 dX8_drawOf_19 ?_
  refine J_lrem h dX8_drawOf_22 (by decide) ?_
  refine J_ldc2 h nl_X8_264 dX8_drawOf_23 ?_
  refine J_ldiv h dX8_drawOf_26 (by decide) ?_
  refine J_l2i h dX8_drawOf_27 ?_
  exact hR (((((((7919 * ((nI p0).toInt64)) + (6151 * ((nI p1).toInt64))) + 1) * (((7919 * ((nI p0).toInt64)) + (6151 * ((nI p1).toInt64))) + 1)) - ((((7919 * ((nI p0).toInt64)) + (6151 * ((nI p1).toInt64))) + 1) * (((7919 * ((nI p0).toInt64)) + (6151 * ((nI p1).toInt64))) + 1)) / 65521 * 65521) / 2).toInt32) () (⟨(by exact (drw_long p0 p1 h0 h1).symm), trivial⟩) 28 _ dX8_drawOf_28
theorem c_X8_drawOf (l : Launch) (D : va_G) (cI cE : ClassId) (p0 : Nat) (p1 : Nat) (h0 : p0 ≤ 9999) (h1 : p1 ≤ 60) : Ci l D cI cE yX8_drawOf cX8_drawOf 4 (some .int) 0 0 0 [.int (nI p0), .int (nI p1)] [] (fun (r : Int32) (u : Unit) => ((nI (drw p0 p1) = r) ∧ (True))) (fun (u : Unit) => ([] : va_W)) :=
  Ci.of (by decide) (Nat.le_of_ble_eq_true rfl) (fun _ _ _ => rfl) (fun X h hR => w_X8_drawOf X h p0 p1 h0 h1 hR)
theorem yv_X8_drawOf : YS yX8_drawOf cX8_drawOf 4 (some .int) 2 := ⟨ns_X8_drawOf, ni_X8, nk_X8_drawOf, by decide +kernel⟩
