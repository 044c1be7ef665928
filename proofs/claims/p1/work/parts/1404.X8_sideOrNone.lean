set_option maxRecDepth 100000 in
set_option maxHeartbeats 4000000 in
theorem w_X8_sideOrNone (X : Cx) {cI cE : ClassId} (h : Ok X cX8_sideOrNone RX8 1 cI cE 0 0 0) (p0 : Int32)  (hR : ∀ (r : Int32) (u : Unit), ((sON p0 = r) ∧ (True)) → RetI X cX8_sideOrNone 1 0 0 r []) : J X 1 0 0 0 [(0, .int p0)] [] [] := by
  refine J_iload_n h (i := 0) dX8_sideOrNone_0 rfl 0 rfl ?_
  refine J_iconst h (v := nI 4) dX8_sideOrNone_1 (by decide) ?_
  refine T_icmp_ne h (A := (p0).toInt) (B := 4) 10 dX8_sideOrNone_2 (by decide) (rfl) (nI_toInt (by omega)) (fun c_2 => ?_) (fun c_2 => ?_)
  · skip
    refine J_iload_n h (i := 0) dX8_sideOrNone_10 rfl 0 rfl ?_
    exact hR p0 () (⟨(by unfold sON; first | (rw [if_pos (by omega)]; done) | (rw [if_neg (by omega)]; done)), trivial⟩) 11 _ dX8_sideOrNone_11
  · skip
    refine J_bipush h (v := (-4)) dX8_sideOrNone_5 (by decide) ?_
    refine J_goto h 11 dX8_sideOrNone_7 (by decide) ?_
    exact hR ((-4)) () (⟨(by unfold sON; first | (rw [if_pos (by omega)]; done) | (rw [if_neg (by omega)]; done)), trivial⟩) 11 _ dX8_sideOrNone_11
theorem c_X8_sideOrNone (l : Launch) (D : va_G) (cI cE : ClassId) (p0 : Int32)  : Ci l D cI cE yX8_sideOrNone cX8_sideOrNone 1 (some .int) 0 0 0 [.int p0] [] (fun (r : Int32) (u : Unit) => ((sON p0 = r) ∧ (True))) (fun (u : Unit) => ([] : va_W)) :=
  Ci.of (by decide) (Nat.le_of_ble_eq_true rfl) (fun _ _ _ => rfl) (fun X h hR => w_X8_sideOrNone X h p0 hR)
theorem yv_X8_sideOrNone : YS yX8_sideOrNone cX8_sideOrNone 1 (some .int) 1 := ⟨ns_X8_sideOrNone, ni_X8, nk_X8_sideOrNone, by decide +kernel⟩
