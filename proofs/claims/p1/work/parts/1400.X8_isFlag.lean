set_option maxRecDepth 100000 in
set_option maxHeartbeats 4000000 in
theorem w_X8_isFlag (X : Cx) {cI cE : ClassId} (h : Ok X cX8_isFlag RX8 1 cI cE 0 0 0) (p0 : Int32)  (hR : ∀ (r : Int32) (u : Unit), ((nI 1 = r) ∧ (vFlag p0) ∧ (True)) ∨ ((nI 0 = r) ∧ (¬ vFlag p0) ∧ (True)) → RetI X cX8_isFlag 1 0 0 r []) : J X 1 0 0 0 [(0, .int p0)] [] [] := by
  refine J_iload_n h (i := 0) dX8_isFlag_0 rfl 0 rfl ?_
  refine T_if_eq h (A := (p0).toInt) 9 dX8_isFlag_1 (by decide) (rfl) (fun c_1 => ?_) (fun c_1 => ?_)
  · skip
    refine J_iconst h (v := nI 1) dX8_isFlag_9 (by decide) ?_
    refine J_goto h 14 dX8_isFlag_10 (by decide) ?_
    exact hR (nI 1) () (Or.inl ⟨rfl, (by first | assumption | omega | rfl), trivial⟩) 14 _ dX8_isFlag_14
  · skip
    refine J_iload_n h (i := 0) dX8_isFlag_4 rfl 0 rfl ?_
    refine J_iconst h (v := nI 1) dX8_isFlag_5 (by decide) ?_
    refine T_icmp_ne h (A := (p0).toInt) (B := 1) 13 dX8_isFlag_6 (by decide) (rfl) (nI_toInt (by omega)) (fun c_6 => ?_) (fun c_6 => ?_)
    · skip
      refine J_iconst h (v := nI 0) dX8_isFlag_13 (by decide) ?_
      exact hR (nI 0) () (Or.inr (⟨rfl, (by first | assumption | omega | rfl), trivial⟩)) 14 _ dX8_isFlag_14
    · skip
      refine J_iconst h (v := nI 1) dX8_isFlag_9 (by decide) ?_
      refine J_goto h 14 dX8_isFlag_10 (by decide) ?_
      exact hR (nI 1) () (Or.inl ⟨rfl, (by first | assumption | omega | rfl), trivial⟩) 14 _ dX8_isFlag_14
theorem c_X8_isFlag (l : Launch) (D : va_G) (cI cE : ClassId) (p0 : Int32)  : Ci l D cI cE yX8_isFlag cX8_isFlag 1 (some .boolean) 0 0 0 [.int p0] [] (fun (r : Int32) (u : Unit) => ((nI 1 = r) ∧ (vFlag p0) ∧ (True)) ∨ ((nI 0 = r) ∧ (¬ vFlag p0) ∧ (True))) (fun (u : Unit) => ([] : va_W)) :=
  Ci.of (by decide) (Nat.le_of_ble_eq_true rfl) (fun r u hp => by rcases hp with ⟨hp, _⟩ | ⟨hp, _⟩ <;> (rw [← hp]; rfl)) (fun X h hR => w_X8_isFlag X h p0 hR)
theorem yv_X8_isFlag : YS yX8_isFlag cX8_isFlag 1 (some .boolean) 1 := ⟨ns_X8_isFlag, ni_X8, nk_X8_isFlag, by decide +kernel⟩
