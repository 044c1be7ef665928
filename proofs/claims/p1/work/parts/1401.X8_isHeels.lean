set_option maxRecDepth 100000 in
set_option maxHeartbeats 4000000 in
theorem w_X8_isHeels (X : Cx) {cI cE : ClassId} (h : Ok X cX8_isHeels RX8 1 cI cE 0 0 0) (p0 : Int32)  (hR : ∀ (r : Int32) (u : Unit), ((nI 1 = r) ∧ (vHeels p0) ∧ (True)) ∨ ((nI 0 = r) ∧ (¬ vHeels p0) ∧ (True)) → RetI X cX8_isHeels 1 0 0 r []) : J X 1 0 0 0 [(0, .int p0)] [] [] := by
  refine J_iload_n h (i := 0) dX8_isHeels_0 rfl 0 rfl ?_
  refine T_if_lt h (A := (p0).toInt) 10 dX8_isHeels_1 (by decide) (rfl) (fun c_1 => ?_) (fun c_1 => ?_)
  · skip
    refine J_iload_n h (i := 0) dX8_isHeels_10 rfl 0 rfl ?_
    refine J_bipush h (v := nI 10) dX8_isHeels_11 (by decide) ?_
    refine T_icmp_le h (A := (p0).toInt) (B := 10) 26 dX8_isHeels_13 (by decide) (rfl) (nI_toInt (by omega)) (fun c_13 => ?_) (fun c_13 => ?_)
    · skip
      refine J_iconst h (v := nI 0) dX8_isHeels_26 (by decide) ?_
      exact hR (nI 0) () (Or.inr (⟨rfl, (by first | assumption | omega | rfl), trivial⟩)) 27 _ dX8_isHeels_27
    · skip
      refine J_iload_n h (i := 0) dX8_isHeels_16 rfl 0 rfl ?_
      refine J_bipush h (v := nI 18) dX8_isHeels_17 (by decide) ?_
      refine T_icmp_gt h (A := (p0).toInt) (B := 18) 26 dX8_isHeels_19 (by decide) (rfl) (nI_toInt (by omega)) (fun c_19 => ?_) (fun c_19 => ?_)
      · skip
        refine J_iconst h (v := nI 0) dX8_isHeels_26 (by decide) ?_
        exact hR (nI 0) () (Or.inr (⟨rfl, (by first | assumption | omega | rfl), trivial⟩)) 27 _ dX8_isHeels_27
      · skip
        refine J_iconst h (v := nI 1) dX8_isHeels_22 (by decide) ?_
        refine J_goto h 27 dX8_isHeels_23 (by decide) ?_
        exact hR (nI 1) () (Or.inl ⟨rfl, (by first | assumption | omega | rfl), trivial⟩) 27 _ dX8_isHeels_27
  · skip
    refine J_iload_n h (i := 0) dX8_isHeels_4 rfl 0 rfl ?_
    refine J_bipush h (v := nI 8) dX8_isHeels_5 (by decide) ?_
    refine T_icmp_le h (A := (p0).toInt) (B := 8) 22 dX8_isHeels_7 (by decide) (rfl) (nI_toInt (by omega)) (fun c_7 => ?_) (fun c_7 => ?_)
    · skip
      refine J_iconst h (v := nI 1) dX8_isHeels_22 (by decide) ?_
      refine J_goto h 27 dX8_isHeels_23 (by decide) ?_
      exact hR (nI 1) () (Or.inl ⟨rfl, (by first | assumption | omega | rfl), trivial⟩) 27 _ dX8_isHeels_27
    · skip
      refine J_iload_n h (i := 0) dX8_isHeels_10 rfl 0 rfl ?_
      refine J_bipush h (v := nI 10) dX8_isHeels_11 (by decide) ?_
      refine T_icmp_le h (A := (p0).toInt) (B := 10) 26 dX8_isHeels_13 (by decide) (rfl) (nI_toInt (by omega)) (fun c_13 => ?_) (fun c_13 => ?_)
      · skip
        refine J_iconst h (v := nI 0) dX8_isHeels_26 (by decide) ?_
        exact hR (nI 0) () (Or.inr (⟨rfl, (by first | assumption | omega | rfl), trivial⟩)) 27 _ dX8_isHeels_27
      · skip
        refine J_iload_n h (i := 0) dX8_isHeels_16 rfl 0 rfl ?_
        refine J_bipush h (v := nI 18) dX8_isHeels_17 (by decide) ?_
        refine T_icmp_gt h (A := (p0).toInt) (B := 18) 26 dX8_isHeels_19 (by decide) (rfl) (nI_toInt (by omega)) (fun c_19 => ?_) (fun c_19 => ?_)
        · skip
          refine J_iconst h (v := nI 0) dX8_isHeels_26 (by decide) ?_
          exact hR (nI 0) () (Or.inr (⟨rfl, (by first | assumption | omega | rfl), trivial⟩)) 27 _ dX8_isHeels_27
        · skip
          refine J_iconst h (v := nI 1) dX8_isHeels_22 (by decide) ?_
          refine J_goto h 27 dX8_isHeels_23 (by decide) ?_
          exact hR (nI 1) () (Or.inl ⟨rfl, (by first | assumption | omega | rfl), trivial⟩) 27 _ dX8_isHeels_27
theorem c_X8_isHeels (l : Launch) (D : va_G) (cI cE : ClassId) (p0 : Int32)  : Ci l D cI cE yX8_isHeels cX8_isHeels 1 (some .boolean) 0 0 0 [.int p0] [] (fun (r : Int32) (u : Unit) => ((nI 1 = r) ∧ (vHeels p0) ∧ (True)) ∨ ((nI 0 = r) ∧ (¬ vHeels p0) ∧ (True))) (fun (u : Unit) => ([] : va_W)) :=
  Ci.of (by decide) (Nat.le_of_ble_eq_true rfl) (fun r u hp => by rcases hp with ⟨hp, _⟩ | ⟨hp, _⟩ <;> (rw [← hp]; rfl)) (fun X h hR => w_X8_isHeels X h p0 hR)
theorem yv_X8_isHeels : YS yX8_isHeels cX8_isHeels 1 (some .boolean) 1 := ⟨ns_X8_isHeels, ni_X8, nk_X8_isHeels, by decide +kernel⟩
