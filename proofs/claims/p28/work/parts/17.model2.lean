set_option maxRecDepth 100000 in
set_option maxHeartbeats 4000000 in
theorem w_X9_here (X : Cx) {cI cE : ClassId} (h : Ok X cX9_here RX9 1 cI cE 0 0 0) (q0 : Nat) (q3 : Nat) (q4 : Nat) (q6 : Nat) (q7 : Nat) (q8 : Nat) (q9 : Nat) (q14 : Nat) (q15 : Nat) (q17 : Nat) (q18 : Nat) (q19 : Nat) (q23 : Nat) (q24 : Nat) (q25 : Nat) (ro : Int32) (co : Int32) (sl : Int32) (sn : Int32) (ts : Nat) (ra : Nat) (rr : Int32) (rw : Int32) (rn : Int32) (um : Int32) (bs : Int32) (bh : Int32) (km : Int32) (lx : Nat → Nat) (hlx : ∀ j, lx j ≤ 126) (hts : ts ≤ 200) (hra : ra < 100000) (hR : ∀ (r : Int32) (u : Unit), ((nI (ltr lx ts ra) = r) ∧ (True)) → RetI X cX9_here 1 0 0 r [(q0, .inr (9, [.int ro, .int co, .int sl, .ref q3, .ref q4, .int sn, .ref q6, .ref q7, .ref q8, .ref q9, .int (nI ts), .int (nI ra), .int rr, .int rw, .ref q14, .ref q15, .int rn, .ref q17, .ref q18, .ref q19, .int um, .int bs, .int bh, .ref q23, .ref q24, .ref q25, .int km])), (q9, .inl (cI, 200, .inl (nA lx)))]) : J X 1 0 0 0 [(0, .ref q0)] [] [(q0, .inr (9, [.int ro, .int co, .int sl, .ref q3, .ref q4, .int sn, .ref q6, .ref q7, .ref q8, .ref q9, .int (nI ts), .int (nI ra), .int rr, .int rw, .ref q14, .ref q15, .int rn, .ref q17, .ref q18, .ref q19, .int um, .int bs, .int bh, .ref q23, .ref q24, .ref q25, .int km])), (q9, .inl (cI, 200, .inl (nA lx)))] := by
  refine J_aload_n h (i := 0) dX9_here_0 rfl 0 rfl ?_
  refine J_get h inX9 rfl 0 11 (by decide) rfl rfl nf_X9_81 dX9_here_1 ?_
  refine J_aload_n h (i := 0) dX9_here_4 rfl 0 rfl ?_
  refine J_get h inX9 rfl 0 10 (by decide) rfl rfl nf_X9_78 dX9_here_5 ?_
  refine N_icmp_ge h 23 dX9_here_8 (by decide) (by omega) (by omega) (fun c_8 => ?_) (fun c_8 => ?_)
  · skip
    refine J_iconst h (v := nI 0) dX9_here_23 (by decide) ?_
    exact hR (nI 0) () (⟨(by unfold ltr; first | (rw [if_pos (by omega)]; rfl) | (rw [if_neg (by omega)]; done)), trivial⟩) 24 _ dX9_here_24
  · skip
    refine J_aload_n h (i := 0) dX9_here_11 rfl 0 rfl ?_
    refine J_get h inX9 rfl 0 9 (by decide) rfl rfl nf_X9_25 dX9_here_12 ?_
    refine J_aload_n h (i := 0) dX9_here_15 rfl 0 rfl ?_
    refine J_get h inX9 rfl 0 11 (by decide) rfl rfl nf_X9_81 dX9_here_16 ?_
    refine N_iald h 1 rfl (by decide) (by omega) dX9_here_19 ?_
    refine J_goto h 24 dX9_here_20 (by decide) ?_
    exact hR ((nA lx) ra) () (⟨(by unfold ltr; first | (rw [if_pos (by omega)]; rfl) | (rw [if_neg (by omega)]; done)), trivial⟩) 24 _ dX9_here_24
theorem c_X9_here (l : Launch) (D : va_G) (cI cE : ClassId) (q0 : Nat) (q3 : Nat) (q4 : Nat) (q6 : Nat) (q7 : Nat) (q8 : Nat) (q9 : Nat) (q14 : Nat) (q15 : Nat) (q17 : Nat) (q18 : Nat) (q19 : Nat) (q23 : Nat) (q24 : Nat) (q25 : Nat) (ro : Int32) (co : Int32) (sl : Int32) (sn : Int32) (ts : Nat) (ra : Nat) (rr : Int32) (rw : Int32) (rn : Int32) (um : Int32) (bs : Int32) (bh : Int32) (km : Int32) (lx : Nat → Nat) (hlx : ∀ j, lx j ≤ 126) (hts : ts ≤ 200) (hra : ra < 100000) : Ci l D cI cE yX9_here cX9_here 1 (some .int) 0 0 0 [.ref q0] [(q0, .inr (9, [.int ro, .int co, .int sl, .ref q3, .ref q4, .int sn, .ref q6, .ref q7, .ref q8, .ref q9, .int (nI ts), .int (nI ra), .int rr, .int rw, .ref q14, .ref q15, .int rn, .ref q17, .ref q18, .ref q19, .int um, .int bs, .int bh, .ref q23, .ref q24, .ref q25, .int km])), (q9, .inl (cI, 200, .inl (nA lx)))] (fun (r : Int32) (u : Unit) => ((nI (ltr lx ts ra) = r) ∧ (True))) (fun (u : Unit) => ([(q0, .inr (9, [.int ro, .int co, .int sl, .ref q3, .ref q4, .int sn, .ref q6, .ref q7, .ref q8, .ref q9, .int (nI ts), .int (nI ra), .int rr, .int rw, .ref q14, .ref q15, .int rn, .ref q17, .ref q18, .ref q19, .int um, .int bs, .int bh, .ref q23, .ref q24, .ref q25, .int km])), (q9, .inl (cI, 200, .inl (nA lx)))] : va_W)) :=
  Ci.of (by decide) (Nat.le_of_ble_eq_true rfl) (fun _ _ _ => rfl) (fun X h hR => w_X9_here X h q0 q3 q4 q6 q7 q8 q9 q14 q15 q17 q18 q19 q23 q24 q25 ro co sl sn ts ra rr rw rn um bs bh km lx hlx hts hra hR)
theorem yv_X9_here : YV yX9_here cX9_here 1 (some .int) 0 := ⟨no_X9_here, nv_X9_here, ni_X9, nk_X9_here, by decide +kernel⟩
set_option maxRecDepth 100000 in
set_option maxHeartbeats 4000000 in
theorem w_X9_isFigure (X : Cx) {cI cE : ClassId} (h : Ok X cX9_isFigure RX9 1 cI cE 1 0 0) (q0 : Nat) (q3 : Nat) (q4 : Nat) (q6 : Nat) (q7 : Nat) (q8 : Nat) (q9 : Nat) (q14 : Nat) (q15 : Nat) (q17 : Nat) (q18 : Nat) (q19 : Nat) (q23 : Nat) (q24 : Nat) (q25 : Nat) (ro : Int32) (co : Int32) (sl : Int32) (sn : Int32) (ts : Nat) (ra : Nat) (rr : Int32) (rw : Int32) (rn : Int32) (um : Int32) (bs : Int32) (bh : Int32) (km : Int32) (lx : Nat → Nat) (hlx : ∀ j, lx j ≤ 126) (hts : ts ≤ 200) (hra : ra < 100000) (hR : ∀ (r : Int32) (u : Unit), ((nI 1 = r) ∧ (48 ≤ ltr lx ts ra ∧ ltr lx ts ra ≤ 57) ∧ (True)) ∨ ((nI 0 = r) ∧ (¬ (48 ≤ ltr lx ts ra ∧ ltr lx ts ra ≤ 57)) ∧ (True)) → RetI X cX9_isFigure 1 0 0 r [(q0, .inr (9, [.int ro, .int co, .int sl, .ref q3, .ref q4, .int sn, .ref q6, .ref q7, .ref q8, .ref q9, .int (nI ts), .int (nI ra), .int rr, .int rw, .ref q14, .ref q15, .int rn, .ref q17, .ref q18, .ref q19, .int um, .int bs, .int bh, .ref q23, .ref q24, .ref q25, .int km])), (q9, .inl (cI, 200, .inl (nA lx)))]) : J X 1 0 0 0 [(0, .ref q0)] [] [(q0, .inr (9, [.int ro, .int co, .int sl, .ref q3, .ref q4, .int sn, .ref q6, .ref q7, .ref q8, .ref q9, .int (nI ts), .int (nI ra), .int rr, .int rw, .ref q14, .ref q15, .int rn, .ref q17, .ref q18, .ref q19, .int um, .int bs, .int bh, .ref q23, .ref q24, .ref q25, .int km])), (q9, .inl (cI, 200, .inl (nA lx)))] := by
  have hl0 := ltr_le hlx ts ra
  refine J_aload_n h (i := 0) dX9_isFigure_0 rfl 0 rfl ?_
  refine K_vi h (wr := []) (c_X9_here (xl X) (xD X) cI cE q0 q3 q4 q6 q7 q8 q9 q14 q15 q17 q18 q19 q23 q24 q25 ro co sl sn ts ra rr rw rn um bs bh km lx (by first | exact hlx |  assumption | omega | rfl) (by first | exact hts |  assumption | omega | rfl) (by first | exact hra |  assumption | omega | rfl)) yv_X9_here nm_X9_84 (by decide) (by decide) rfl rfl 0 rfl rfl rfl rfl (Nat.le_of_ble_eq_true rfl) (Nat.le_refl _) (Nat.le_refl _) dX9_isFigure_1 (fun r_1 u_1 p_1 => ?_)
  obtain ⟨rfl, -⟩ := p_1
  show J X 1 0 0 4 [(0, .ref q0)] [.int (nI (ltr lx ts ra))] [(q0, .inr (9, [.int ro, .int co, .int sl, .ref q3, .ref q4, .int sn, .ref q6, .ref q7, .ref q8, .ref q9, .int (nI ts), .int (nI ra), .int rr, .int rw, .ref q14, .ref q15, .int rn, .ref q17, .ref q18, .ref q19, .int um, .int bs, .int bh, .ref q23, .ref q24, .ref q25, .int km])), (q9, .inl (cI, 200, .inl (nA lx)))]
  refine J_bipush h (v := nI 48) dX9_isFigure_4 (by decide) ?_
  refine J_bipush h (v := nI 57) dX9_isFigure_6 (by decide) ?_
  refine K_si h (wr := [(q0, .inr (9, [.int ro, .int co, .int sl, .ref q3, .ref q4, .int sn, .ref q6, .ref q7, .ref q8, .ref q9, .int (nI ts), .int (nI ra), .int rr, .int rw, .ref q14, .ref q15, .int rn, .ref q17, .ref q18, .ref q19, .int um, .int bs, .int bh, .ref q23, .ref q24, .ref q25, .int km])), (q9, .inl (cI, 200, .inl (nA lx)))]) (c_X9_in (xl X) (xD X) cI cE (nI (ltr lx ts ra)) (nI 48) (nI 57) (((ltr lx ts ra : Nat) : Int)) 48 57 (by exact nI_toInt (by omega)) (by exact nI_toInt (by omega)) (by exact nI_toInt (by omega))) yv_X9_in nm_X9_67 (by decide) (by decide) rfl rfl rfl (Nat.le_of_ble_eq_true rfl) (Nat.le_refl _) (Nat.le_refl _) dX9_isFigure_8 (fun r_8 u_8 p_8 => ?_)
  rcases p_8 with p_8 | p_8
  · obtain ⟨rfl, f0_8, -⟩ := p_8
    show J X 1 0 0 11 [(0, .ref q0)] [.int (nI 1)] [(q0, .inr (9, [.int ro, .int co, .int sl, .ref q3, .ref q4, .int sn, .ref q6, .ref q7, .ref q8, .ref q9, .int (nI ts), .int (nI ra), .int rr, .int rw, .ref q14, .ref q15, .int rn, .ref q17, .ref q18, .ref q19, .int um, .int bs, .int bh, .ref q23, .ref q24, .ref q25, .int km])), (q9, .inl (cI, 200, .inl (nA lx)))]
    exact hR (nI 1) () (by first | exact Or.inl ⟨rfl, by omega, trivial⟩ | exact Or.inr ⟨rfl, by omega, trivial⟩) 11 _ dX9_isFigure_11
  · obtain ⟨rfl, f0_8, -⟩ := p_8
    show J X 1 0 0 11 [(0, .ref q0)] [.int (nI 0)] [(q0, .inr (9, [.int ro, .int co, .int sl, .ref q3, .ref q4, .int sn, .ref q6, .ref q7, .ref q8, .ref q9, .int (nI ts), .int (nI ra), .int rr, .int rw, .ref q14, .ref q15, .int rn, .ref q17, .ref q18, .ref q19, .int um, .int bs, .int bh, .ref q23, .ref q24, .ref q25, .int km])), (q9, .inl (cI, 200, .inl (nA lx)))]
    exact hR (nI 0) () (by first | exact Or.inl ⟨rfl, by omega, trivial⟩ | exact Or.inr ⟨rfl, by omega, trivial⟩) 11 _ dX9_isFigure_11
theorem c_X9_isFigure (l : Launch) (D : va_G) (cI cE : ClassId) (q0 : Nat) (q3 : Nat) (q4 : Nat) (q6 : Nat) (q7 : Nat) (q8 : Nat) (q9 : Nat) (q14 : Nat) (q15 : Nat) (q17 : Nat) (q18 : Nat) (q19 : Nat) (q23 : Nat) (q24 : Nat) (q25 : Nat) (ro : Int32) (co : Int32) (sl : Int32) (sn : Int32) (ts : Nat) (ra : Nat) (rr : Int32) (rw : Int32) (rn : Int32) (um : Int32) (bs : Int32) (bh : Int32) (km : Int32) (lx : Nat → Nat) (hlx : ∀ j, lx j ≤ 126) (hts : ts ≤ 200) (hra : ra < 100000) : Ci l D cI cE yX9_isFigure cX9_isFigure 1 (some .boolean) 1 0 0 [.ref q0] [(q0, .inr (9, [.int ro, .int co, .int sl, .ref q3, .ref q4, .int sn, .ref q6, .ref q7, .ref q8, .ref q9, .int (nI ts), .int (nI ra), .int rr, .int rw, .ref q14, .ref q15, .int rn, .ref q17, .ref q18, .ref q19, .int um, .int bs, .int bh, .ref q23, .ref q24, .ref q25, .int km])), (q9, .inl (cI, 200, .inl (nA lx)))] (fun (r : Int32) (u : Unit) => ((nI 1 = r) ∧ (48 ≤ ltr lx ts ra ∧ ltr lx ts ra ≤ 57) ∧ (True)) ∨ ((nI 0 = r) ∧ (¬ (48 ≤ ltr lx ts ra ∧ ltr lx ts ra ≤ 57)) ∧ (True))) (fun (u : Unit) => ([(q0, .inr (9, [.int ro, .int co, .int sl, .ref q3, .ref q4, .int sn, .ref q6, .ref q7, .ref q8, .ref q9, .int (nI ts), .int (nI ra), .int rr, .int rw, .ref q14, .ref q15, .int rn, .ref q17, .ref q18, .ref q19, .int um, .int bs, .int bh, .ref q23, .ref q24, .ref q25, .int km])), (q9, .inl (cI, 200, .inl (nA lx)))] : va_W)) :=
  Ci.of (by decide) (Nat.le_of_ble_eq_true rfl) (fun r u hp => by rcases hp with ⟨hp, _⟩ | ⟨hp, _⟩ <;> (rw [← hp]; rfl)) (fun X h hR => w_X9_isFigure X h q0 q3 q4 q6 q7 q8 q9 q14 q15 q17 q18 q19 q23 q24 q25 ro co sl sn ts ra rr rw rn um bs bh km lx hlx hts hra hR)
theorem yv_X9_isFigure : YV yX9_isFigure cX9_isFigure 1 (some .boolean) 0 := ⟨no_X9_isFigure, nv_X9_isFigure, ni_X9, nk_X9_isFigure, by decide +kernel⟩
set_option maxRecDepth 100000 in
set_option maxHeartbeats 4000000 in
theorem w_X9_number_60 (X : Cx) {cI cE : ClassId} (h : Ok X cX9_number RX9 5 cI cE 2 0 0) (q0 : Nat) (q3 : Nat) (q4 : Nat) (q6 : Nat) (q7 : Nat) (q8 : Nat) (q9 : Nat) (q14 : Nat) (q15 : Nat) (q17 : Nat) (q18 : Nat) (q19 : Nat) (q23 : Nat) (q24 : Nat) (q25 : Nat) (ro : Int32) (co : Int32) (sl : Int32) (sn : Int32) (ts : Nat) (ra : Nat) (rr : Int32) (rw : Int32) (rn : Int32) (um : Int32) (bs : Int32) (bh : Int32) (km : Int32) (lx : Nat → Nat) (p0 : Nat) (p1 : Int32) (p2 : Nat) (zh : Int) (hlx : ∀ j, lx j ≤ 126) (hts : ts ≤ 200) (hra : ra < 10000) (hp0 : p0 < 1000) (hp2 : p2 < 1000) (hzh : p1.toInt = zh) (hR : ∀ (r : Int32) (u : (Int32) × (Int32)), ((nI 1 = r) ∧ (bnm lx ts ra ≠ ra ∧ ltr lx ts (bnm lx ts ra) = p2 ∧ (p0 : Int) ≤ ((nvr lx ts ra (bnm lx ts ra - ra) : Nat) : Int) ∧ ((nvr lx ts ra (bnm lx ts ra - ra) : Nat) : Int) ≤ zh) ∧ ((nI (bnm lx ts ra + 1)) = u.1) ∧ ((nI (nvr lx ts ra (bnm lx ts ra - ra))) = u.2) ∧ (True)) ∨ ((nI 0 = r) ∧ (¬ (bnm lx ts ra ≠ ra ∧ ltr lx ts (bnm lx ts ra) = p2 ∧ (p0 : Int) ≤ ((nvr lx ts ra (bnm lx ts ra - ra) : Nat) : Int) ∧ ((nvr lx ts ra (bnm lx ts ra - ra) : Nat) : Int) ≤ zh)) ∧ (True)) → RetI X cX9_number 5 0 0 r [(q0, .inr (9, [.int ro, .int co, .int sl, .ref q3, .ref q4, .int sn, .ref q6, .ref q7, .ref q8, .ref q9, .int (nI ts), .int u.1, .int rr, .int rw, .ref q14, .ref q15, .int u.2, .ref q17, .ref q18, .ref q19, .int um, .int bs, .int bh, .ref q23, .ref q24, .ref q25, .int km])), (q9, .inl (cI, 200, .inl (nA lx)))]) : ∀ (b : Nat) (v : Nat), (b = bnm lx ts ra) → (ra < b ∧ b ≤ ra + 2) → (v = nvr lx ts ra (b - ra)) → (v ≤ 99) → J X 5 0 0 60 [(0, .ref q0), (1, .int (nI p0)), (2, .int p1), (3, .int (nI p2)), (4, .int (nI v))] [] [(q0, .inr (9, [.int ro, .int co, .int sl, .ref q3, .ref q4, .int sn, .ref q6, .ref q7, .ref q8, .ref q9, .int (nI ts), .int (nI b), .int rr, .int rw, .ref q14, .ref q15, .int rn, .ref q17, .ref q18, .ref q19, .int um, .int bs, .int bh, .ref q23, .ref q24, .ref q25, .int km])), (q9, .inl (cI, 200, .inl (nA lx)))] := by
  intro b v hb hbr hv hv9
  have hl2 := ltr_le hlx ts b
  refine J_aload_n h (i := 0) dX9_number_60 rfl 0 rfl ?_
  refine J_iload h dX9_number_61 4 rfl ?_
  refine J_put h (ws' := [(q0, .inr (9, [.int ro, .int co, .int sl, .ref q3, .ref q4, .int sn, .ref q6, .ref q7, .ref q8, .ref q9, .int (nI ts), .int (nI b), .int rr, .int rw, .ref q14, .ref q15, .int (nI v), .ref q17, .ref q18, .ref q19, .int um, .int bs, .int bh, .ref q23, .ref q24, .ref q25, .int km])), (q9, .inl (cI, 200, .inl (nA lx)))]) inX9 tyX9 tyX9_ok nmX9 rfl 0 16 (by decide) rfl nf_X9_91 rfl rfl rfl rfl (Nat.le_of_ble_eq_true rfl) dX9_number_63 rfl ?_
  refine J_aload_n h (i := 0) dX9_number_66 rfl 0 rfl ?_
  refine K_vi h (wr := []) (c_X9_here (xl X) (xD X) cI cE q0 q3 q4 q6 q7 q8 q9 q14 q15 q17 q18 q19 q23 q24 q25 ro co sl sn ts b rr rw (nI v) um bs bh km lx (by first | exact hlx |  assumption | omega | rfl) (by first | exact hts |  assumption | omega | rfl) (by first | exact hra |  assumption | omega | rfl)) yv_X9_here nm_X9_84 (by decide) (by decide) rfl rfl 0 rfl rfl rfl rfl (Nat.le_of_ble_eq_true rfl) (Nat.le_refl _) (Nat.le_refl _) dX9_number_67 (fun r_67 u_67 p_67 => ?_)
  obtain ⟨rfl, -⟩ := p_67
  show J X 5 0 0 70 [(0, .ref q0), (1, .int (nI p0)), (2, .int p1), (3, .int (nI p2)), (4, .int (nI v))] [.int (nI (ltr lx ts b))] [(q0, .inr (9, [.int ro, .int co, .int sl, .ref q3, .ref q4, .int sn, .ref q6, .ref q7, .ref q8, .ref q9, .int (nI ts), .int (nI b), .int rr, .int rw, .ref q14, .ref q15, .int (nI v), .ref q17, .ref q18, .ref q19, .int um, .int bs, .int bh, .ref q23, .ref q24, .ref q25, .int km])), (q9, .inl (cI, 200, .inl (nA lx)))]
  refine J_iload_n h (i := 3) dX9_number_70 rfl 3 rfl ?_
  refine N_icmp_ne h 84 dX9_number_71 (by decide) (by omega) (by omega) (fun c_71 => ?_) (fun c_71 => ?_)
  · skip
    refine J_iconst h (v := nI 0) dX9_number_84 (by decide) ?_
    exact hR (nI 0) (nI b, nI v) (by refine Or.inr ⟨rfl, fun q => ?_, trivial⟩; rw [← hb, ← hv] at q; omega) 85 _ dX9_number_85
  · skip
    refine J_iload h dX9_number_74 4 rfl ?_
    refine J_iload_n h (i := 1) dX9_number_76 rfl 1 rfl ?_
    refine J_iload_n h (i := 2) dX9_number_77 rfl 2 rfl ?_
    refine K_si h (wr := [(q0, .inr (9, [.int ro, .int co, .int sl, .ref q3, .ref q4, .int sn, .ref q6, .ref q7, .ref q8, .ref q9, .int (nI ts), .int (nI b), .int rr, .int rw, .ref q14, .ref q15, .int (nI v), .ref q17, .ref q18, .ref q19, .int um, .int bs, .int bh, .ref q23, .ref q24, .ref q25, .int km])), (q9, .inl (cI, 200, .inl (nA lx)))]) (c_X9_in (xl X) (xD X) cI cE (nI v) (nI p0) p1 (((v : Nat) : Int)) (((p0 : Nat) : Int)) ((p1).toInt) (by exact nI_toInt (by omega)) (by exact nI_toInt (by omega)) (by exact rfl)) yv_X9_in nm_X9_67 (by decide) (by decide) rfl rfl rfl (Nat.le_of_ble_eq_true rfl) (Nat.le_refl _) (Nat.le_refl _) dX9_number_78 (fun r_78 u_78 p_78 => ?_)
    rcases p_78 with p_78 | p_78
    · obtain ⟨rfl, f0_78, -⟩ := p_78
      show J X 5 0 0 81 [(0, .ref q0), (1, .int (nI p0)), (2, .int p1), (3, .int (nI p2)), (4, .int (nI v))] [.int (nI 1)] [(q0, .inr (9, [.int ro, .int co, .int sl, .ref q3, .ref q4, .int sn, .ref q6, .ref q7, .ref q8, .ref q9, .int (nI ts), .int (nI b), .int rr, .int rw, .ref q14, .ref q15, .int (nI v), .ref q17, .ref q18, .ref q19, .int um, .int bs, .int bh, .ref q23, .ref q24, .ref q25, .int km])), (q9, .inl (cI, 200, .inl (nA lx)))]
      refine J_if_ne h 86 dX9_number_81 (by decide) (fun _ => ?_) (fun z => absurd z (by decide))
      refine J_aload_n h (i := 0) dX9_number_86 rfl 0 rfl ?_
      refine J_dup h dX9_number_87 rfl ?_
      refine J_get h inX9 rfl 0 11 (by decide) rfl rfl nf_X9_81 dX9_number_88 ?_
      refine J_iconst h (v := nI 1) dX9_number_91 (by decide) ?_
      refine N_iadd h dX9_number_92 ?_
      refine J_put h (ws' := [(q0, .inr (9, [.int ro, .int co, .int sl, .ref q3, .ref q4, .int sn, .ref q6, .ref q7, .ref q8, .ref q9, .int (nI ts), .int (nI (b + 1)), .int rr, .int rw, .ref q14, .ref q15, .int (nI v), .ref q17, .ref q18, .ref q19, .int um, .int bs, .int bh, .ref q23, .ref q24, .ref q25, .int km])), (q9, .inl (cI, 200, .inl (nA lx)))]) inX9 tyX9 tyX9_ok nmX9 rfl 0 11 (by decide) rfl nf_X9_81 rfl rfl rfl rfl (Nat.le_of_ble_eq_true rfl) dX9_number_93 rfl ?_
      refine J_iconst h (v := nI 1) dX9_number_96 (by decide) ?_
      exact hR (nI 1) (nI (b + 1), nI v) (by exact Or.inl ⟨rfl, by rw [← hb, ← hv]; omega, by rw [← hb], by rw [← hb, ← hv], trivial⟩) 97 _ dX9_number_97
    · obtain ⟨rfl, f0_78, -⟩ := p_78
      show J X 5 0 0 81 [(0, .ref q0), (1, .int (nI p0)), (2, .int p1), (3, .int (nI p2)), (4, .int (nI v))] [.int (nI 0)] [(q0, .inr (9, [.int ro, .int co, .int sl, .ref q3, .ref q4, .int sn, .ref q6, .ref q7, .ref q8, .ref q9, .int (nI ts), .int (nI b), .int rr, .int rw, .ref q14, .ref q15, .int (nI v), .ref q17, .ref q18, .ref q19, .int um, .int bs, .int bh, .ref q23, .ref q24, .ref q25, .int km])), (q9, .inl (cI, 200, .inl (nA lx)))]
      refine J_if_ne h 86 dX9_number_81 (by decide) (fun z => absurd z (by decide)) (fun _ => ?_)
      refine J_iconst h (v := nI 0) dX9_number_84 (by decide) ?_
      exact hR (nI 0) (nI b, nI v) (by refine Or.inr ⟨rfl, fun q => ?_, trivial⟩; rw [← hb, ← hv] at q; omega) 85 _ dX9_number_85
set_option maxRecDepth 100000 in
set_option maxHeartbeats 4000000 in
theorem w_X9_number (X : Cx) {cI cE : ClassId} (h : Ok X cX9_number RX9 5 cI cE 2 0 0) (q0 : Nat) (q3 : Nat) (q4 : Nat) (q6 : Nat) (q7 : Nat) (q8 : Nat) (q9 : Nat) (q14 : Nat) (q15 : Nat) (q17 : Nat) (q18 : Nat) (q19 : Nat) (q23 : Nat) (q24 : Nat) (q25 : Nat) (ro : Int32) (co : Int32) (sl : Int32) (sn : Int32) (ts : Nat) (ra : Nat) (rr : Int32) (rw : Int32) (rn : Int32) (um : Int32) (bs : Int32) (bh : Int32) (km : Int32) (lx : Nat → Nat) (p0 : Nat) (p1 : Int32) (p2 : Nat) (zh : Int) (hlx : ∀ j, lx j ≤ 126) (hts : ts ≤ 200) (hra : ra < 10000) (hp0 : p0 < 1000) (hp2 : p2 < 1000) (hzh : p1.toInt = zh) (hR : ∀ (r : Int32) (u : (Int32) × (Int32)), ((nI 1 = r) ∧ (bnm lx ts ra ≠ ra ∧ ltr lx ts (bnm lx ts ra) = p2 ∧ (p0 : Int) ≤ ((nvr lx ts ra (bnm lx ts ra - ra) : Nat) : Int) ∧ ((nvr lx ts ra (bnm lx ts ra - ra) : Nat) : Int) ≤ zh) ∧ ((nI (bnm lx ts ra + 1)) = u.1) ∧ ((nI (nvr lx ts ra (bnm lx ts ra - ra))) = u.2) ∧ (True)) ∨ ((nI 0 = r) ∧ (¬ (bnm lx ts ra ≠ ra ∧ ltr lx ts (bnm lx ts ra) = p2 ∧ (p0 : Int) ≤ ((nvr lx ts ra (bnm lx ts ra - ra) : Nat) : Int) ∧ ((nvr lx ts ra (bnm lx ts ra - ra) : Nat) : Int) ≤ zh)) ∧ (True)) → RetI X cX9_number 5 0 0 r [(q0, .inr (9, [.int ro, .int co, .int sl, .ref q3, .ref q4, .int sn, .ref q6, .ref q7, .ref q8, .ref q9, .int (nI ts), .int u.1, .int rr, .int rw, .ref q14, .ref q15, .int u.2, .ref q17, .ref q18, .ref q19, .int um, .int bs, .int bh, .ref q23, .ref q24, .ref q25, .int km])), (q9, .inl (cI, 200, .inl (nA lx)))]) : J X 5 0 0 0 [(0, .ref q0), (1, .int (nI p0)), (2, .int p1), (3, .int (nI p2))] [] [(q0, .inr (9, [.int ro, .int co, .int sl, .ref q3, .ref q4, .int sn, .ref q6, .ref q7, .ref q8, .ref q9, .int (nI ts), .int (nI ra), .int rr, .int rw, .ref q14, .ref q15, .int rn, .ref q17, .ref q18, .ref q19, .int um, .int bs, .int bh, .ref q23, .ref q24, .ref q25, .int km])), (q9, .inl (cI, 200, .inl (nA lx)))] := by
  have hl0 := ltr_le hlx ts ra
  have hl1 := ltr_le hlx ts (ra + 1)
  refine J_aload_n h (i := 0) dX9_number_0 rfl 0 rfl ?_
  refine K_vi h (wr := []) (c_X9_isFigure (xl X) (xD X) cI cE q0 q3 q4 q6 q7 q8 q9 q14 q15 q17 q18 q19 q23 q24 q25 ro co sl sn ts ra rr rw rn um bs bh km lx (by first | exact hlx |  assumption | omega | rfl) (by first | exact hts |  assumption | omega | rfl) (by first | exact hra |  assumption | omega | rfl)) yv_X9_isFigure nm_X9_87 (by decide) (by decide) rfl rfl 0 rfl rfl rfl rfl (Nat.le_of_ble_eq_true rfl) (Nat.le_refl _) (Nat.le_refl _) dX9_number_1 (fun r_1 u_1 p_1 => ?_)
  rcases p_1 with p_1 | p_1
  · obtain ⟨rfl, f0_1, -⟩ := p_1
    show J X 5 0 0 4 [(0, .ref q0), (1, .int (nI p0)), (2, .int p1), (3, .int (nI p2))] [.int (nI 1)] [(q0, .inr (9, [.int ro, .int co, .int sl, .ref q3, .ref q4, .int sn, .ref q6, .ref q7, .ref q8, .ref q9, .int (nI ts), .int (nI ra), .int rr, .int rw, .ref q14, .ref q15, .int rn, .ref q17, .ref q18, .ref q19, .int um, .int bs, .int bh, .ref q23, .ref q24, .ref q25, .int km])), (q9, .inl (cI, 200, .inl (nA lx)))]
    refine J_if_ne h 9 dX9_number_4 (by decide) (fun _ => ?_) (fun z => absurd z (by decide))
    refine J_aload_n h (i := 0) dX9_number_9 rfl 0 rfl ?_
    refine K_vi h (wr := []) (c_X9_here (xl X) (xD X) cI cE q0 q3 q4 q6 q7 q8 q9 q14 q15 q17 q18 q19 q23 q24 q25 ro co sl sn ts ra rr rw rn um bs bh km lx (by first | exact hlx |  assumption | omega | rfl) (by first | exact hts |  assumption | omega | rfl) (by first | exact hra |  assumption | omega | rfl)) yv_X9_here nm_X9_84 (by decide) (by decide) rfl rfl 0 rfl rfl rfl rfl (Nat.le_of_ble_eq_true rfl) (Nat.le_refl _) (Nat.le_refl _) dX9_number_10 (fun r_10 u_10 p_10 => ?_)
    obtain ⟨rfl, -⟩ := p_10
    show J X 5 0 0 13 [(0, .ref q0), (1, .int (nI p0)), (2, .int p1), (3, .int (nI p2))] [.int (nI (ltr lx ts ra))] [(q0, .inr (9, [.int ro, .int co, .int sl, .ref q3, .ref q4, .int sn, .ref q6, .ref q7, .ref q8, .ref q9, .int (nI ts), .int (nI ra), .int rr, .int rw, .ref q14, .ref q15, .int rn, .ref q17, .ref q18, .ref q19, .int um, .int bs, .int bh, .ref q23, .ref q24, .ref q25, .int km])), (q9, .inl (cI, 200, .inl (nA lx)))]
    refine J_bipush h (v := nI 48) dX9_number_13 (by decide) ?_
    refine N_isub h (by omega) dX9_number_15 ?_
    refine J_istore h (lv' := [(4, .int (nI ((ltr lx ts ra) - 48))), (0, .ref q0), (1, .int (nI p0)), (2, .int p1), (3, .int (nI p2))]) dX9_number_16 (by decide) rfl ?_
    refine J_aload_n h (i := 0) dX9_number_18 rfl 1 rfl ?_
    refine J_dup h dX9_number_19 rfl ?_
    refine J_get h inX9 rfl 0 11 (by decide) rfl rfl nf_X9_81 dX9_number_20 ?_
    refine J_iconst h (v := nI 1) dX9_number_23 (by decide) ?_
    refine N_iadd h dX9_number_24 ?_
    refine J_put h (ws' := [(q0, .inr (9, [.int ro, .int co, .int sl, .ref q3, .ref q4, .int sn, .ref q6, .ref q7, .ref q8, .ref q9, .int (nI ts), .int (nI (ra + 1)), .int rr, .int rw, .ref q14, .ref q15, .int rn, .ref q17, .ref q18, .ref q19, .int um, .int bs, .int bh, .ref q23, .ref q24, .ref q25, .int km])), (q9, .inl (cI, 200, .inl (nA lx)))]) inX9 tyX9 tyX9_ok nmX9 rfl 0 11 (by decide) rfl nf_X9_81 rfl rfl rfl rfl (Nat.le_of_ble_eq_true rfl) dX9_number_25 rfl ?_
    refine J_aload_n h (i := 0) dX9_number_28 rfl 1 rfl ?_
    refine K_vi h (wr := []) (c_X9_isFigure (xl X) (xD X) cI cE q0 q3 q4 q6 q7 q8 q9 q14 q15 q17 q18 q19 q23 q24 q25 ro co sl sn ts (ra + 1) rr rw rn um bs bh km lx (by first | exact hlx |  assumption | omega | rfl) (by first | exact hts |  assumption | omega | rfl) (by first | exact hra |  assumption | omega | rfl)) yv_X9_isFigure nm_X9_87 (by decide) (by decide) rfl rfl 0 rfl rfl rfl rfl (Nat.le_of_ble_eq_true rfl) (Nat.le_refl _) (Nat.le_refl _) dX9_number_29 (fun r_29 u_29 p_29 => ?_)
    rcases p_29 with p_29 | p_29
    · obtain ⟨rfl, f0_29, -⟩ := p_29
      show J X 5 0 0 32 [(4, .int (nI ((ltr lx ts ra) - 48))), (0, .ref q0), (1, .int (nI p0)), (2, .int p1), (3, .int (nI p2))] [.int (nI 1)] [(q0, .inr (9, [.int ro, .int co, .int sl, .ref q3, .ref q4, .int sn, .ref q6, .ref q7, .ref q8, .ref q9, .int (nI ts), .int (nI (ra + 1)), .int rr, .int rw, .ref q14, .ref q15, .int rn, .ref q17, .ref q18, .ref q19, .int um, .int bs, .int bh, .ref q23, .ref q24, .ref q25, .int km])), (q9, .inl (cI, 200, .inl (nA lx)))]
      refine J_if_eq h 60 dX9_number_32 (by decide) (fun z => absurd z (by decide)) (fun _ => ?_)
      refine J_bipush h (v := nI 10) dX9_number_35 (by decide) ?_
      refine J_iload h dX9_number_37 0 rfl ?_
      refine N_imul h dX9_number_39 ?_
      refine J_aload_n h (i := 0) dX9_number_40 rfl 1 rfl ?_
      refine K_vi h (wr := []) (c_X9_here (xl X) (xD X) cI cE q0 q3 q4 q6 q7 q8 q9 q14 q15 q17 q18 q19 q23 q24 q25 ro co sl sn ts (ra + 1) rr rw rn um bs bh km lx (by first | exact hlx |  assumption | omega | rfl) (by first | exact hts |  assumption | omega | rfl) (by first | exact hra |  assumption | omega | rfl)) yv_X9_here nm_X9_84 (by decide) (by decide) rfl rfl 0 rfl rfl rfl rfl (Nat.le_of_ble_eq_true rfl) (Nat.le_refl _) (Nat.le_refl _) dX9_number_41 (fun r_41 u_41 p_41 => ?_)
      obtain ⟨rfl, -⟩ := p_41
      show J X 5 0 0 44 [(4, .int (nI ((ltr lx ts ra) - 48))), (0, .ref q0), (1, .int (nI p0)), (2, .int p1), (3, .int (nI p2))] [.int (nI (ltr lx ts (ra + 1))), .int (nI (10 * ((ltr lx ts ra) - 48)))] [(q0, .inr (9, [.int ro, .int co, .int sl, .ref q3, .ref q4, .int sn, .ref q6, .ref q7, .ref q8, .ref q9, .int (nI ts), .int (nI (ra + 1)), .int rr, .int rw, .ref q14, .ref q15, .int rn, .ref q17, .ref q18, .ref q19, .int um, .int bs, .int bh, .ref q23, .ref q24, .ref q25, .int km])), (q9, .inl (cI, 200, .inl (nA lx)))]
      refine N_iadd h dX9_number_44 ?_
      refine J_bipush h (v := nI 48) dX9_number_45 (by decide) ?_
      refine N_isub h (by omega) dX9_number_47 ?_
      refine J_istore h (lv' := [(4, .int (nI (((10 * ((ltr lx ts ra) - 48)) + (ltr lx ts (ra + 1))) - 48))), (0, .ref q0), (1, .int (nI p0)), (2, .int p1), (3, .int (nI p2))]) dX9_number_48 (by decide) rfl ?_
      refine J_aload_n h (i := 0) dX9_number_50 rfl 1 rfl ?_
      refine J_dup h dX9_number_51 rfl ?_
      refine J_get h inX9 rfl 0 11 (by decide) rfl rfl nf_X9_81 dX9_number_52 ?_
      refine J_iconst h (v := nI 1) dX9_number_55 (by decide) ?_
      refine N_iadd h dX9_number_56 ?_
      refine J_put h (ws' := [(q0, .inr (9, [.int ro, .int co, .int sl, .ref q3, .ref q4, .int sn, .ref q6, .ref q7, .ref q8, .ref q9, .int (nI ts), .int (nI ((ra + 1) + 1)), .int rr, .int rw, .ref q14, .ref q15, .int rn, .ref q17, .ref q18, .ref q19, .int um, .int bs, .int bh, .ref q23, .ref q24, .ref q25, .int km])), (q9, .inl (cI, 200, .inl (nA lx)))]) inX9 tyX9 tyX9_ok nmX9 rfl 0 11 (by decide) rfl nf_X9_81 rfl rfl rfl rfl (Nat.le_of_ble_eq_true rfl) dX9_number_57 rfl ?_
      refine J.loc [1, 2, 3, 4, 0] (lv' := [(0, .ref q0), (1, .int (nI p0)), (2, .int p1), (3, .int (nI p2)), (4, .int (nI (((10 * ((ltr lx ts ra) - 48)) + (ltr lx ts (ra + 1))) - 48)))]) rfl ?_
      exact w_X9_number_60 X h q0 q3 q4 q6 q7 q8 q9 q14 q15 q17 q18 q19 q23 q24 q25 ro co sl sn ts ra rr rw rn um bs bh km lx p0 p1 p2 zh hlx hts hra hp0 hp2 hzh hR  ((ra + 1) + 1) (((10 * ((ltr lx ts ra) - 48)) + (ltr lx ts (ra + 1))) - 48) (by unfold bnm; first | (rw [if_pos f0_1, if_pos f0_29]; done) | (rw [if_pos f0_1, if_neg f0_29]; done)) (by first | assumption | omega | rfl) (by first | (rw [show ra + 1 - ra = 1 by omega]; show _ = 10 * 0 + ltr lx ts ra - 48; omega) | (rw [show ra + 1 + 1 - ra = 2 by omega]; show _ = 10 * (10 * 0 + ltr lx ts ra - 48) + ltr lx ts (ra + 1) - 48; omega)) (by first | assumption | omega | rfl)
    · obtain ⟨rfl, f0_29, -⟩ := p_29
      show J X 5 0 0 32 [(4, .int (nI ((ltr lx ts ra) - 48))), (0, .ref q0), (1, .int (nI p0)), (2, .int p1), (3, .int (nI p2))] [.int (nI 0)] [(q0, .inr (9, [.int ro, .int co, .int sl, .ref q3, .ref q4, .int sn, .ref q6, .ref q7, .ref q8, .ref q9, .int (nI ts), .int (nI (ra + 1)), .int rr, .int rw, .ref q14, .ref q15, .int rn, .ref q17, .ref q18, .ref q19, .int um, .int bs, .int bh, .ref q23, .ref q24, .ref q25, .int km])), (q9, .inl (cI, 200, .inl (nA lx)))]
      refine J_if_eq h 60 dX9_number_32 (by decide) (fun _ => ?_) (fun z => absurd z (by decide))
      refine J.loc [1, 2, 3, 4, 0] (lv' := [(0, .ref q0), (1, .int (nI p0)), (2, .int p1), (3, .int (nI p2)), (4, .int (nI ((ltr lx ts ra) - 48)))]) rfl ?_
      exact w_X9_number_60 X h q0 q3 q4 q6 q7 q8 q9 q14 q15 q17 q18 q19 q23 q24 q25 ro co sl sn ts ra rr rw rn um bs bh km lx p0 p1 p2 zh hlx hts hra hp0 hp2 hzh hR  (ra + 1) ((ltr lx ts ra) - 48) (by unfold bnm; first | (rw [if_pos f0_1, if_pos f0_29]; done) | (rw [if_pos f0_1, if_neg f0_29]; done)) (by first | assumption | omega | rfl) (by first | (rw [show ra + 1 - ra = 1 by omega]; show _ = 10 * 0 + ltr lx ts ra - 48; omega) | (rw [show ra + 1 + 1 - ra = 2 by omega]; show _ = 10 * (10 * 0 + ltr lx ts ra - 48) + ltr lx ts (ra + 1) - 48; omega)) (by first | assumption | omega | rfl)
  · obtain ⟨rfl, f0_1, -⟩ := p_1
    show J X 5 0 0 4 [(0, .ref q0), (1, .int (nI p0)), (2, .int p1), (3, .int (nI p2))] [.int (nI 0)] [(q0, .inr (9, [.int ro, .int co, .int sl, .ref q3, .ref q4, .int sn, .ref q6, .ref q7, .ref q8, .ref q9, .int (nI ts), .int (nI ra), .int rr, .int rw, .ref q14, .ref q15, .int rn, .ref q17, .ref q18, .ref q19, .int um, .int bs, .int bh, .ref q23, .ref q24, .ref q25, .int km])), (q9, .inl (cI, 200, .inl (nA lx)))]
    refine J_if_ne h 9 dX9_number_4 (by decide) (fun z => absurd z (by decide)) (fun _ => ?_)
    refine J_iconst h (v := nI 0) dX9_number_7 (by decide) ?_
    exact hR (nI 0) (nI ra, rn) (by exact Or.inr ⟨rfl, fun q => q.1 (by unfold bnm; rw [if_neg f0_1]), trivial⟩) 8 _ dX9_number_8
theorem c_X9_number (l : Launch) (D : va_G) (cI cE : ClassId) (q0 : Nat) (q3 : Nat) (q4 : Nat) (q6 : Nat) (q7 : Nat) (q8 : Nat) (q9 : Nat) (q14 : Nat) (q15 : Nat) (q17 : Nat) (q18 : Nat) (q19 : Nat) (q23 : Nat) (q24 : Nat) (q25 : Nat) (ro : Int32) (co : Int32) (sl : Int32) (sn : Int32) (ts : Nat) (ra : Nat) (rr : Int32) (rw : Int32) (rn : Int32) (um : Int32) (bs : Int32) (bh : Int32) (km : Int32) (lx : Nat → Nat) (p0 : Nat) (p1 : Int32) (p2 : Nat) (zh : Int) (hlx : ∀ j, lx j ≤ 126) (hts : ts ≤ 200) (hra : ra < 10000) (hp0 : p0 < 1000) (hp2 : p2 < 1000) (hzh : p1.toInt = zh) : Ci l D cI cE yX9_number cX9_number 5 (some .boolean) 2 0 0 [.ref q0, .int (nI p0), .int p1, .int (nI p2)] [(q0, .inr (9, [.int ro, .int co, .int sl, .ref q3, .ref q4, .int sn, .ref q6, .ref q7, .ref q8, .ref q9, .int (nI ts), .int (nI ra), .int rr, .int rw, .ref q14, .ref q15, .int rn, .ref q17, .ref q18, .ref q19, .int um, .int bs, .int bh, .ref q23, .ref q24, .ref q25, .int km])), (q9, .inl (cI, 200, .inl (nA lx)))] (fun (r : Int32) (u : (Int32) × (Int32)) => ((nI 1 = r) ∧ (bnm lx ts ra ≠ ra ∧ ltr lx ts (bnm lx ts ra) = p2 ∧ (p0 : Int) ≤ ((nvr lx ts ra (bnm lx ts ra - ra) : Nat) : Int) ∧ ((nvr lx ts ra (bnm lx ts ra - ra) : Nat) : Int) ≤ zh) ∧ ((nI (bnm lx ts ra + 1)) = u.1) ∧ ((nI (nvr lx ts ra (bnm lx ts ra - ra))) = u.2) ∧ (True)) ∨ ((nI 0 = r) ∧ (¬ (bnm lx ts ra ≠ ra ∧ ltr lx ts (bnm lx ts ra) = p2 ∧ (p0 : Int) ≤ ((nvr lx ts ra (bnm lx ts ra - ra) : Nat) : Int) ∧ ((nvr lx ts ra (bnm lx ts ra - ra) : Nat) : Int) ≤ zh)) ∧ (True))) (fun (u : (Int32) × (Int32)) => ([(q0, .inr (9, [.int ro, .int co, .int sl, .ref q3, .ref q4, .int sn, .ref q6, .ref q7, .ref q8, .ref q9, .int (nI ts), .int u.1, .int rr, .int rw, .ref q14, .ref q15, .int u.2, .ref q17, .ref q18, .ref q19, .int um, .int bs, .int bh, .ref q23, .ref q24, .ref q25, .int km])), (q9, .inl (cI, 200, .inl (nA lx)))] : va_W)) :=
  Ci.of (by decide) (Nat.le_of_ble_eq_true rfl) (fun r u hp => by rcases hp with ⟨hp, _⟩ | ⟨hp, _⟩ <;> (rw [← hp]; rfl)) (fun X h hR => w_X9_number X h q0 q3 q4 q6 q7 q8 q9 q14 q15 q17 q18 q19 q23 q24 q25 ro co sl sn ts ra rr rw rn um bs bh km lx p0 p1 p2 zh hlx hts hra hp0 hp2 hzh hR)
theorem yv_X9_number : YV yX9_number cX9_number 5 (some .boolean) 3 := ⟨no_X9_number, nv_X9_number, ni_X9, nk_X9_number, by decide +kernel⟩
theorem row_ix {rr rw ms n : Nat} (h : (rr = 0 ∧ ms = 6) ∨ (rr ≠ 0 ∧ ms = rw)) (hn : n ≤ ms) (hc : rr = 0 ∨ n = rw) : ms * rr = rr * n := by
  rcases h with ⟨h1, h2⟩ | ⟨h1, h2⟩
  · rw [h1, Nat.mul_zero, Nat.zero_mul]
  · rw [h2, hc.resolve_left h1, Nat.mul_comm]
theorem row_8 {lx : Nat → Nat} {ts ra : Nat} {dth dow : Nat → Int32} {rw_ rr : Nat} (h : rr = 8) : rowR lx ts ra (dth, dow, rw_, rr) = none := by
  unfold rowR; exact if_neg (fun z => by have := z.2.2.2.1; dsimp only at this; omega)
theorem rowN_ge {lx : Nat → Nat} {ts ra n : Nat} (hd : ∀ k, k < n → 48 ≤ ltr lx ts (ra + k) ∧ ltr lx ts (ra + k) ≤ 51) (h7 : n ≤ 7) : n ≤ rowN lx ts ra := by
  rcases Nat.lt_or_ge (rowN lx ts ra) n with q | q
  · have := fstP_yes (fun k => decide (¬ (48 ≤ ltr lx ts (ra + k) ∧ ltr lx ts (ra + k) ≤ 51))) 7 (Nat.lt_of_lt_of_le q h7)
    exact absurd (hd _ q) (of_decide_eq_true this)
  · exact q
theorem row_no {lx : Nat → Nat} {ts ra : Nat} {dth dow : Nat → Int32} {rw_ rr ms n : Nat} (h : (rr = 0 ∧ ms = 6) ∨ (rr ≠ 0 ∧ ms = rw_)) (hn : n ≤ ms) (hd : ∀ k, k < n → 48 ≤ ltr lx ts (ra + k) ∧ ltr lx ts (ra + k) ≤ 51) (hx : n = ms ∨ ¬ (48 ≤ ltr lx ts (ra + n) ∧ ltr lx ts (ra + n) ≤ 51)) (hno : ¬ (2 ≤ n ∧ (rr = 0 ∨ n = rw_) ∧ ltr lx ts (ra + n) = 59)) : rowR lx ts ra (dth, dow, rw_, rr) = none := by
  unfold rowR
  refine if_neg (fun z => ?_)
  obtain ⟨z1, z2, z3, z4, z5⟩ := z
  dsimp only at z4 z5
  have hge : n ≤ rowN lx ts ra := rowN_ge hd (by omega)
  have hle : rowN lx ts ra ≤ ms := by omega
  have hdig := fstP_no (fun k => decide (¬ (48 ≤ ltr lx ts (ra + k) ∧ ltr lx ts (ra + k) ≤ 51))) 7
  have e : rowN lx ts ra = n := by
    rcases Nat.lt_or_ge n (rowN lx ts ra) with q | q
    · have := of_decide_eq_false (hdig n q)
      omega
    · omega
  rw [e] at z1 z2 z3 z5
  omega
theorem row_yes {lx : Nat → Nat} {ts ra : Nat} {dth dow : Nat → Int32} {rw_ rr n : Nat} (hd : ∀ k, k < n → 48 ≤ ltr lx ts (ra + k) ∧ ltr lx ts (ra + k) ≤ 51) (hc : ltr lx ts (ra + n) = 59 ∧ 2 ≤ n ∧ n ≤ 6 ∧ rr < 8 ∧ (rr = 0 ∨ n = rw_)) : rowR lx ts ra (dth, dow, rw_, rr) = some (ra + n + 1, rowT lx ts ra (rr * n) n dth, sgm (rr * n) n (fun _ => nI 4) dow, n, rr + 1) := by
  have e : rowN lx ts ra = n := rowN_n hd (by omega) (by omega)
  unfold rowR
  rw [e]
  exact if_pos hc
theorem row_rel {lx : Nat → Nat} {ts ra : Nat} {rl rg dth dow : Nat → Int32} {rw_ rr n : Nat} (h : rel (rr * rw_) rl rg dth dow) (hd : ∀ k, k < n → 48 ≤ ltr lx ts (ra + k) ∧ ltr lx ts (ra + k) ≤ 51) (hc : ltr lx ts (ra + n) = 59 ∧ 2 ≤ n ∧ n ≤ 6 ∧ rr < 8 ∧ (rr = 0 ∨ n = rw_)) : rel ((rr + 1) * n) (rowT lx ts ra (rr * n) n rl) (sgm (rr * n) n (fun _ => (-4)) rg) (rowT lx ts ra (rr * n) n dth) (sgm (rr * n) n (fun _ => nI 4) dow) := fun j hj => by
  rw [Nat.succ_mul] at hj
  unfold rowT sgm
  by_cases z : rr * n ≤ j ∧ j < rr * n + n
  · rw [if_pos z, if_pos z, if_pos z, if_pos z]
    have hk := hd (j - rr * n) (by omega)
    have ht := tiI (j := ltr lx ts (ra + (j - rr * n)) - 48) (by omega)
    exact ⟨rfl, rfl, ⟨by omega, by omega⟩, ⟨show 0 ≤ (nI 4).toInt by decide, show (nI 4).toInt ≤ 4 by decide⟩⟩
  · rw [if_neg z, if_neg z, if_neg z, if_neg z]
    have h0 : rr = 0 ∨ n = rw_ := hc.2.2.2.2
    have hlt : j < rr * rw_ := by
      rcases h0 with e | e
      · rw [e, Nat.zero_mul] at hj z; omega
      · rw [← e]; omega
    exact h j hlt
set_option maxRecDepth 100000 in
set_option maxHeartbeats 4000000 in
theorem w_X9_readsRow_133 (X : Cx) {cI cE : ClassId} (h : Ok X cX9_readsRow RX9 4 cI cE 1 0 0) (q0 : Nat) (q3 : Nat) (q4 : Nat) (q6 : Nat) (q7 : Nat) (q8 : Nat) (q9 : Nat) (q14 : Nat) (q15 : Nat) (q17 : Nat) (q18 : Nat) (q19 : Nat) (q23 : Nat) (q24 : Nat) (q25 : Nat) (ro : Int32) (co : Int32) (sl : Int32) (sn : Int32) (ts : Nat) (ra : Nat) (rr : Nat) (rw : Nat) (rn : Int32) (um : Int32) (bs : Int32) (bh : Int32) (km : Int32) (lx : Nat → Nat) (rl : Nat → Int32) (rg : Nat → Int32) (dth : Nat → Int32) (dow : Nat → Int32) (hlx : ∀ j, lx j ≤ 126) (hts : ts ≤ 200) (hra : ra < 1000) (hrr : rr ≤ 8) (hrw : rw ≤ 6) (hrl : rel (rr * rw) rl rg dth dow) (hR : ∀ (r : Int32) (u : (Int32) × (Nat) × (Nat) × (Nat → Int32) × (Nat → Int32)), (∃ (q : Nat) (dth2 : Nat → Int32) (dow2 : Nat → Int32), (nI 1 = r) ∧ (rowR lx ts ra (dth, dow, rw, rr) = some (q, dth2, dow2, u.2.2.1, u.2.1)) ∧ (rel (u.2.1 * u.2.2.1) u.2.2.2.1 u.2.2.2.2 dth2 dow2) ∧ (u.2.1 ≤ 8) ∧ (u.2.2.1 ≤ 6) ∧ (ra < q) ∧ (q ≤ ra + 10) ∧ ((nI q) = u.1) ∧ (True)) ∨ ((nI 0 = r) ∧ (rowR lx ts ra (dth, dow, rw, rr) = none) ∧ (True)) → RetI X cX9_readsRow 4 0 0 r [(q0, .inr (9, [.int ro, .int co, .int sl, .ref q3, .ref q4, .int sn, .ref q6, .ref q7, .ref q8, .ref q9, .int (nI ts), .int u.1, .int (nI u.2.1), .int (nI u.2.2.1), .ref q14, .ref q15, .int rn, .ref q17, .ref q18, .ref q19, .int um, .int bs, .int bh, .ref q23, .ref q24, .ref q25, .int km])), (q9, .inl (cI, 200, .inl (nA lx))), (q14, .inl (cI, 48, .inl u.2.2.2.1)), (q15, .inl (cI, 48, .inl u.2.2.2.2))]) : ∀ (n_133 : Nat) (n : Nat) (i : Nat) (g1 : Nat → Int32), (rr < 8) → (∀ k, k < n → 48 ≤ ltr lx ts (ra + k) ∧ ltr lx ts (ra + k) ≤ 51) → (ltr lx ts (ra + n) = 59 ∧ 2 ≤ n ∧ n ≤ 6 ∧ rr < 8 ∧ (rr = 0 ∨ n = rw)) → (i ≤ n) → (g1 = sgm (rr * n) i (fun _ => (-4)) rg) → n - i < n_133 → J X 4 0 0 133 [(0, .ref q0), (2, .int (nI n)), (3, .int (nI i))] [] [(q0, .inr (9, [.int ro, .int co, .int sl, .ref q3, .ref q4, .int sn, .ref q6, .ref q7, .ref q8, .ref q9, .int (nI ts), .int (nI (ra + n + 1)), .int (nI rr), .int (nI n), .ref q14, .ref q15, .int rn, .ref q17, .ref q18, .ref q19, .int um, .int bs, .int bh, .ref q23, .ref q24, .ref q25, .int km])), (q9, .inl (cI, 200, .inl (nA lx))), (q14, .inl (cI, 48, .inl (rowT lx ts ra (rr * n) n rl))), (q15, .inl (cI, 48, .inl g1))] := by
  intro n_133
  induction n_133 with
  | zero => intro n i g1 h8 hd hc hi hg hn_; exact absurd hn_ (Nat.not_lt_zero _)
  | succ n_133 ih_133 =>
    intro n i g1 h8 hd hc hi hg hn_133
    have he2 : rr * n ≤ 7 * 6 := Nat.mul_le_mul (by omega) (by omega)
    refine J_iload_n h (i := 3) dX9_readsRow_133 rfl 2 rfl ?_
    refine J_iload_n h (i := 2) dX9_readsRow_134 rfl 1 rfl ?_
    refine N_icmp_ge h 159 dX9_readsRow_135 (by decide) (by omega) (by omega) (fun c_135 => ?_) (fun c_135 => ?_)
    · skip
      refine J_arr (g := (sgm (rr * n) n (fun _ => (-4)) rg)) (ws' := [(q0, .inr (9, [.int ro, .int co, .int sl, .ref q3, .ref q4, .int sn, .ref q6, .ref q7, .ref q8, .ref q9, .int (nI ts), .int (nI (ra + n + 1)), .int (nI rr), .int (nI n), .ref q14, .ref q15, .int rn, .ref q17, .ref q18, .ref q19, .int um, .int bs, .int bh, .ref q23, .ref q24, .ref q25, .int km])), (q9, .inl (cI, 200, .inl (nA lx))), (q14, .inl (cI, 48, .inl (rowT lx ts ra (rr * n) n rl))), (q15, .inl (cI, 48, .inl (sgm (rr * n) n (fun _ => (-4)) rg)))]) 3 rfl (by intro j hj; rw [hg, show i = n by omega]) rfl ?_
      refine J_aload_n h (i := 0) dX9_readsRow_159 rfl 0 rfl ?_
      refine J_dup h dX9_readsRow_160 rfl ?_
      refine J_get h inX9 rfl 0 12 (by decide) rfl rfl nf_X9_94 dX9_readsRow_161 ?_
      refine J_iconst h (v := nI 1) dX9_readsRow_164 (by decide) ?_
      refine N_iadd h dX9_readsRow_165 ?_
      refine J_put h (ws' := [(q0, .inr (9, [.int ro, .int co, .int sl, .ref q3, .ref q4, .int sn, .ref q6, .ref q7, .ref q8, .ref q9, .int (nI ts), .int (nI (ra + n + 1)), .int (nI (rr + 1)), .int (nI n), .ref q14, .ref q15, .int rn, .ref q17, .ref q18, .ref q19, .int um, .int bs, .int bh, .ref q23, .ref q24, .ref q25, .int km])), (q9, .inl (cI, 200, .inl (nA lx))), (q14, .inl (cI, 48, .inl (rowT lx ts ra (rr * n) n rl))), (q15, .inl (cI, 48, .inl (sgm (rr * n) n (fun _ => (-4)) rg)))]) inX9 tyX9 tyX9_ok nmX9 rfl 0 12 (by decide) rfl nf_X9_94 rfl rfl rfl rfl (Nat.le_of_ble_eq_true rfl) dX9_readsRow_166 rfl ?_
      refine J_iconst h (v := nI 1) dX9_readsRow_169 (by decide) ?_
      exact hR (nI 1) (nI (ra + n + 1), rr + 1, n, rowT lx ts ra (rr * n) n rl, sgm (rr * n) n (fun _ => (-4)) rg) (by refine Or.inl ⟨_, _, _, rfl, row_yes hd hc, ?_, by dsimp only; omega, by dsimp only; omega, by dsimp only; omega, by dsimp only; omega, rfl, trivial⟩; exact row_rel hrl hd hc) 170 _ dX9_readsRow_170
    · skip
      refine J_aload_n h (i := 0) dX9_readsRow_138 rfl 0 rfl ?_
      refine J_get h inX9 rfl 0 15 (by decide) rfl rfl nf_X9_31 dX9_readsRow_139 ?_
      refine J_iload_n h (i := 2) dX9_readsRow_142 rfl 1 rfl ?_
      refine J_aload_n h (i := 0) dX9_readsRow_143 rfl 0 rfl ?_
      refine J_get h inX9 rfl 0 12 (by decide) rfl rfl nf_X9_94 dX9_readsRow_144 ?_
      refine N_imul h dX9_readsRow_147 ?_
      refine J_iload_n h (i := 3) dX9_readsRow_148 rfl 2 rfl ?_
      refine N_iadd h dX9_readsRow_149 ?_
      refine J_eqs (st' := [.int (nI (rr * n + i)), .ref q15]) (by rw [Nat.mul_comm n rr]) ?_
      refine J_bipush h (v := (-4)) dX9_readsRow_150 (by decide) ?_
      refine N_iast h (ws' := [(q0, .inr (9, [.int ro, .int co, .int sl, .ref q3, .ref q4, .int sn, .ref q6, .ref q7, .ref q8, .ref q9, .int (nI ts), .int (nI (ra + n + 1)), .int (nI rr), .int (nI n), .ref q14, .ref q15, .int rn, .ref q17, .ref q18, .ref q19, .int um, .int bs, .int bh, .ref q23, .ref q24, .ref q25, .int km])), (q9, .inl (cI, 200, .inl (nA lx))), (q14, .inl (cI, 48, .inl (rowT lx ts ra (rr * n) n rl))), (q15, .inl (cI, 48, .inl (upd g1 (rr * n + i) ((-4)))))]) 3 rfl (by decide) (by omega) dX9_readsRow_152 rfl ?_
      refine J_iinc h (v := nI (i + 1)) (lv' := [(3, .int (nI (i + 1))), (0, .ref q0), (2, .int (nI n))]) dX9_readsRow_153 2 rfl (inc_ok _ 1) (by decide) rfl ?_
      refine J_goto h 133 dX9_readsRow_156 (by decide) ?_
      refine J.loc [1, 2, 0] (lv' := [(0, .ref q0), (2, .int (nI n)), (3, .int (nI (i + 1)))]) rfl ?_
      exact ih_133 n (i + 1) (upd g1 (rr * n + i) ((-4))) (by first | exact h8 |  assumption | omega | rfl) (by first | exact hd |  assumption | omega | rfl) (by omega) (by first | exact hi |  assumption | omega | rfl) (by rw [hg]; exact sgm_s (rr * n) i (fun _ => (-4)) rg) (by omega)
set_option maxRecDepth 100000 in
set_option maxHeartbeats 4000000 in
theorem w_X9_readsRow_85 (X : Cx) {cI cE : ClassId} (h : Ok X cX9_readsRow RX9 4 cI cE 1 0 0) (q0 : Nat) (q3 : Nat) (q4 : Nat) (q6 : Nat) (q7 : Nat) (q8 : Nat) (q9 : Nat) (q14 : Nat) (q15 : Nat) (q17 : Nat) (q18 : Nat) (q19 : Nat) (q23 : Nat) (q24 : Nat) (q25 : Nat) (ro : Int32) (co : Int32) (sl : Int32) (sn : Int32) (ts : Nat) (ra : Nat) (rr : Nat) (rw : Nat) (rn : Int32) (um : Int32) (bs : Int32) (bh : Int32) (km : Int32) (lx : Nat → Nat) (rl : Nat → Int32) (rg : Nat → Int32) (dth : Nat → Int32) (dow : Nat → Int32) (hlx : ∀ j, lx j ≤ 126) (hts : ts ≤ 200) (hra : ra < 1000) (hrr : rr ≤ 8) (hrw : rw ≤ 6) (hrl : rel (rr * rw) rl rg dth dow) (hR : ∀ (r : Int32) (u : (Int32) × (Nat) × (Nat) × (Nat → Int32) × (Nat → Int32)), (∃ (q : Nat) (dth2 : Nat → Int32) (dow2 : Nat → Int32), (nI 1 = r) ∧ (rowR lx ts ra (dth, dow, rw, rr) = some (q, dth2, dow2, u.2.2.1, u.2.1)) ∧ (rel (u.2.1 * u.2.2.1) u.2.2.2.1 u.2.2.2.2 dth2 dow2) ∧ (u.2.1 ≤ 8) ∧ (u.2.2.1 ≤ 6) ∧ (ra < q) ∧ (q ≤ ra + 10) ∧ ((nI q) = u.1) ∧ (True)) ∨ ((nI 0 = r) ∧ (rowR lx ts ra (dth, dow, rw, rr) = none) ∧ (True)) → RetI X cX9_readsRow 4 0 0 r [(q0, .inr (9, [.int ro, .int co, .int sl, .ref q3, .ref q4, .int sn, .ref q6, .ref q7, .ref q8, .ref q9, .int (nI ts), .int u.1, .int (nI u.2.1), .int (nI u.2.2.1), .ref q14, .ref q15, .int rn, .ref q17, .ref q18, .ref q19, .int um, .int bs, .int bh, .ref q23, .ref q24, .ref q25, .int km])), (q9, .inl (cI, 200, .inl (nA lx))), (q14, .inl (cI, 48, .inl u.2.2.2.1)), (q15, .inl (cI, 48, .inl u.2.2.2.2))]) : ∀ (n : Nat) (ms : Nat) (t1 : Nat → Int32), (rr < 8) → ((rr = 0 ∧ ms = 6) ∨ (rr ≠ 0 ∧ ms = rw)) → (n ≤ ms) → (∀ k, k < n → 48 ≤ ltr lx ts (ra + k) ∧ ltr lx ts (ra + k) ≤ 51) → (n = ms ∨ ¬ (48 ≤ ltr lx ts (ra + n) ∧ ltr lx ts (ra + n) ≤ 51)) → (t1 = rowT lx ts ra (ms * rr) n rl) → J X 4 0 0 85 [(0, .ref q0), (2, .int (nI n)), (1, .int (nI ms))] [] [(q0, .inr (9, [.int ro, .int co, .int sl, .ref q3, .ref q4, .int sn, .ref q6, .ref q7, .ref q8, .ref q9, .int (nI ts), .int (nI (ra + n)), .int (nI rr), .int (nI rw), .ref q14, .ref q15, .int rn, .ref q17, .ref q18, .ref q19, .int um, .int bs, .int bh, .ref q23, .ref q24, .ref q25, .int km])), (q9, .inl (cI, 200, .inl (nA lx))), (q14, .inl (cI, 48, .inl t1)), (q15, .inl (cI, 48, .inl rg))] := by
  intro n ms t1 h8 hms hn hd hx ht
  have hle := ltr_le hlx ts (ra + n)
  refine J_iload_n h (i := 2) dX9_readsRow_85 rfl 1 rfl ?_
  refine J_iconst h (v := nI 2) dX9_readsRow_86 (by decide) ?_
  refine N_icmp_lt h 114 dX9_readsRow_87 (by decide) (by omega) (by omega) (fun c_87 => ?_) (fun c_87 => ?_)
  · skip
    refine J_iconst h (v := nI 0) dX9_readsRow_114 (by decide) ?_
    exact hR (nI 0) (nI (ra + n), rr, rw, t1, rg) (by exact Or.inr ⟨rfl, row_no hms hn hd hx (by omega), trivial⟩) 115 _ dX9_readsRow_115
  · skip
    refine J_aload_n h (i := 0) dX9_readsRow_90 rfl 0 rfl ?_
    refine J_get h inX9 rfl 0 12 (by decide) rfl rfl nf_X9_94 dX9_readsRow_91 ?_
    refine N_if_le h 105 dX9_readsRow_94 (by decide) (by omega) (fun c_94 => ?_) (fun c_94 => ?_)
    · skip
      refine J_aload_n h (i := 0) dX9_readsRow_105 rfl 0 rfl ?_
      refine K_vi h (wr := [(q14, .inl (cI, 48, .inl t1)), (q15, .inl (cI, 48, .inl rg))]) (c_X9_here (xl X) (xD X) cI cE q0 q3 q4 q6 q7 q8 q9 q14 q15 q17 q18 q19 q23 q24 q25 ro co sl sn ts (ra + n) (nI rr) (nI rw) rn um bs bh km lx (by first | exact hlx |  assumption | omega | rfl) (by first | exact hts |  assumption | omega | rfl) (by first | exact hra |  assumption | omega | rfl)) yv_X9_here nm_X9_84 (by decide) (by decide) rfl rfl 0 rfl rfl rfl rfl (Nat.le_of_ble_eq_true rfl) (Nat.le_refl _) (Nat.le_refl _) dX9_readsRow_106 (fun r_106 u_106 p_106 => ?_)
      obtain ⟨rfl, -⟩ := p_106
      show J X 4 0 0 109 [(0, .ref q0), (2, .int (nI n)), (1, .int (nI ms))] [.int (nI (ltr lx ts (ra + n)))] [(q0, .inr (9, [.int ro, .int co, .int sl, .ref q3, .ref q4, .int sn, .ref q6, .ref q7, .ref q8, .ref q9, .int (nI ts), .int (nI (ra + n)), .int (nI rr), .int (nI rw), .ref q14, .ref q15, .int rn, .ref q17, .ref q18, .ref q19, .int um, .int bs, .int bh, .ref q23, .ref q24, .ref q25, .int km])), (q9, .inl (cI, 200, .inl (nA lx))), (q14, .inl (cI, 48, .inl t1)), (q15, .inl (cI, 48, .inl rg))]
      refine J_bipush h (v := nI 59) dX9_readsRow_109 (by decide) ?_
      refine N_icmp_eq h 116 dX9_readsRow_111 (by decide) (by omega) (by omega) (fun c_111 => ?_) (fun c_111 => ?_)
      · skip
        refine J_eqw (ws' := [(q0, .inr (9, [.int ro, .int co, .int sl, .ref q3, .ref q4, .int sn, .ref q6, .ref q7, .ref q8, .ref q9, .int (nI ts), .int (nI (ra + n)), .int (nI rr), .int (nI rw), .ref q14, .ref q15, .int rn, .ref q17, .ref q18, .ref q19, .int um, .int bs, .int bh, .ref q23, .ref q24, .ref q25, .int km])), (q9, .inl (cI, 200, .inl (nA lx))), (q14, .inl (cI, 48, .inl (rowT lx ts ra (rr * n) n rl))), (q15, .inl (cI, 48, .inl rg))]) (by rw [ht, show ms * rr = rr * n from row_ix hms hn (by omega)]) ?_
        refine J_aload_n h (i := 0) dX9_readsRow_116 rfl 0 rfl ?_
        refine J_dup h dX9_readsRow_117 rfl ?_
        refine J_get h inX9 rfl 0 11 (by decide) rfl rfl nf_X9_81 dX9_readsRow_118 ?_
        refine J_iconst h (v := nI 1) dX9_readsRow_121 (by decide) ?_
        refine N_iadd h dX9_readsRow_122 ?_
        refine J_put h (ws' := [(q0, .inr (9, [.int ro, .int co, .int sl, .ref q3, .ref q4, .int sn, .ref q6, .ref q7, .ref q8, .ref q9, .int (nI ts), .int (nI ((ra + n) + 1)), .int (nI rr), .int (nI rw), .ref q14, .ref q15, .int rn, .ref q17, .ref q18, .ref q19, .int um, .int bs, .int bh, .ref q23, .ref q24, .ref q25, .int km])), (q9, .inl (cI, 200, .inl (nA lx))), (q14, .inl (cI, 48, .inl (rowT lx ts ra (rr * n) n rl))), (q15, .inl (cI, 48, .inl rg))]) inX9 tyX9 tyX9_ok nmX9 rfl 0 11 (by decide) rfl nf_X9_81 rfl rfl rfl rfl (Nat.le_of_ble_eq_true rfl) dX9_readsRow_123 rfl ?_
        refine J_aload_n h (i := 0) dX9_readsRow_126 rfl 0 rfl ?_
        refine J_iload_n h (i := 2) dX9_readsRow_127 rfl 1 rfl ?_
        refine J_put h (ws' := [(q0, .inr (9, [.int ro, .int co, .int sl, .ref q3, .ref q4, .int sn, .ref q6, .ref q7, .ref q8, .ref q9, .int (nI ts), .int (nI ((ra + n) + 1)), .int (nI rr), .int (nI n), .ref q14, .ref q15, .int rn, .ref q17, .ref q18, .ref q19, .int um, .int bs, .int bh, .ref q23, .ref q24, .ref q25, .int km])), (q9, .inl (cI, 200, .inl (nA lx))), (q14, .inl (cI, 48, .inl (rowT lx ts ra (rr * n) n rl))), (q15, .inl (cI, 48, .inl rg))]) inX9 tyX9 tyX9_ok nmX9 rfl 0 13 (by decide) rfl nf_X9_97 rfl rfl rfl rfl (Nat.le_of_ble_eq_true rfl) dX9_readsRow_128 rfl ?_
        refine J_iconst h (v := nI 0) dX9_readsRow_131 (by decide) ?_
        refine J_istore_n h (i := 3) (lv' := [(3, .int (nI 0)), (0, .ref q0), (2, .int (nI n)), (1, .int (nI ms))]) dX9_readsRow_132 rfl (by decide) rfl ?_
        refine J.loc [1, 2, 0] (lv' := [(0, .ref q0), (2, .int (nI n)), (3, .int (nI 0))]) rfl ?_
        exact w_X9_readsRow_133 X h q0 q3 q4 q6 q7 q8 q9 q14 q15 q17 q18 q19 q23 q24 q25 ro co sl sn ts ra rr rw rn um bs bh km lx rl rg dth dow hlx hts hra hrr hrw hrl hR  (n - 0 + 1) n 0 rg (by first | exact h8 |  assumption | omega | rfl) (by first | exact hd |  assumption | omega | rfl) (by omega) (by first | assumption | omega | rfl) (by rw [sgm_0]) (by omega)
      · skip
        refine J_iconst h (v := nI 0) dX9_readsRow_114 (by decide) ?_
        exact hR (nI 0) (nI (ra + n), rr, rw, t1, rg) (by exact Or.inr ⟨rfl, row_no hms hn hd hx (by omega), trivial⟩) 115 _ dX9_readsRow_115
    · skip
      refine J_iload_n h (i := 2) dX9_readsRow_97 rfl 1 rfl ?_
      refine J_aload_n h (i := 0) dX9_readsRow_98 rfl 0 rfl ?_
      refine J_get h inX9 rfl 0 13 (by decide) rfl rfl nf_X9_97 dX9_readsRow_99 ?_
      refine N_icmp_ne h 114 dX9_readsRow_102 (by decide) (by omega) (by omega) (fun c_102 => ?_) (fun c_102 => ?_)
      · skip
        refine J_iconst h (v := nI 0) dX9_readsRow_114 (by decide) ?_
        exact hR (nI 0) (nI (ra + n), rr, rw, t1, rg) (by exact Or.inr ⟨rfl, row_no hms hn hd hx (by omega), trivial⟩) 115 _ dX9_readsRow_115
      · skip
        refine J_aload_n h (i := 0) dX9_readsRow_105 rfl 0 rfl ?_
        refine K_vi h (wr := [(q14, .inl (cI, 48, .inl t1)), (q15, .inl (cI, 48, .inl rg))]) (c_X9_here (xl X) (xD X) cI cE q0 q3 q4 q6 q7 q8 q9 q14 q15 q17 q18 q19 q23 q24 q25 ro co sl sn ts (ra + n) (nI rr) (nI rw) rn um bs bh km lx (by first | exact hlx |  assumption | omega | rfl) (by first | exact hts |  assumption | omega | rfl) (by first | exact hra |  assumption | omega | rfl)) yv_X9_here nm_X9_84 (by decide) (by decide) rfl rfl 0 rfl rfl rfl rfl (Nat.le_of_ble_eq_true rfl) (Nat.le_refl _) (Nat.le_refl _) dX9_readsRow_106 (fun r_106 u_106 p_106 => ?_)
        obtain ⟨rfl, -⟩ := p_106
        show J X 4 0 0 109 [(0, .ref q0), (2, .int (nI n)), (1, .int (nI ms))] [.int (nI (ltr lx ts (ra + n)))] [(q0, .inr (9, [.int ro, .int co, .int sl, .ref q3, .ref q4, .int sn, .ref q6, .ref q7, .ref q8, .ref q9, .int (nI ts), .int (nI (ra + n)), .int (nI rr), .int (nI rw), .ref q14, .ref q15, .int rn, .ref q17, .ref q18, .ref q19, .int um, .int bs, .int bh, .ref q23, .ref q24, .ref q25, .int km])), (q9, .inl (cI, 200, .inl (nA lx))), (q14, .inl (cI, 48, .inl t1)), (q15, .inl (cI, 48, .inl rg))]
        refine J_bipush h (v := nI 59) dX9_readsRow_109 (by decide) ?_
        refine N_icmp_eq h 116 dX9_readsRow_111 (by decide) (by omega) (by omega) (fun c_111 => ?_) (fun c_111 => ?_)
        · skip
          refine J_eqw (ws' := [(q0, .inr (9, [.int ro, .int co, .int sl, .ref q3, .ref q4, .int sn, .ref q6, .ref q7, .ref q8, .ref q9, .int (nI ts), .int (nI (ra + n)), .int (nI rr), .int (nI rw), .ref q14, .ref q15, .int rn, .ref q17, .ref q18, .ref q19, .int um, .int bs, .int bh, .ref q23, .ref q24, .ref q25, .int km])), (q9, .inl (cI, 200, .inl (nA lx))), (q14, .inl (cI, 48, .inl (rowT lx ts ra (rr * n) n rl))), (q15, .inl (cI, 48, .inl rg))]) (by rw [ht, show ms * rr = rr * n from row_ix hms hn (by omega)]) ?_
          refine J_aload_n h (i := 0) dX9_readsRow_116 rfl 0 rfl ?_
          refine J_dup h dX9_readsRow_117 rfl ?_
          refine J_get h inX9 rfl 0 11 (by decide) rfl rfl nf_X9_81 dX9_readsRow_118 ?_
          refine J_iconst h (v := nI 1) dX9_readsRow_121 (by decide) ?_
          refine N_iadd h dX9_readsRow_122 ?_
          refine J_put h (ws' := [(q0, .inr (9, [.int ro, .int co, .int sl, .ref q3, .ref q4, .int sn, .ref q6, .ref q7, .ref q8, .ref q9, .int (nI ts), .int (nI ((ra + n) + 1)), .int (nI rr), .int (nI rw), .ref q14, .ref q15, .int rn, .ref q17, .ref q18, .ref q19, .int um, .int bs, .int bh, .ref q23, .ref q24, .ref q25, .int km])), (q9, .inl (cI, 200, .inl (nA lx))), (q14, .inl (cI, 48, .inl (rowT lx ts ra (rr * n) n rl))), (q15, .inl (cI, 48, .inl rg))]) inX9 tyX9 tyX9_ok nmX9 rfl 0 11 (by decide) rfl nf_X9_81 rfl rfl rfl rfl (Nat.le_of_ble_eq_true rfl) dX9_readsRow_123 rfl ?_
          refine J_aload_n h (i := 0) dX9_readsRow_126 rfl 0 rfl ?_
          refine J_iload_n h (i := 2) dX9_readsRow_127 rfl 1 rfl ?_
          refine J_put h (ws' := [(q0, .inr (9, [.int ro, .int co, .int sl, .ref q3, .ref q4, .int sn, .ref q6, .ref q7, .ref q8, .ref q9, .int (nI ts), .int (nI ((ra + n) + 1)), .int (nI rr), .int (nI n), .ref q14, .ref q15, .int rn, .ref q17, .ref q18, .ref q19, .int um, .int bs, .int bh, .ref q23, .ref q24, .ref q25, .int km])), (q9, .inl (cI, 200, .inl (nA lx))), (q14, .inl (cI, 48, .inl (rowT lx ts ra (rr * n) n rl))), (q15, .inl (cI, 48, .inl rg))]) inX9 tyX9 tyX9_ok nmX9 rfl 0 13 (by decide) rfl nf_X9_97 rfl rfl rfl rfl (Nat.le_of_ble_eq_true rfl) dX9_readsRow_128 rfl ?_
          refine J_iconst h (v := nI 0) dX9_readsRow_131 (by decide) ?_
          refine J_istore_n h (i := 3) (lv' := [(3, .int (nI 0)), (0, .ref q0), (2, .int (nI n)), (1, .int (nI ms))]) dX9_readsRow_132 rfl (by decide) rfl ?_
          refine J.loc [1, 2, 0] (lv' := [(0, .ref q0), (2, .int (nI n)), (3, .int (nI 0))]) rfl ?_
          exact w_X9_readsRow_133 X h q0 q3 q4 q6 q7 q8 q9 q14 q15 q17 q18 q19 q23 q24 q25 ro co sl sn ts ra rr rw rn um bs bh km lx rl rg dth dow hlx hts hra hrr hrw hrl hR  (n - 0 + 1) n 0 rg (by first | exact h8 |  assumption | omega | rfl) (by first | exact hd |  assumption | omega | rfl) (by omega) (by first | assumption | omega | rfl) (by rw [sgm_0]) (by omega)
        · skip
          refine J_iconst h (v := nI 0) dX9_readsRow_114 (by decide) ?_
          exact hR (nI 0) (nI (ra + n), rr, rw, t1, rg) (by exact Or.inr ⟨rfl, row_no hms hn hd hx (by omega), trivial⟩) 115 _ dX9_readsRow_115
set_option maxRecDepth 100000 in
set_option maxHeartbeats 4000000 in
theorem w_X9_readsRow_30 (X : Cx) {cI cE : ClassId} (h : Ok X cX9_readsRow RX9 4 cI cE 1 0 0) (q0 : Nat) (q3 : Nat) (q4 : Nat) (q6 : Nat) (q7 : Nat) (q8 : Nat) (q9 : Nat) (q14 : Nat) (q15 : Nat) (q17 : Nat) (q18 : Nat) (q19 : Nat) (q23 : Nat) (q24 : Nat) (q25 : Nat) (ro : Int32) (co : Int32) (sl : Int32) (sn : Int32) (ts : Nat) (ra : Nat) (rr : Nat) (rw : Nat) (rn : Int32) (um : Int32) (bs : Int32) (bh : Int32) (km : Int32) (lx : Nat → Nat) (rl : Nat → Int32) (rg : Nat → Int32) (dth : Nat → Int32) (dow : Nat → Int32) (hlx : ∀ j, lx j ≤ 126) (hts : ts ≤ 200) (hra : ra < 1000) (hrr : rr ≤ 8) (hrw : rw ≤ 6) (hrl : rel (rr * rw) rl rg dth dow) (hR : ∀ (r : Int32) (u : (Int32) × (Nat) × (Nat) × (Nat → Int32) × (Nat → Int32)), (∃ (q : Nat) (dth2 : Nat → Int32) (dow2 : Nat → Int32), (nI 1 = r) ∧ (rowR lx ts ra (dth, dow, rw, rr) = some (q, dth2, dow2, u.2.2.1, u.2.1)) ∧ (rel (u.2.1 * u.2.2.1) u.2.2.2.1 u.2.2.2.2 dth2 dow2) ∧ (u.2.1 ≤ 8) ∧ (u.2.2.1 ≤ 6) ∧ (ra < q) ∧ (q ≤ ra + 10) ∧ ((nI q) = u.1) ∧ (True)) ∨ ((nI 0 = r) ∧ (rowR lx ts ra (dth, dow, rw, rr) = none) ∧ (True)) → RetI X cX9_readsRow 4 0 0 r [(q0, .inr (9, [.int ro, .int co, .int sl, .ref q3, .ref q4, .int sn, .ref q6, .ref q7, .ref q8, .ref q9, .int (nI ts), .int u.1, .int (nI u.2.1), .int (nI u.2.2.1), .ref q14, .ref q15, .int rn, .ref q17, .ref q18, .ref q19, .int um, .int bs, .int bh, .ref q23, .ref q24, .ref q25, .int km])), (q9, .inl (cI, 200, .inl (nA lx))), (q14, .inl (cI, 48, .inl u.2.2.2.1)), (q15, .inl (cI, 48, .inl u.2.2.2.2))]) : ∀ (n_30 : Nat) (n : Nat) (ms : Nat) (t1 : Nat → Int32), (rr < 8) → ((rr = 0 ∧ ms = 6) ∨ (rr ≠ 0 ∧ ms = rw)) → (n ≤ ms) → (∀ k, k < n → 48 ≤ ltr lx ts (ra + k) ∧ ltr lx ts (ra + k) ≤ 51) → (t1 = rowT lx ts ra (ms * rr) n rl) → ms - n < n_30 → J X 4 0 0 30 [(0, .ref q0), (1, .int (nI ms)), (2, .int (nI n))] [] [(q0, .inr (9, [.int ro, .int co, .int sl, .ref q3, .ref q4, .int sn, .ref q6, .ref q7, .ref q8, .ref q9, .int (nI ts), .int (nI (ra + n)), .int (nI rr), .int (nI rw), .ref q14, .ref q15, .int rn, .ref q17, .ref q18, .ref q19, .int um, .int bs, .int bh, .ref q23, .ref q24, .ref q25, .int km])), (q9, .inl (cI, 200, .inl (nA lx))), (q14, .inl (cI, 48, .inl t1)), (q15, .inl (cI, 48, .inl rg))] := by
  intro n_30
  induction n_30 with
  | zero => intro n ms t1 h8 hms hn hd ht hn_; exact absurd hn_ (Nat.not_lt_zero _)
  | succ n_30 ih_30 =>
    intro n ms t1 h8 hms hn hd ht hn_30
    have hle := ltr_le hlx ts (ra + n)
    have hmr : ms * rr ≤ 6 * 7 := Nat.mul_le_mul (by omega) (by omega)
    refine J_iload_n h (i := 2) dX9_readsRow_30 rfl 2 rfl ?_
    refine J_iload_n h (i := 1) dX9_readsRow_31 rfl 1 rfl ?_
    refine N_icmp_ge h 85 dX9_readsRow_32 (by decide) (by omega) (by omega) (fun c_32 => ?_) (fun c_32 => ?_)
    · skip
      refine J.loc [0, 2, 1] (lv' := [(0, .ref q0), (2, .int (nI n)), (1, .int (nI ms))]) rfl ?_
      exact w_X9_readsRow_85 X h q0 q3 q4 q6 q7 q8 q9 q14 q15 q17 q18 q19 q23 q24 q25 ro co sl sn ts ra rr rw rn um bs bh km lx rl rg dth dow hlx hts hra hrr hrw hrl hR  n ms t1 (by first | exact h8 |  assumption | omega | rfl) (by first | exact hms |  assumption | omega | rfl) (by first | exact hn |  assumption | omega | rfl) (by first | exact hd |  assumption | omega | rfl) (by first | assumption | omega | rfl) (by first | exact ht |  assumption | omega | rfl)
    · skip
      refine J_aload_n h (i := 0) dX9_readsRow_35 rfl 0 rfl ?_
      refine K_vi h (wr := [(q14, .inl (cI, 48, .inl t1)), (q15, .inl (cI, 48, .inl rg))]) (c_X9_here (xl X) (xD X) cI cE q0 q3 q4 q6 q7 q8 q9 q14 q15 q17 q18 q19 q23 q24 q25 ro co sl sn ts (ra + n) (nI rr) (nI rw) rn um bs bh km lx (by first | exact hlx |  assumption | omega | rfl) (by first | exact hts |  assumption | omega | rfl) (by first | exact hra |  assumption | omega | rfl)) yv_X9_here nm_X9_84 (by decide) (by decide) rfl rfl 0 rfl rfl rfl rfl (Nat.le_of_ble_eq_true rfl) (Nat.le_refl _) (Nat.le_refl _) dX9_readsRow_36 (fun r_36 u_36 p_36 => ?_)
      obtain ⟨rfl, -⟩ := p_36
      show J X 4 0 0 39 [(0, .ref q0), (1, .int (nI ms)), (2, .int (nI n))] [.int (nI (ltr lx ts (ra + n)))] [(q0, .inr (9, [.int ro, .int co, .int sl, .ref q3, .ref q4, .int sn, .ref q6, .ref q7, .ref q8, .ref q9, .int (nI ts), .int (nI (ra + n)), .int (nI rr), .int (nI rw), .ref q14, .ref q15, .int rn, .ref q17, .ref q18, .ref q19, .int um, .int bs, .int bh, .ref q23, .ref q24, .ref q25, .int km])), (q9, .inl (cI, 200, .inl (nA lx))), (q14, .inl (cI, 48, .inl t1)), (q15, .inl (cI, 48, .inl rg))]
      refine J_bipush h (v := nI 48) dX9_readsRow_39 (by decide) ?_
      refine J_bipush h (v := nI 51) dX9_readsRow_41 (by decide) ?_
      refine K_si h (wr := [(q0, .inr (9, [.int ro, .int co, .int sl, .ref q3, .ref q4, .int sn, .ref q6, .ref q7, .ref q8, .ref q9, .int (nI ts), .int (nI (ra + n)), .int (nI rr), .int (nI rw), .ref q14, .ref q15, .int rn, .ref q17, .ref q18, .ref q19, .int um, .int bs, .int bh, .ref q23, .ref q24, .ref q25, .int km])), (q9, .inl (cI, 200, .inl (nA lx))), (q14, .inl (cI, 48, .inl t1)), (q15, .inl (cI, 48, .inl rg))]) (c_X9_in (xl X) (xD X) cI cE (nI (ltr lx ts (ra + n))) (nI 48) (nI 51) (((ltr lx ts (ra + n) : Nat) : Int)) 48 51 (by exact nI_toInt (by omega)) (by exact nI_toInt (by omega)) (by exact nI_toInt (by omega))) yv_X9_in nm_X9_67 (by decide) (by decide) rfl rfl rfl (Nat.le_of_ble_eq_true rfl) (Nat.le_refl _) (Nat.le_refl _) dX9_readsRow_43 (fun r_43 u_43 p_43 => ?_)
      rcases p_43 with p_43 | p_43
      · obtain ⟨rfl, f0_43, -⟩ := p_43
        show J X 4 0 0 46 [(0, .ref q0), (1, .int (nI ms)), (2, .int (nI n))] [.int (nI 1)] [(q0, .inr (9, [.int ro, .int co, .int sl, .ref q3, .ref q4, .int sn, .ref q6, .ref q7, .ref q8, .ref q9, .int (nI ts), .int (nI (ra + n)), .int (nI rr), .int (nI rw), .ref q14, .ref q15, .int rn, .ref q17, .ref q18, .ref q19, .int um, .int bs, .int bh, .ref q23, .ref q24, .ref q25, .int km])), (q9, .inl (cI, 200, .inl (nA lx))), (q14, .inl (cI, 48, .inl t1)), (q15, .inl (cI, 48, .inl rg))]
        refine J_if_eq h 85 dX9_readsRow_46 (by decide) (fun z => absurd z (by decide)) (fun _ => ?_)
        refine J_aload_n h (i := 0) dX9_readsRow_49 rfl 0 rfl ?_
        refine J_get h inX9 rfl 0 14 (by decide) rfl rfl nf_X9_28 dX9_readsRow_50 ?_
        refine J_iload_n h (i := 1) dX9_readsRow_53 rfl 1 rfl ?_
        refine J_aload_n h (i := 0) dX9_readsRow_54 rfl 0 rfl ?_
        refine J_get h inX9 rfl 0 12 (by decide) rfl rfl nf_X9_94 dX9_readsRow_55 ?_
        refine N_imul h dX9_readsRow_58 ?_
        refine J_iload_n h (i := 2) dX9_readsRow_59 rfl 2 rfl ?_
        refine N_iadd h dX9_readsRow_60 ?_
        refine J_aload_n h (i := 0) dX9_readsRow_61 rfl 0 rfl ?_
        refine K_vi h (wr := [(q14, .inl (cI, 48, .inl t1)), (q15, .inl (cI, 48, .inl rg))]) (c_X9_here (xl X) (xD X) cI cE q0 q3 q4 q6 q7 q8 q9 q14 q15 q17 q18 q19 q23 q24 q25 ro co sl sn ts (ra + n) (nI rr) (nI rw) rn um bs bh km lx (by first | exact hlx |  assumption | omega | rfl) (by first | exact hts |  assumption | omega | rfl) (by first | exact hra |  assumption | omega | rfl)) yv_X9_here nm_X9_84 (by decide) (by decide) rfl rfl 0 rfl rfl rfl rfl (Nat.le_of_ble_eq_true rfl) (Nat.le_refl _) (Nat.le_refl _) dX9_readsRow_62 (fun r_62 u_62 p_62 => ?_)
        obtain ⟨rfl, -⟩ := p_62
        show J X 4 0 0 65 [(0, .ref q0), (1, .int (nI ms)), (2, .int (nI n))] [.int (nI (ltr lx ts (ra + n))), .int (nI ((ms * rr) + n)), .ref q14] [(q0, .inr (9, [.int ro, .int co, .int sl, .ref q3, .ref q4, .int sn, .ref q6, .ref q7, .ref q8, .ref q9, .int (nI ts), .int (nI (ra + n)), .int (nI rr), .int (nI rw), .ref q14, .ref q15, .int rn, .ref q17, .ref q18, .ref q19, .int um, .int bs, .int bh, .ref q23, .ref q24, .ref q25, .int km])), (q9, .inl (cI, 200, .inl (nA lx))), (q14, .inl (cI, 48, .inl t1)), (q15, .inl (cI, 48, .inl rg))]
        refine J_bipush h (v := nI 48) dX9_readsRow_65 (by decide) ?_
        refine N_isub h (by omega) dX9_readsRow_67 ?_
        refine N_iast h (ws' := [(q0, .inr (9, [.int ro, .int co, .int sl, .ref q3, .ref q4, .int sn, .ref q6, .ref q7, .ref q8, .ref q9, .int (nI ts), .int (nI (ra + n)), .int (nI rr), .int (nI rw), .ref q14, .ref q15, .int rn, .ref q17, .ref q18, .ref q19, .int um, .int bs, .int bh, .ref q23, .ref q24, .ref q25, .int km])), (q9, .inl (cI, 200, .inl (nA lx))), (q14, .inl (cI, 48, .inl (upd t1 ((ms * rr) + n) (nI ((ltr lx ts (ra + n)) - 48))))), (q15, .inl (cI, 48, .inl rg))]) 2 rfl (by decide) (by omega) dX9_readsRow_68 rfl ?_
        refine J_aload_n h (i := 0) dX9_readsRow_69 rfl 0 rfl ?_
        refine J_dup h dX9_readsRow_70 rfl ?_
        refine J_get h inX9 rfl 0 11 (by decide) rfl rfl nf_X9_81 dX9_readsRow_71 ?_
        refine J_iconst h (v := nI 1) dX9_readsRow_74 (by decide) ?_
        refine N_iadd h dX9_readsRow_75 ?_
        refine J_put h (ws' := [(q0, .inr (9, [.int ro, .int co, .int sl, .ref q3, .ref q4, .int sn, .ref q6, .ref q7, .ref q8, .ref q9, .int (nI ts), .int (nI ((ra + n) + 1)), .int (nI rr), .int (nI rw), .ref q14, .ref q15, .int rn, .ref q17, .ref q18, .ref q19, .int um, .int bs, .int bh, .ref q23, .ref q24, .ref q25, .int km])), (q9, .inl (cI, 200, .inl (nA lx))), (q14, .inl (cI, 48, .inl (upd t1 ((ms * rr) + n) (nI ((ltr lx ts (ra + n)) - 48))))), (q15, .inl (cI, 48, .inl rg))]) inX9 tyX9 tyX9_ok nmX9 rfl 0 11 (by decide) rfl nf_X9_81 rfl rfl rfl rfl (Nat.le_of_ble_eq_true rfl) dX9_readsRow_76 rfl ?_
        refine J_iinc h (v := nI (n + 1)) (lv' := [(2, .int (nI (n + 1))), (0, .ref q0), (1, .int (nI ms))]) dX9_readsRow_79 2 rfl (inc_ok _ 1) (by decide) rfl ?_
        refine J_goto h 30 dX9_readsRow_82 (by decide) ?_
        refine J.loc [1, 2, 0] (lv' := [(0, .ref q0), (1, .int (nI ms)), (2, .int (nI (n + 1)))]) rfl ?_
        exact ih_30 (n + 1) ms (upd t1 ((ms * rr) + n) (nI ((ltr lx ts (ra + n)) - 48))) (by first | exact h8 |  assumption | omega | rfl) (by first | exact hms |  assumption | omega | rfl) (by first | exact hn |  assumption | omega | rfl) (by exact lt_s hd (by omega)) (by rw [ht, rowT_s]) (by omega)
      · obtain ⟨rfl, f0_43, -⟩ := p_43
        show J X 4 0 0 46 [(0, .ref q0), (1, .int (nI ms)), (2, .int (nI n))] [.int (nI 0)] [(q0, .inr (9, [.int ro, .int co, .int sl, .ref q3, .ref q4, .int sn, .ref q6, .ref q7, .ref q8, .ref q9, .int (nI ts), .int (nI (ra + n)), .int (nI rr), .int (nI rw), .ref q14, .ref q15, .int rn, .ref q17, .ref q18, .ref q19, .int um, .int bs, .int bh, .ref q23, .ref q24, .ref q25, .int km])), (q9, .inl (cI, 200, .inl (nA lx))), (q14, .inl (cI, 48, .inl t1)), (q15, .inl (cI, 48, .inl rg))]
        refine J_if_eq h 85 dX9_readsRow_46 (by decide) (fun _ => ?_) (fun z => absurd z (by decide))
        refine J.loc [0, 2, 1] (lv' := [(0, .ref q0), (2, .int (nI n)), (1, .int (nI ms))]) rfl ?_
        exact w_X9_readsRow_85 X h q0 q3 q4 q6 q7 q8 q9 q14 q15 q17 q18 q19 q23 q24 q25 ro co sl sn ts ra rr rw rn um bs bh km lx rl rg dth dow hlx hts hra hrr hrw hrl hR  n ms t1 (by first | exact h8 |  assumption | omega | rfl) (by first | exact hms |  assumption | omega | rfl) (by first | exact hn |  assumption | omega | rfl) (by first | exact hd |  assumption | omega | rfl) (by first | assumption | omega | rfl) (by first | exact ht |  assumption | omega | rfl)
set_option maxRecDepth 100000 in
set_option maxHeartbeats 4000000 in
theorem w_X9_readsRow (X : Cx) {cI cE : ClassId} (h : Ok X cX9_readsRow RX9 4 cI cE 1 0 0) (q0 : Nat) (q3 : Nat) (q4 : Nat) (q6 : Nat) (q7 : Nat) (q8 : Nat) (q9 : Nat) (q14 : Nat) (q15 : Nat) (q17 : Nat) (q18 : Nat) (q19 : Nat) (q23 : Nat) (q24 : Nat) (q25 : Nat) (ro : Int32) (co : Int32) (sl : Int32) (sn : Int32) (ts : Nat) (ra : Nat) (rr : Nat) (rw : Nat) (rn : Int32) (um : Int32) (bs : Int32) (bh : Int32) (km : Int32) (lx : Nat → Nat) (rl : Nat → Int32) (rg : Nat → Int32) (dth : Nat → Int32) (dow : Nat → Int32) (hlx : ∀ j, lx j ≤ 126) (hts : ts ≤ 200) (hra : ra < 1000) (hrr : rr ≤ 8) (hrw : rw ≤ 6) (hrl : rel (rr * rw) rl rg dth dow) (hR : ∀ (r : Int32) (u : (Int32) × (Nat) × (Nat) × (Nat → Int32) × (Nat → Int32)), (∃ (q : Nat) (dth2 : Nat → Int32) (dow2 : Nat → Int32), (nI 1 = r) ∧ (rowR lx ts ra (dth, dow, rw, rr) = some (q, dth2, dow2, u.2.2.1, u.2.1)) ∧ (rel (u.2.1 * u.2.2.1) u.2.2.2.1 u.2.2.2.2 dth2 dow2) ∧ (u.2.1 ≤ 8) ∧ (u.2.2.1 ≤ 6) ∧ (ra < q) ∧ (q ≤ ra + 10) ∧ ((nI q) = u.1) ∧ (True)) ∨ ((nI 0 = r) ∧ (rowR lx ts ra (dth, dow, rw, rr) = none) ∧ (True)) → RetI X cX9_readsRow 4 0 0 r [(q0, .inr (9, [.int ro, .int co, .int sl, .ref q3, .ref q4, .int sn, .ref q6, .ref q7, .ref q8, .ref q9, .int (nI ts), .int u.1, .int (nI u.2.1), .int (nI u.2.2.1), .ref q14, .ref q15, .int rn, .ref q17, .ref q18, .ref q19, .int um, .int bs, .int bh, .ref q23, .ref q24, .ref q25, .int km])), (q9, .inl (cI, 200, .inl (nA lx))), (q14, .inl (cI, 48, .inl u.2.2.2.1)), (q15, .inl (cI, 48, .inl u.2.2.2.2))]) : J X 4 0 0 0 [(0, .ref q0)] [] [(q0, .inr (9, [.int ro, .int co, .int sl, .ref q3, .ref q4, .int sn, .ref q6, .ref q7, .ref q8, .ref q9, .int (nI ts), .int (nI ra), .int (nI rr), .int (nI rw), .ref q14, .ref q15, .int rn, .ref q17, .ref q18, .ref q19, .int um, .int bs, .int bh, .ref q23, .ref q24, .ref q25, .int km])), (q9, .inl (cI, 200, .inl (nA lx))), (q14, .inl (cI, 48, .inl rl)), (q15, .inl (cI, 48, .inl rg))] := by
  refine J_aload_n h (i := 0) dX9_readsRow_0 rfl 0 rfl ?_
  refine J_get h inX9 rfl 0 12 (by decide) rfl rfl nf_X9_94 dX9_readsRow_1 ?_
  refine J_bipush h (v := nI 8) dX9_readsRow_4 (by decide) ?_
  refine N_icmp_ne h 11 dX9_readsRow_6 (by decide) (by omega) (by omega) (fun c_6 => ?_) (fun c_6 => ?_)
  · skip
    refine J_aload_n h (i := 0) dX9_readsRow_11 rfl 0 rfl ?_
    refine J_get h inX9 rfl 0 12 (by decide) rfl rfl nf_X9_94 dX9_readsRow_12 ?_
    refine N_if_ne h 23 dX9_readsRow_15 (by decide) (by omega) (fun c_15 => ?_) (fun c_15 => ?_)
    · skip
      refine J_aload_n h (i := 0) dX9_readsRow_23 rfl 0 rfl ?_
      refine J_get h inX9 rfl 0 13 (by decide) rfl rfl nf_X9_97 dX9_readsRow_24 ?_
      refine J_istore_n h (i := 1) (lv' := [(1, .int (nI rw)), (0, .ref q0)]) dX9_readsRow_27 rfl (by decide) rfl ?_
      refine J_iconst h (v := nI 0) dX9_readsRow_28 (by decide) ?_
      refine J_istore_n h (i := 2) (lv' := [(2, .int (nI 0)), (1, .int (nI rw)), (0, .ref q0)]) dX9_readsRow_29 rfl (by decide) rfl ?_
      refine J.loc [2, 1, 0] (lv' := [(0, .ref q0), (1, .int (nI rw)), (2, .int (nI 0))]) rfl ?_
      exact w_X9_readsRow_30 X h q0 q3 q4 q6 q7 q8 q9 q14 q15 q17 q18 q19 q23 q24 q25 ro co sl sn ts ra rr rw rn um bs bh km lx rl rg dth dow hlx hts hra hrr hrw hrl hR  (rw - 0 + 1) 0 rw rl (by first | assumption | omega | rfl) (by first | assumption | omega | rfl) (by first | assumption | omega | rfl) (by intro k hk; omega) (by rw [rowT_0]) (by omega)
    · skip
      refine J_bipush h (v := nI 6) dX9_readsRow_18 (by decide) ?_
      refine J_goto h 27 dX9_readsRow_20 (by decide) ?_
      refine J_istore_n h (i := 1) (lv' := [(1, .int (nI 6)), (0, .ref q0)]) dX9_readsRow_27 rfl (by decide) rfl ?_
      refine J_iconst h (v := nI 0) dX9_readsRow_28 (by decide) ?_
      refine J_istore_n h (i := 2) (lv' := [(2, .int (nI 0)), (1, .int (nI 6)), (0, .ref q0)]) dX9_readsRow_29 rfl (by decide) rfl ?_
      refine J.loc [2, 1, 0] (lv' := [(0, .ref q0), (1, .int (nI 6)), (2, .int (nI 0))]) rfl ?_
      exact w_X9_readsRow_30 X h q0 q3 q4 q6 q7 q8 q9 q14 q15 q17 q18 q19 q23 q24 q25 ro co sl sn ts ra rr rw rn um bs bh km lx rl rg dth dow hlx hts hra hrr hrw hrl hR  (6 - 0 + 1) 0 6 rl (by first | assumption | omega | rfl) (by first | assumption | omega | rfl) (by first | assumption | omega | rfl) (by intro k hk; omega) (by rw [rowT_0]) (by omega)
  · skip
    refine J_iconst h (v := nI 0) dX9_readsRow_9 (by decide) ?_
    exact hR (nI 0) (nI ra, rr, rw, rl, rg) (by exact Or.inr ⟨rfl, row_8 (by omega), trivial⟩) 10 _ dX9_readsRow_10
theorem c_X9_readsRow (l : Launch) (D : va_G) (cI cE : ClassId) (q0 : Nat) (q3 : Nat) (q4 : Nat) (q6 : Nat) (q7 : Nat) (q8 : Nat) (q9 : Nat) (q14 : Nat) (q15 : Nat) (q17 : Nat) (q18 : Nat) (q19 : Nat) (q23 : Nat) (q24 : Nat) (q25 : Nat) (ro : Int32) (co : Int32) (sl : Int32) (sn : Int32) (ts : Nat) (ra : Nat) (rr : Nat) (rw : Nat) (rn : Int32) (um : Int32) (bs : Int32) (bh : Int32) (km : Int32) (lx : Nat → Nat) (rl : Nat → Int32) (rg : Nat → Int32) (dth : Nat → Int32) (dow : Nat → Int32) (hlx : ∀ j, lx j ≤ 126) (hts : ts ≤ 200) (hra : ra < 1000) (hrr : rr ≤ 8) (hrw : rw ≤ 6) (hrl : rel (rr * rw) rl rg dth dow) : Ci l D cI cE yX9_readsRow cX9_readsRow 4 (some .boolean) 1 0 0 [.ref q0] [(q0, .inr (9, [.int ro, .int co, .int sl, .ref q3, .ref q4, .int sn, .ref q6, .ref q7, .ref q8, .ref q9, .int (nI ts), .int (nI ra), .int (nI rr), .int (nI rw), .ref q14, .ref q15, .int rn, .ref q17, .ref q18, .ref q19, .int um, .int bs, .int bh, .ref q23, .ref q24, .ref q25, .int km])), (q9, .inl (cI, 200, .inl (nA lx))), (q14, .inl (cI, 48, .inl rl)), (q15, .inl (cI, 48, .inl rg))] (fun (r : Int32) (u : (Int32) × (Nat) × (Nat) × (Nat → Int32) × (Nat → Int32)) => (∃ (q : Nat) (dth2 : Nat → Int32) (dow2 : Nat → Int32), (nI 1 = r) ∧ (rowR lx ts ra (dth, dow, rw, rr) = some (q, dth2, dow2, u.2.2.1, u.2.1)) ∧ (rel (u.2.1 * u.2.2.1) u.2.2.2.1 u.2.2.2.2 dth2 dow2) ∧ (u.2.1 ≤ 8) ∧ (u.2.2.1 ≤ 6) ∧ (ra < q) ∧ (q ≤ ra + 10) ∧ ((nI q) = u.1) ∧ (True)) ∨ ((nI 0 = r) ∧ (rowR lx ts ra (dth, dow, rw, rr) = none) ∧ (True))) (fun (u : (Int32) × (Nat) × (Nat) × (Nat → Int32) × (Nat → Int32)) => ([(q0, .inr (9, [.int ro, .int co, .int sl, .ref q3, .ref q4, .int sn, .ref q6, .ref q7, .ref q8, .ref q9, .int (nI ts), .int u.1, .int (nI u.2.1), .int (nI u.2.2.1), .ref q14, .ref q15, .int rn, .ref q17, .ref q18, .ref q19, .int um, .int bs, .int bh, .ref q23, .ref q24, .ref q25, .int km])), (q9, .inl (cI, 200, .inl (nA lx))), (q14, .inl (cI, 48, .inl u.2.2.2.1)), (q15, .inl (cI, 48, .inl u.2.2.2.2))] : va_W)) :=
  Ci.of (by decide) (Nat.le_of_ble_eq_true rfl) (fun r u hp => by rcases hp with ⟨_, _, _, hp, _⟩ | ⟨hp, _⟩ <;> (rw [← hp]; rfl)) (fun X h hR => w_X9_readsRow X h q0 q3 q4 q6 q7 q8 q9 q14 q15 q17 q18 q19 q23 q24 q25 ro co sl sn ts ra rr rw rn um bs bh km lx rl rg dth dow hlx hts hra hrr hrw hrl hR)
theorem yv_X9_readsRow : YV yX9_readsRow cX9_readsRow 4 (some .boolean) 0 := ⟨no_X9_readsRow, nv_X9_readsRow, ni_X9, nk_X9_readsRow, by decide +kernel⟩
set_option maxRecDepth 100000 in
set_option maxHeartbeats 4000000 in
theorem w_X9_readsOwner (X : Cx) {cI cE : ClassId} (h : Ok X cX9_readsOwner RX9 2 cI cE 3 0 0) (q0 : Nat) (q3 : Nat) (q4 : Nat) (q6 : Nat) (q7 : Nat) (q8 : Nat) (q9 : Nat) (q14 : Nat) (q15 : Nat) (q17 : Nat) (q18 : Nat) (q19 : Nat) (q23 : Nat) (q24 : Nat) (q25 : Nat) (ro : Int32) (co : Int32) (sl : Int32) (sn : Int32) (ts : Nat) (ra : Nat) (rr : Nat) (rw : Nat) (rn : Int32) (um : Int32) (bs : Int32) (bh : Int32) (km : Int32) (lx : Nat → Nat) (rl : Nat → Int32) (rg : Nat → Int32) (dth : Nat → Int32) (dow : Nat → Int32) (hlx : ∀ j, lx j ≤ 126) (hts : ts ≤ 200) (hra : ra < 1000) (hrr : rr ≤ 8) (hrw : rw ≤ 6) (hrl : rel (rr * rw) rl rg dth dow) (hR : ∀ (r : Int32) (u : (Int32) × (Nat) × (Nat) × (Nat → Int32) × (Nat → Int32) × (Int32)), (∃ (q : Nat) (dth2 : Nat → Int32) (dow2 : Nat → Int32), (nI 1 = r) ∧ (ownR lx ts ra (dth, dow, rw, rr) = some (q, dth2, dow2, u.2.2.1, u.2.1)) ∧ (rel (u.2.1 * u.2.2.1) u.2.2.2.1 u.2.2.2.2.1 dth2 dow2) ∧ (u.2.1 ≤ 8) ∧ (u.2.2.1 ≤ 6) ∧ (ra < q) ∧ (q ≤ ra + 10) ∧ ((nI q) = u.1) ∧ (True)) ∨ ((nI 0 = r) ∧ (ownR lx ts ra (dth, dow, rw, rr) = none) ∧ (True)) → RetI X cX9_readsOwner 2 0 0 r [(q0, .inr (9, [.int ro, .int co, .int sl, .ref q3, .ref q4, .int sn, .ref q6, .ref q7, .ref q8, .ref q9, .int (nI ts), .int u.1, .int (nI u.2.1), .int (nI u.2.2.1), .ref q14, .ref q15, .int u.2.2.2.2.2, .ref q17, .ref q18, .ref q19, .int um, .int bs, .int bh, .ref q23, .ref q24, .ref q25, .int km])), (q9, .inl (cI, 200, .inl (nA lx))), (q14, .inl (cI, 48, .inl u.2.2.2.1)), (q15, .inl (cI, 48, .inl u.2.2.2.2.1))]) : J X 2 0 0 0 [(0, .ref q0)] [] [(q0, .inr (9, [.int ro, .int co, .int sl, .ref q3, .ref q4, .int sn, .ref q6, .ref q7, .ref q8, .ref q9, .int (nI ts), .int (nI ra), .int (nI rr), .int (nI rw), .ref q14, .ref q15, .int rn, .ref q17, .ref q18, .ref q19, .int um, .int bs, .int bh, .ref q23, .ref q24, .ref q25, .int km])), (q9, .inl (cI, 200, .inl (nA lx))), (q14, .inl (cI, 48, .inl rl)), (q15, .inl (cI, 48, .inl rg))] := by
  obtain ⟨c1, hc1⟩ : ∃ z, z = bnm lx ts ra := ⟨_, rfl⟩
  have hb1 := bnm_in lx ts ra
  rw [← hc1] at hb1
  obtain ⟨e1, he1⟩ : ∃ z, z = bnm lx ts (c1 + 1) := ⟨_, rfl⟩
  have hb2 := bnm_in lx ts (c1 + 1)
  rw [← he1] at hb2
  obtain ⟨m1, hm1⟩ : ∃ z, z = nvr lx ts ra (c1 - ra) := ⟨_, rfl⟩
  obtain ⟨m2, hm2⟩ : ∃ z, z = nvr lx ts (c1 + 1) (e1 - (c1 + 1)) := ⟨_, rfl⟩
  have hrm : rr * rw ≤ 8 * 6 := Nat.mul_le_mul hrr hrw
  refine J_aload_n h (i := 0) dX9_readsOwner_0 rfl 0 rfl ?_
  refine J_iconst h (v := nI 0) dX9_readsOwner_1 (by decide) ?_
  refine J_aload_n h (i := 0) dX9_readsOwner_2 rfl 0 rfl ?_
  refine J_get h inX9 rfl 0 12 (by decide) rfl rfl nf_X9_94 dX9_readsOwner_3 ?_
  refine J_aload_n h (i := 0) dX9_readsOwner_6 rfl 0 rfl ?_
  refine J_get h inX9 rfl 0 13 (by decide) rfl rfl nf_X9_97 dX9_readsOwner_7 ?_
  refine N_imul h dX9_readsOwner_10 ?_
  refine J_iconst h (v := nI 1) dX9_readsOwner_11 (by decide) ?_
  refine J_isub h dX9_readsOwner_12 ?_
  refine J_bipush h (v := nI 44) dX9_readsOwner_13 (by decide) ?_
  refine K_vi h (wr := [(q14, .inl (cI, 48, .inl rl)), (q15, .inl (cI, 48, .inl rg))]) (c_X9_number (xl X) (xD X) cI cE q0 q3 q4 q6 q7 q8 q9 q14 q15 q17 q18 q19 q23 q24 q25 ro co sl sn ts ra (nI rr) (nI rw) rn um bs bh km lx 0 ((nI (rr * rw)) - (nI 1)) 44 (((rr * rw : Nat) : Int) - ((1 : Nat) : Int)) (by first | exact hlx |  assumption | omega | rfl) (by first | exact hts |  assumption | omega | rfl) (by first | exact hra |  assumption | omega | rfl) (by first | assumption | omega | rfl) (by first | assumption | omega | rfl) (by exact pk_sub_toInt (by omega) (by omega))) yv_X9_number nm_X9_100 (by decide) (by decide) rfl rfl 0 rfl rfl rfl rfl (Nat.le_of_ble_eq_true rfl) (Nat.le_refl _) (Nat.le_refl _) dX9_readsOwner_15 (fun r_15 u_15 p_15 => ?_)
  obtain ⟨ra2_15, rn2_15⟩ := u_15
  try dsimp only at p_15
  rcases p_15 with p_15 | p_15
  · obtain ⟨rfl, f0_15, rfl, rfl, -⟩ := p_15
    show J X 2 0 0 18 [(0, .ref q0)] [.int (nI 1)] [(q0, .inr (9, [.int ro, .int co, .int sl, .ref q3, .ref q4, .int sn, .ref q6, .ref q7, .ref q8, .ref q9, .int (nI ts), .int (nI (bnm lx ts ra + 1)), .int (nI rr), .int (nI rw), .ref q14, .ref q15, .int (nI (nvr lx ts ra (bnm lx ts ra - ra))), .ref q17, .ref q18, .ref q19, .int um, .int bs, .int bh, .ref q23, .ref q24, .ref q25, .int km])), (q9, .inl (cI, 200, .inl (nA lx))), (q14, .inl (cI, 48, .inl rl)), (q15, .inl (cI, 48, .inl rg))]
    try rw [← hc1, ← hm1] at f0_15
    refine J_if_ne h 23 dX9_readsOwner_18 (by decide) (fun _ => ?_) (fun z => absurd z (by decide))
    refine J_eqw (ws' := [(q0, .inr (9, [.int ro, .int co, .int sl, .ref q3, .ref q4, .int sn, .ref q6, .ref q7, .ref q8, .ref q9, .int (nI ts), .int (nI (c1 + 1)), .int (nI rr), .int (nI rw), .ref q14, .ref q15, .int (nI m1), .ref q17, .ref q18, .ref q19, .int um, .int bs, .int bh, .ref q23, .ref q24, .ref q25, .int km])), (q9, .inl (cI, 200, .inl (nA lx))), (q14, .inl (cI, 48, .inl rl)), (q15, .inl (cI, 48, .inl rg))]) (by rw [hc1, hm1, hc1]) ?_
    refine J_aload_n h (i := 0) dX9_readsOwner_23 rfl 0 rfl ?_
    refine J_get h inX9 rfl 0 16 (by decide) rfl rfl nf_X9_91 dX9_readsOwner_24 ?_
    refine J_istore_n h (i := 1) (lv' := [(1, .int (nI m1)), (0, .ref q0)]) dX9_readsOwner_27 rfl (by decide) rfl ?_
    refine J_aload_n h (i := 0) dX9_readsOwner_28 rfl 1 rfl ?_
    refine J_iconst h (v := nI 0) dX9_readsOwner_29 (by decide) ?_
    refine J_iconst h (v := nI 3) dX9_readsOwner_30 (by decide) ?_
    refine J_bipush h (v := nI 59) dX9_readsOwner_31 (by decide) ?_
    refine K_vi h (wr := [(q14, .inl (cI, 48, .inl rl)), (q15, .inl (cI, 48, .inl rg))]) (c_X9_number (xl X) (xD X) cI cE q0 q3 q4 q6 q7 q8 q9 q14 q15 q17 q18 q19 q23 q24 q25 ro co sl sn ts (c1 + 1) (nI rr) (nI rw) (nI m1) um bs bh km lx 0 (nI 3) 59 3 (by first | exact hlx |  assumption | omega | rfl) (by first | exact hts |  assumption | omega | rfl) (by first | exact hra |  assumption | omega | rfl) (by first | assumption | omega | rfl) (by first | assumption | omega | rfl) (by exact nI_toInt (by omega))) yv_X9_number nm_X9_100 (by decide) (by decide) rfl rfl 0 rfl rfl rfl rfl (Nat.le_of_ble_eq_true rfl) (Nat.le_refl _) (Nat.le_refl _) dX9_readsOwner_33 (fun r_33 u_33 p_33 => ?_)
    obtain ⟨ra2_33, rn2_33⟩ := u_33
    try dsimp only at p_33
    rcases p_33 with p_33 | p_33
    · obtain ⟨rfl, f0_33, rfl, rfl, -⟩ := p_33
      show J X 2 0 0 36 [(1, .int (nI m1)), (0, .ref q0)] [.int (nI 1)] [(q0, .inr (9, [.int ro, .int co, .int sl, .ref q3, .ref q4, .int sn, .ref q6, .ref q7, .ref q8, .ref q9, .int (nI ts), .int (nI (bnm lx ts (c1 + 1) + 1)), .int (nI rr), .int (nI rw), .ref q14, .ref q15, .int (nI (nvr lx ts (c1 + 1) (bnm lx ts (c1 + 1) - (c1 + 1)))), .ref q17, .ref q18, .ref q19, .int um, .int bs, .int bh, .ref q23, .ref q24, .ref q25, .int km])), (q9, .inl (cI, 200, .inl (nA lx))), (q14, .inl (cI, 48, .inl rl)), (q15, .inl (cI, 48, .inl rg))]
      try rw [← he1, ← hm2] at f0_33
      refine J_if_ne h 41 dX9_readsOwner_36 (by decide) (fun _ => ?_) (fun z => absurd z (by decide))
      refine J_eqw (ws' := [(q0, .inr (9, [.int ro, .int co, .int sl, .ref q3, .ref q4, .int sn, .ref q6, .ref q7, .ref q8, .ref q9, .int (nI ts), .int (nI (e1 + 1)), .int (nI rr), .int (nI rw), .ref q14, .ref q15, .int (nI m2), .ref q17, .ref q18, .ref q19, .int um, .int bs, .int bh, .ref q23, .ref q24, .ref q25, .int km])), (q9, .inl (cI, 200, .inl (nA lx))), (q14, .inl (cI, 48, .inl rl)), (q15, .inl (cI, 48, .inl rg))]) (by rw [he1, hm2, he1]) ?_
      refine J_aload_n h (i := 0) dX9_readsOwner_41 rfl 1 rfl ?_
      refine J_get h inX9 rfl 0 15 (by decide) rfl rfl nf_X9_31 dX9_readsOwner_42 ?_
      refine J_iload_n h (i := 1) dX9_readsOwner_45 rfl 0 rfl ?_
      refine J_aload_n h (i := 0) dX9_readsOwner_46 rfl 1 rfl ?_
      refine J_get h inX9 rfl 0 16 (by decide) rfl rfl nf_X9_91 dX9_readsOwner_47 ?_
      refine N_iast h (ws' := [(q0, .inr (9, [.int ro, .int co, .int sl, .ref q3, .ref q4, .int sn, .ref q6, .ref q7, .ref q8, .ref q9, .int (nI ts), .int (nI (e1 + 1)), .int (nI rr), .int (nI rw), .ref q14, .ref q15, .int (nI m2), .ref q17, .ref q18, .ref q19, .int um, .int bs, .int bh, .ref q23, .ref q24, .ref q25, .int km])), (q9, .inl (cI, 200, .inl (nA lx))), (q14, .inl (cI, 48, .inl rl)), (q15, .inl (cI, 48, .inl (upd rg m1 (nI m2))))]) 3 rfl (by decide) (by omega) dX9_readsOwner_50 rfl ?_
      refine J_iconst h (v := nI 1) dX9_readsOwner_51 (by decide) ?_
      exact hR (nI 1) (nI (e1 + 1), rr, rw, rl, upd rg m1 (nI m2), nI m2) (by refine Or.inl ⟨e1 + 1, dth, upd dow m1 (nI m2), rfl, by unfold ownR; dsimp only; rw [← hc1, ← he1, ← hm1, ← hm2]; exact if_pos (by omega), ?_, by assumption, by assumption, by omega, by omega, rfl, trivial⟩; have h2 := tiI (j := m2) (by omega); exact rel_updO hrl m1 (by unfold sON; rw [if_neg (by omega)]) (by omega) (by omega)) 52 _ dX9_readsOwner_52
    · obtain ⟨rfl, f0_33, -⟩ := p_33
      show J X 2 0 0 36 [(1, .int (nI m1)), (0, .ref q0)] [.int (nI 0)] [(q0, .inr (9, [.int ro, .int co, .int sl, .ref q3, .ref q4, .int sn, .ref q6, .ref q7, .ref q8, .ref q9, .int (nI ts), .int ra2_33, .int (nI rr), .int (nI rw), .ref q14, .ref q15, .int rn2_33, .ref q17, .ref q18, .ref q19, .int um, .int bs, .int bh, .ref q23, .ref q24, .ref q25, .int km])), (q9, .inl (cI, 200, .inl (nA lx))), (q14, .inl (cI, 48, .inl rl)), (q15, .inl (cI, 48, .inl rg))]
      try rw [← he1, ← hm2] at f0_33
      refine J_if_ne h 41 dX9_readsOwner_36 (by decide) (fun z => absurd z (by decide)) (fun _ => ?_)
      refine J_iconst h (v := nI 0) dX9_readsOwner_39 (by decide) ?_
      exact hR (nI 0) (ra2_33, rr, rw, rl, rg, rn2_33) (by exact Or.inr ⟨rfl, by unfold ownR; dsimp only; rw [← hc1, ← he1, ← hm1, ← hm2]; exact if_neg (fun z => f0_33 (by omega)), trivial⟩) 40 _ dX9_readsOwner_40
  · obtain ⟨rfl, f0_15, -⟩ := p_15
    show J X 2 0 0 18 [(0, .ref q0)] [.int (nI 0)] [(q0, .inr (9, [.int ro, .int co, .int sl, .ref q3, .ref q4, .int sn, .ref q6, .ref q7, .ref q8, .ref q9, .int (nI ts), .int ra2_15, .int (nI rr), .int (nI rw), .ref q14, .ref q15, .int rn2_15, .ref q17, .ref q18, .ref q19, .int um, .int bs, .int bh, .ref q23, .ref q24, .ref q25, .int km])), (q9, .inl (cI, 200, .inl (nA lx))), (q14, .inl (cI, 48, .inl rl)), (q15, .inl (cI, 48, .inl rg))]
    try rw [← hc1, ← hm1] at f0_15
    refine J_if_ne h 23 dX9_readsOwner_18 (by decide) (fun z => absurd z (by decide)) (fun _ => ?_)
    refine J_iconst h (v := nI 0) dX9_readsOwner_21 (by decide) ?_
    exact hR (nI 0) (ra2_15, rr, rw, rl, rg, rn2_15) (by exact Or.inr ⟨rfl, by unfold ownR; dsimp only; rw [← hc1, ← he1, ← hm1, ← hm2]; exact if_neg (fun z => f0_15 (by omega)), trivial⟩) 22 _ dX9_readsOwner_22
theorem c_X9_readsOwner (l : Launch) (D : va_G) (cI cE : ClassId) (q0 : Nat) (q3 : Nat) (q4 : Nat) (q6 : Nat) (q7 : Nat) (q8 : Nat) (q9 : Nat) (q14 : Nat) (q15 : Nat) (q17 : Nat) (q18 : Nat) (q19 : Nat) (q23 : Nat) (q24 : Nat) (q25 : Nat) (ro : Int32) (co : Int32) (sl : Int32) (sn : Int32) (ts : Nat) (ra : Nat) (rr : Nat) (rw : Nat) (rn : Int32) (um : Int32) (bs : Int32) (bh : Int32) (km : Int32) (lx : Nat → Nat) (rl : Nat → Int32) (rg : Nat → Int32) (dth : Nat → Int32) (dow : Nat → Int32) (hlx : ∀ j, lx j ≤ 126) (hts : ts ≤ 200) (hra : ra < 1000) (hrr : rr ≤ 8) (hrw : rw ≤ 6) (hrl : rel (rr * rw) rl rg dth dow) : Ci l D cI cE yX9_readsOwner cX9_readsOwner 2 (some .boolean) 3 0 0 [.ref q0] [(q0, .inr (9, [.int ro, .int co, .int sl, .ref q3, .ref q4, .int sn, .ref q6, .ref q7, .ref q8, .ref q9, .int (nI ts), .int (nI ra), .int (nI rr), .int (nI rw), .ref q14, .ref q15, .int rn, .ref q17, .ref q18, .ref q19, .int um, .int bs, .int bh, .ref q23, .ref q24, .ref q25, .int km])), (q9, .inl (cI, 200, .inl (nA lx))), (q14, .inl (cI, 48, .inl rl)), (q15, .inl (cI, 48, .inl rg))] (fun (r : Int32) (u : (Int32) × (Nat) × (Nat) × (Nat → Int32) × (Nat → Int32) × (Int32)) => (∃ (q : Nat) (dth2 : Nat → Int32) (dow2 : Nat → Int32), (nI 1 = r) ∧ (ownR lx ts ra (dth, dow, rw, rr) = some (q, dth2, dow2, u.2.2.1, u.2.1)) ∧ (rel (u.2.1 * u.2.2.1) u.2.2.2.1 u.2.2.2.2.1 dth2 dow2) ∧ (u.2.1 ≤ 8) ∧ (u.2.2.1 ≤ 6) ∧ (ra < q) ∧ (q ≤ ra + 10) ∧ ((nI q) = u.1) ∧ (True)) ∨ ((nI 0 = r) ∧ (ownR lx ts ra (dth, dow, rw, rr) = none) ∧ (True))) (fun (u : (Int32) × (Nat) × (Nat) × (Nat → Int32) × (Nat → Int32) × (Int32)) => ([(q0, .inr (9, [.int ro, .int co, .int sl, .ref q3, .ref q4, .int sn, .ref q6, .ref q7, .ref q8, .ref q9, .int (nI ts), .int u.1, .int (nI u.2.1), .int (nI u.2.2.1), .ref q14, .ref q15, .int u.2.2.2.2.2, .ref q17, .ref q18, .ref q19, .int um, .int bs, .int bh, .ref q23, .ref q24, .ref q25, .int km])), (q9, .inl (cI, 200, .inl (nA lx))), (q14, .inl (cI, 48, .inl u.2.2.2.1)), (q15, .inl (cI, 48, .inl u.2.2.2.2.1))] : va_W)) :=
  Ci.of (by decide) (Nat.le_of_ble_eq_true rfl) (fun r u hp => by rcases hp with ⟨_, _, _, hp, _⟩ | ⟨hp, _⟩ <;> (rw [← hp]; rfl)) (fun X h hR => w_X9_readsOwner X h q0 q3 q4 q6 q7 q8 q9 q14 q15 q17 q18 q19 q23 q24 q25 ro co sl sn ts ra rr rw rn um bs bh km lx rl rg dth dow hlx hts hra hrr hrw hrl hR)
theorem yv_X9_readsOwner : YV yX9_readsOwner cX9_readsOwner 2 (some .boolean) 0 := ⟨no_X9_readsOwner, nv_X9_readsOwner, ni_X9, nk_X9_readsOwner, by decide +kernel⟩
theorem itm_r {lx : Nat → Nat} {tn p : Nat} {s : RS} {r : Option (Nat × RS)} (h : ltr lx tn p = 114) (e : rowR lx tn (p + 1) s = r) : itmR lx tn p s = r := by unfold itmR; rw [if_pos h]; exact e
theorem itm_o {lx : Nat → Nat} {tn p : Nat} {s : RS} {r : Option (Nat × RS)} (h : ltr lx tn p = 111) (e : ownR lx tn (p + 1) s = r) : itmR lx tn p s = r := by unfold itmR; rw [if_neg (by omega), if_pos h]; exact e
theorem itm_n {lx : Nat → Nat} {tn p : Nat} {s : RS} (h : ltr lx tn p ≠ 114) (h2 : ltr lx tn p ≠ 111) : itmR lx tn p s = none := by unfold itmR; rw [if_neg h, if_neg h2]
set_option maxRecDepth 100000 in
set_option maxHeartbeats 4000000 in
theorem w_X9_readsItem (X : Cx) {cI cE : ClassId} (h : Ok X cX9_readsItem RX9 2 cI cE 4 0 0) (q0 : Nat) (q3 : Nat) (q4 : Nat) (q6 : Nat) (q7 : Nat) (q8 : Nat) (q9 : Nat) (q14 : Nat) (q15 : Nat) (q17 : Nat) (q18 : Nat) (q19 : Nat) (q23 : Nat) (q24 : Nat) (q25 : Nat) (ro : Int32) (co : Int32) (sl : Int32) (sn : Int32) (ts : Nat) (ra : Nat) (rr : Nat) (rw : Nat) (rn : Int32) (um : Int32) (bs : Int32) (bh : Int32) (km : Int32) (lx : Nat → Nat) (rl : Nat → Int32) (rg : Nat → Int32) (dth : Nat → Int32) (dow : Nat → Int32) (hlx : ∀ j, lx j ≤ 126) (hts : ts ≤ 200) (hra : ra < 900) (hrr : rr ≤ 8) (hrw : rw ≤ 6) (hrl : rel (rr * rw) rl rg dth dow) (hR : ∀ (r : Int32) (u : (Int32) × (Nat) × (Nat) × (Nat → Int32) × (Nat → Int32) × (Int32)), (∃ (q : Nat) (dth2 : Nat → Int32) (dow2 : Nat → Int32), (nI 1 = r) ∧ (itmR lx ts ra (dth, dow, rw, rr) = some (q, dth2, dow2, u.2.2.1, u.2.1)) ∧ (rel (u.2.1 * u.2.2.1) u.2.2.2.1 u.2.2.2.2.1 dth2 dow2) ∧ (u.2.1 ≤ 8) ∧ (u.2.2.1 ≤ 6) ∧ (ra < q) ∧ (q ≤ ra + 11) ∧ ((nI q) = u.1) ∧ (True)) ∨ ((nI 0 = r) ∧ (itmR lx ts ra (dth, dow, rw, rr) = none) ∧ (True)) → RetI X cX9_readsItem 2 0 0 r [(q0, .inr (9, [.int ro, .int co, .int sl, .ref q3, .ref q4, .int sn, .ref q6, .ref q7, .ref q8, .ref q9, .int (nI ts), .int u.1, .int (nI u.2.1), .int (nI u.2.2.1), .ref q14, .ref q15, .int u.2.2.2.2.2, .ref q17, .ref q18, .ref q19, .int um, .int bs, .int bh, .ref q23, .ref q24, .ref q25, .int km])), (q9, .inl (cI, 200, .inl (nA lx))), (q14, .inl (cI, 48, .inl u.2.2.2.1)), (q15, .inl (cI, 48, .inl u.2.2.2.2.1))]) : J X 2 0 0 0 [(0, .ref q0)] [] [(q0, .inr (9, [.int ro, .int co, .int sl, .ref q3, .ref q4, .int sn, .ref q6, .ref q7, .ref q8, .ref q9, .int (nI ts), .int (nI ra), .int (nI rr), .int (nI rw), .ref q14, .ref q15, .int rn, .ref q17, .ref q18, .ref q19, .int um, .int bs, .int bh, .ref q23, .ref q24, .ref q25, .int km])), (q9, .inl (cI, 200, .inl (nA lx))), (q14, .inl (cI, 48, .inl rl)), (q15, .inl (cI, 48, .inl rg))] := by
  have hl0 := ltr_le hlx ts ra
  refine J_aload_n h (i := 0) dX9_readsItem_0 rfl 0 rfl ?_
  refine K_vi h (wr := [(q14, .inl (cI, 48, .inl rl)), (q15, .inl (cI, 48, .inl rg))]) (c_X9_here (xl X) (xD X) cI cE q0 q3 q4 q6 q7 q8 q9 q14 q15 q17 q18 q19 q23 q24 q25 ro co sl sn ts ra (nI rr) (nI rw) rn um bs bh km lx (by first | exact hlx |  assumption | omega | rfl) (by first | exact hts |  assumption | omega | rfl) (by first | exact hra |  assumption | omega | rfl)) yv_X9_here nm_X9_84 (by decide) (by decide) rfl rfl 0 rfl rfl rfl rfl (Nat.le_of_ble_eq_true rfl) (Nat.le_refl _) (Nat.le_refl _) dX9_readsItem_1 (fun r_1 u_1 p_1 => ?_)
  obtain ⟨rfl, -⟩ := p_1
  show J X 2 0 0 4 [(0, .ref q0)] [.int (nI (ltr lx ts ra))] [(q0, .inr (9, [.int ro, .int co, .int sl, .ref q3, .ref q4, .int sn, .ref q6, .ref q7, .ref q8, .ref q9, .int (nI ts), .int (nI ra), .int (nI rr), .int (nI rw), .ref q14, .ref q15, .int rn, .ref q17, .ref q18, .ref q19, .int um, .int bs, .int bh, .ref q23, .ref q24, .ref q25, .int km])), (q9, .inl (cI, 200, .inl (nA lx))), (q14, .inl (cI, 48, .inl rl)), (q15, .inl (cI, 48, .inl rg))]
  refine J_istore_n h (i := 1) (lv' := [(1, .int (nI (ltr lx ts ra))), (0, .ref q0)]) dX9_readsItem_4 rfl (by decide) rfl ?_
  refine J_aload_n h (i := 0) dX9_readsItem_5 rfl 1 rfl ?_
  refine J_dup h dX9_readsItem_6 rfl ?_
  refine J_get h inX9 rfl 0 11 (by decide) rfl rfl nf_X9_81 dX9_readsItem_7 ?_
  refine J_iconst h (v := nI 1) dX9_readsItem_10 (by decide) ?_
  refine N_iadd h dX9_readsItem_11 ?_
  refine J_put h (ws' := [(q0, .inr (9, [.int ro, .int co, .int sl, .ref q3, .ref q4, .int sn, .ref q6, .ref q7, .ref q8, .ref q9, .int (nI ts), .int (nI (ra + 1)), .int (nI rr), .int (nI rw), .ref q14, .ref q15, .int rn, .ref q17, .ref q18, .ref q19, .int um, .int bs, .int bh, .ref q23, .ref q24, .ref q25, .int km])), (q9, .inl (cI, 200, .inl (nA lx))), (q14, .inl (cI, 48, .inl rl)), (q15, .inl (cI, 48, .inl rg))]) inX9 tyX9 tyX9_ok nmX9 rfl 0 11 (by decide) rfl nf_X9_81 rfl rfl rfl rfl (Nat.le_of_ble_eq_true rfl) dX9_readsItem_12 rfl ?_
  refine J_iload_n h (i := 1) dX9_readsItem_15 rfl 0 rfl ?_
  refine J_bipush h (v := nI 114) dX9_readsItem_16 (by decide) ?_
  refine N_icmp_ne h 28 dX9_readsItem_18 (by decide) (by omega) (by omega) (fun c_18 => ?_) (fun c_18 => ?_)
  · skip
    refine J_iload_n h (i := 1) dX9_readsItem_28 rfl 0 rfl ?_
    refine J_bipush h (v := nI 111) dX9_readsItem_29 (by decide) ?_
    refine N_icmp_ne h 45 dX9_readsItem_31 (by decide) (by omega) (by omega) (fun c_31 => ?_) (fun c_31 => ?_)
    · skip
      refine J_iconst h (v := nI 0) dX9_readsItem_45 (by decide) ?_
      exact hR (nI 0) (nI (ra + 1), rr, rw, rl, rg, rn) (by first | (refine Or.inr ⟨rfl, ?_, trivial⟩; first | assumption | exact itm_n (by omega) (by omega)) | (refine Or.inl ⟨_, _, _, rfl, hit, ?_, ?_, ?_, ?_, ?_, rfl, trivial⟩; assumption; assumption; assumption; omega; omega)) 46 _ dX9_readsItem_46
    · skip
      refine J_aload_n h (i := 0) dX9_readsItem_34 rfl 1 rfl ?_
      refine K_vi h (wr := []) (c_X9_readsOwner (xl X) (xD X) cI cE q0 q3 q4 q6 q7 q8 q9 q14 q15 q17 q18 q19 q23 q24 q25 ro co sl sn ts (ra + 1) rr rw rn um bs bh km lx rl rg dth dow (by first | exact hlx |  assumption | omega | rfl) (by first | exact hts |  assumption | omega | rfl) (by first | exact hra |  assumption | omega | rfl) (by first | exact hrr |  assumption | omega | rfl) (by first | exact hrw |  assumption | omega | rfl) (by first | exact hrl |  assumption | omega | rfl)) yv_X9_readsOwner nm_X9_106 (by decide) (by decide) rfl rfl 0 rfl rfl rfl rfl (Nat.le_of_ble_eq_true rfl) (Nat.le_refl _) (Nat.le_refl _) dX9_readsItem_35 (fun r_35 u_35 p_35 => ?_)
      obtain ⟨ra2_35, rr2_35, rw2_35, rl2_35, rg2_35, rn2_35⟩ := u_35
      try dsimp only at p_35
      rcases p_35 with p_35 | p_35
      · obtain ⟨q_35, dth2_35, dow2_35, rfl, f0_35, f1_35, f2_35, f3_35, f4_35, f5_35, rfl, -⟩ := p_35
        show J X 2 0 0 38 [(1, .int (nI (ltr lx ts ra))), (0, .ref q0)] [.int (nI 1)] [(q0, .inr (9, [.int ro, .int co, .int sl, .ref q3, .ref q4, .int sn, .ref q6, .ref q7, .ref q8, .ref q9, .int (nI ts), .int (nI q_35), .int (nI rr2_35), .int (nI rw2_35), .ref q14, .ref q15, .int rn2_35, .ref q17, .ref q18, .ref q19, .int um, .int bs, .int bh, .ref q23, .ref q24, .ref q25, .int km])), (q9, .inl (cI, 200, .inl (nA lx))), (q14, .inl (cI, 48, .inl rl2_35)), (q15, .inl (cI, 48, .inl rg2_35))]
        have hit := itm_o (s := (dth, dow, rw, rr)) (by omega) f0_35
        refine J_if_eq h 45 dX9_readsItem_38 (by decide) (fun z => absurd z (by decide)) (fun _ => ?_)
        refine J_iconst h (v := nI 1) dX9_readsItem_41 (by decide) ?_
        refine J_goto h 46 dX9_readsItem_42 (by decide) ?_
        exact hR (nI 1) (nI q_35, rr2_35, rw2_35, rl2_35, rg2_35, rn2_35) (by first | (refine Or.inr ⟨rfl, ?_, trivial⟩; first | assumption | exact itm_n (by omega) (by omega)) | (refine Or.inl ⟨_, _, _, rfl, hit, ?_, ?_, ?_, ?_, ?_, rfl, trivial⟩; assumption; assumption; assumption; omega; omega)) 46 _ dX9_readsItem_46
      · obtain ⟨rfl, f0_35, -⟩ := p_35
        show J X 2 0 0 38 [(1, .int (nI (ltr lx ts ra))), (0, .ref q0)] [.int (nI 0)] [(q0, .inr (9, [.int ro, .int co, .int sl, .ref q3, .ref q4, .int sn, .ref q6, .ref q7, .ref q8, .ref q9, .int (nI ts), .int ra2_35, .int (nI rr2_35), .int (nI rw2_35), .ref q14, .ref q15, .int rn2_35, .ref q17, .ref q18, .ref q19, .int um, .int bs, .int bh, .ref q23, .ref q24, .ref q25, .int km])), (q9, .inl (cI, 200, .inl (nA lx))), (q14, .inl (cI, 48, .inl rl2_35)), (q15, .inl (cI, 48, .inl rg2_35))]
        have hit := itm_o (s := (dth, dow, rw, rr)) (by omega) f0_35
        refine J_if_eq h 45 dX9_readsItem_38 (by decide) (fun _ => ?_) (fun z => absurd z (by decide))
        refine J_iconst h (v := nI 0) dX9_readsItem_45 (by decide) ?_
        exact hR (nI 0) (ra2_35, rr2_35, rw2_35, rl2_35, rg2_35, rn2_35) (by first | (refine Or.inr ⟨rfl, ?_, trivial⟩; first | assumption | exact itm_n (by omega) (by omega)) | (refine Or.inl ⟨_, _, _, rfl, hit, ?_, ?_, ?_, ?_, ?_, rfl, trivial⟩; assumption; assumption; assumption; omega; omega)) 46 _ dX9_readsItem_46
  · skip
    refine J_aload_n h (i := 0) dX9_readsItem_21 rfl 1 rfl ?_
    refine K_vi h (wr := []) (c_X9_readsRow (xl X) (xD X) cI cE q0 q3 q4 q6 q7 q8 q9 q14 q15 q17 q18 q19 q23 q24 q25 ro co sl sn ts (ra + 1) rr rw rn um bs bh km lx rl rg dth dow (by first | exact hlx |  assumption | omega | rfl) (by first | exact hts |  assumption | omega | rfl) (by first | exact hra |  assumption | omega | rfl) (by first | exact hrr |  assumption | omega | rfl) (by first | exact hrw |  assumption | omega | rfl) (by first | exact hrl |  assumption | omega | rfl)) yv_X9_readsRow nm_X9_103 (by decide) (by decide) rfl rfl 0 rfl rfl rfl rfl (Nat.le_of_ble_eq_true rfl) (Nat.le_refl _) (Nat.le_refl _) dX9_readsItem_22 (fun r_22 u_22 p_22 => ?_)
    obtain ⟨ra2_22, rr2_22, rw2_22, rl2_22, rg2_22⟩ := u_22
    try dsimp only at p_22
    rcases p_22 with p_22 | p_22
    · obtain ⟨q_22, dth2_22, dow2_22, rfl, f0_22, f1_22, f2_22, f3_22, f4_22, f5_22, rfl, -⟩ := p_22
      show J X 2 0 0 25 [(1, .int (nI (ltr lx ts ra))), (0, .ref q0)] [.int (nI 1)] [(q0, .inr (9, [.int ro, .int co, .int sl, .ref q3, .ref q4, .int sn, .ref q6, .ref q7, .ref q8, .ref q9, .int (nI ts), .int (nI q_22), .int (nI rr2_22), .int (nI rw2_22), .ref q14, .ref q15, .int rn, .ref q17, .ref q18, .ref q19, .int um, .int bs, .int bh, .ref q23, .ref q24, .ref q25, .int km])), (q9, .inl (cI, 200, .inl (nA lx))), (q14, .inl (cI, 48, .inl rl2_22)), (q15, .inl (cI, 48, .inl rg2_22))]
      have hit := itm_r (s := (dth, dow, rw, rr)) (by omega) f0_22
      refine J_goto h 46 dX9_readsItem_25 (by decide) ?_
      exact hR (nI 1) (nI q_22, rr2_22, rw2_22, rl2_22, rg2_22, rn) (by first | (refine Or.inr ⟨rfl, ?_, trivial⟩; first | assumption | exact itm_n (by omega) (by omega)) | (refine Or.inl ⟨_, _, _, rfl, hit, ?_, ?_, ?_, ?_, ?_, rfl, trivial⟩; assumption; assumption; assumption; omega; omega)) 46 _ dX9_readsItem_46
    · obtain ⟨rfl, f0_22, -⟩ := p_22
      show J X 2 0 0 25 [(1, .int (nI (ltr lx ts ra))), (0, .ref q0)] [.int (nI 0)] [(q0, .inr (9, [.int ro, .int co, .int sl, .ref q3, .ref q4, .int sn, .ref q6, .ref q7, .ref q8, .ref q9, .int (nI ts), .int ra2_22, .int (nI rr2_22), .int (nI rw2_22), .ref q14, .ref q15, .int rn, .ref q17, .ref q18, .ref q19, .int um, .int bs, .int bh, .ref q23, .ref q24, .ref q25, .int km])), (q9, .inl (cI, 200, .inl (nA lx))), (q14, .inl (cI, 48, .inl rl2_22)), (q15, .inl (cI, 48, .inl rg2_22))]
      have hit := itm_r (s := (dth, dow, rw, rr)) (by omega) f0_22
      refine J_goto h 46 dX9_readsItem_25 (by decide) ?_
      exact hR (nI 0) (ra2_22, rr2_22, rw2_22, rl2_22, rg2_22, rn) (by first | (refine Or.inr ⟨rfl, ?_, trivial⟩; first | assumption | exact itm_n (by omega) (by omega)) | (refine Or.inl ⟨_, _, _, rfl, hit, ?_, ?_, ?_, ?_, ?_, rfl, trivial⟩; assumption; assumption; assumption; omega; omega)) 46 _ dX9_readsItem_46
theorem c_X9_readsItem (l : Launch) (D : va_G) (cI cE : ClassId) (q0 : Nat) (q3 : Nat) (q4 : Nat) (q6 : Nat) (q7 : Nat) (q8 : Nat) (q9 : Nat) (q14 : Nat) (q15 : Nat) (q17 : Nat) (q18 : Nat) (q19 : Nat) (q23 : Nat) (q24 : Nat) (q25 : Nat) (ro : Int32) (co : Int32) (sl : Int32) (sn : Int32) (ts : Nat) (ra : Nat) (rr : Nat) (rw : Nat) (rn : Int32) (um : Int32) (bs : Int32) (bh : Int32) (km : Int32) (lx : Nat → Nat) (rl : Nat → Int32) (rg : Nat → Int32) (dth : Nat → Int32) (dow : Nat → Int32) (hlx : ∀ j, lx j ≤ 126) (hts : ts ≤ 200) (hra : ra < 900) (hrr : rr ≤ 8) (hrw : rw ≤ 6) (hrl : rel (rr * rw) rl rg dth dow) : Ci l D cI cE yX9_readsItem cX9_readsItem 2 (some .boolean) 4 0 0 [.ref q0] [(q0, .inr (9, [.int ro, .int co, .int sl, .ref q3, .ref q4, .int sn, .ref q6, .ref q7, .ref q8, .ref q9, .int (nI ts), .int (nI ra), .int (nI rr), .int (nI rw), .ref q14, .ref q15, .int rn, .ref q17, .ref q18, .ref q19, .int um, .int bs, .int bh, .ref q23, .ref q24, .ref q25, .int km])), (q9, .inl (cI, 200, .inl (nA lx))), (q14, .inl (cI, 48, .inl rl)), (q15, .inl (cI, 48, .inl rg))] (fun (r : Int32) (u : (Int32) × (Nat) × (Nat) × (Nat → Int32) × (Nat → Int32) × (Int32)) => (∃ (q : Nat) (dth2 : Nat → Int32) (dow2 : Nat → Int32), (nI 1 = r) ∧ (itmR lx ts ra (dth, dow, rw, rr) = some (q, dth2, dow2, u.2.2.1, u.2.1)) ∧ (rel (u.2.1 * u.2.2.1) u.2.2.2.1 u.2.2.2.2.1 dth2 dow2) ∧ (u.2.1 ≤ 8) ∧ (u.2.2.1 ≤ 6) ∧ (ra < q) ∧ (q ≤ ra + 11) ∧ ((nI q) = u.1) ∧ (True)) ∨ ((nI 0 = r) ∧ (itmR lx ts ra (dth, dow, rw, rr) = none) ∧ (True))) (fun (u : (Int32) × (Nat) × (Nat) × (Nat → Int32) × (Nat → Int32) × (Int32)) => ([(q0, .inr (9, [.int ro, .int co, .int sl, .ref q3, .ref q4, .int sn, .ref q6, .ref q7, .ref q8, .ref q9, .int (nI ts), .int u.1, .int (nI u.2.1), .int (nI u.2.2.1), .ref q14, .ref q15, .int u.2.2.2.2.2, .ref q17, .ref q18, .ref q19, .int um, .int bs, .int bh, .ref q23, .ref q24, .ref q25, .int km])), (q9, .inl (cI, 200, .inl (nA lx))), (q14, .inl (cI, 48, .inl u.2.2.2.1)), (q15, .inl (cI, 48, .inl u.2.2.2.2.1))] : va_W)) :=
  Ci.of (by decide) (Nat.le_of_ble_eq_true rfl) (fun r u hp => by rcases hp with ⟨_, _, _, hp, _⟩ | ⟨hp, _⟩ <;> (rw [← hp]; rfl)) (fun X h hR => w_X9_readsItem X h q0 q3 q4 q6 q7 q8 q9 q14 q15 q17 q18 q19 q23 q24 q25 ro co sl sn ts ra rr rw rn um bs bh km lx rl rg dth dow hlx hts hra hrr hrw hrl hR)
theorem yv_X9_readsItem : YV yX9_readsItem cX9_readsItem 2 (some .boolean) 0 := ⟨no_X9_readsItem, nv_X9_readsItem, ni_X9, nk_X9_readsItem, by decide +kernel⟩
set_option maxRecDepth 100000 in
set_option maxHeartbeats 4000000 in
theorem w_X9_fault_15 (X : Cx) {cI cE : ClassId} (h : Ok X cX9_fault RX9 2 cI cE 5 0 0) (q0 : Nat) (q3 : Nat) (q4 : Nat) (q6 : Nat) (q7 : Nat) (q8 : Nat) (q9 : Nat) (q14 : Nat) (q15 : Nat) (q17 : Nat) (q18 : Nat) (q19 : Nat) (q23 : Nat) (q24 : Nat) (q25 : Nat) (ro : Int32) (co : Int32) (sl : Int32) (sn : Int32) (ts : Nat) (ra : Int32) (rr : Int32) (rw : Int32) (rn : Int32) (um : Int32) (bs : Int32) (bh : Int32) (km : Int32) (lx : Nat → Nat) (rl : Nat → Int32) (rg : Nat → Int32) (dth : Nat → Int32) (dow : Nat → Int32) (hlx : ∀ j, lx j ≤ 126) (hts : ts ≤ 200) (hR : ∀ (r : Int32) (u : (Int32) × (Nat) × (Nat) × (Nat → Int32) × (Nat → Int32) × (Int32)), (∃ (q : Nat), (nI q = r) ∧ ((rdA lx ts 201 0 (dth, dow, 0, 0)).1 = some q) ∧ (q < ts) ∧ (True)) ∨ (∃ (d2 : Nat → Int32) (o2 : Nat → Int32), ((-4) = r) ∧ (rdA lx ts 201 0 (dth, dow, 0, 0) = (none, d2, o2, u.2.2.1, u.2.1)) ∧ (rel (u.2.1 * u.2.2.1) u.2.2.2.1 u.2.2.2.2.1 d2 o2) ∧ (u.2.1 ≤ 8) ∧ (u.2.2.1 ≤ 6) ∧ (True)) → RetI X cX9_fault 2 0 0 r [(q0, .inr (9, [.int ro, .int co, .int sl, .ref q3, .ref q4, .int sn, .ref q6, .ref q7, .ref q8, .ref q9, .int (nI ts), .int u.1, .int (nI u.2.1), .int (nI u.2.2.1), .ref q14, .ref q15, .int u.2.2.2.2.2, .ref q17, .ref q18, .ref q19, .int um, .int bs, .int bh, .ref q23, .ref q24, .ref q25, .int km])), (q9, .inl (cI, 200, .inl (nA lx))), (q14, .inl (cI, 48, .inl u.2.2.2.1)), (q15, .inl (cI, 48, .inl u.2.2.2.2.1))]) : ∀ (n_15 : Nat) (i : Nat) (p : Nat) (t1 : Nat → Int32) (g1 : Nat → Int32) (c1 : Nat) (r1 : Nat) (d1 : Nat → Int32) (o1 : Nat → Int32) (n1 : Int32), (i ≤ p) → (p ≤ ts + 11) → (rdA lx ts 201 0 (dth, dow, 0, 0) = rdA lx ts (201 - i) p (d1, o1, c1, r1)) → (rel (r1 * c1) t1 g1 d1 o1) → (c1 ≤ 6) → (r1 ≤ 8) → 201 - i < n_15 → J X 2 0 0 15 [(0, .ref q0)] [] [(q0, .inr (9, [.int ro, .int co, .int sl, .ref q3, .ref q4, .int sn, .ref q6, .ref q7, .ref q8, .ref q9, .int (nI ts), .int (nI p), .int (nI r1), .int (nI c1), .ref q14, .ref q15, .int n1, .ref q17, .ref q18, .ref q19, .int um, .int bs, .int bh, .ref q23, .ref q24, .ref q25, .int km])), (q9, .inl (cI, 200, .inl (nA lx))), (q14, .inl (cI, 48, .inl t1)), (q15, .inl (cI, 48, .inl g1))] := by
  intro n_15
  induction n_15 with
  | zero => intro i p t1 g1 c1 r1 d1 o1 n1 hi hp hrd hrel1 hco1 hro1 hn_; exact absurd hn_ (Nat.not_lt_zero _)
  | succ n_15 ih_15 =>
    intro i p t1 g1 c1 r1 d1 o1 n1 hi hp hrd hrel1 hco1 hro1 hn_15
    refine J_aload_n h (i := 0) dX9_fault_15 rfl 0 rfl ?_
    refine J_get h inX9 rfl 0 11 (by decide) rfl rfl nf_X9_81 dX9_fault_16 ?_
    refine J_aload_n h (i := 0) dX9_fault_19 rfl 0 rfl ?_
    refine J_get h inX9 rfl 0 10 (by decide) rfl rfl nf_X9_78 dX9_fault_20 ?_
    refine N_icmp_ge h 43 dX9_fault_23 (by decide) (by omega) (by omega) (fun c_23 => ?_) (fun c_23 => ?_)
    · skip
      refine J_bipush h (v := (-4)) dX9_fault_43 (by decide) ?_
      exact hR ((-4)) (nI p, r1, c1, t1, g1, n1) (by exact Or.inr ⟨_, _, rfl, by rw [hrd]; exact rdA_end (by omega) _ _, by assumption, by assumption, by assumption, trivial⟩) 45 _ dX9_fault_45
    · skip
      refine J_aload_n h (i := 0) dX9_fault_26 rfl 0 rfl ?_
      refine J_get h inX9 rfl 0 11 (by decide) rfl rfl nf_X9_81 dX9_fault_27 ?_
      refine J_istore_n h (i := 1) (lv' := [(1, .int (nI p)), (0, .ref q0)]) dX9_fault_30 rfl (by decide) rfl ?_
      refine J_aload_n h (i := 0) dX9_fault_31 rfl 1 rfl ?_
      refine K_vi h (wr := []) (c_X9_readsItem (xl X) (xD X) cI cE q0 q3 q4 q6 q7 q8 q9 q14 q15 q17 q18 q19 q23 q24 q25 ro co sl sn ts p r1 c1 n1 um bs bh km lx t1 g1 d1 o1 (by first | exact hlx |  assumption | omega | rfl) (by first | exact hts |  assumption | omega | rfl) (by first | assumption | omega | rfl) (by first | assumption | omega | rfl) (by first | assumption | omega | rfl) (by exact hrel1)) yv_X9_readsItem nm_X9_109 (by decide) (by decide) rfl rfl 0 rfl rfl rfl rfl (Nat.le_of_ble_eq_true rfl) (Nat.le_refl _) (Nat.le_refl _) dX9_fault_32 (fun r_32 u_32 p_32 => ?_)
      obtain ⟨ra2_32, rr2_32, rw2_32, rl2_32, rg2_32, rn2_32⟩ := u_32
      try dsimp only at p_32
      rcases p_32 with p_32 | p_32
      · obtain ⟨q_32, dth2_32, dow2_32, rfl, f0_32, f1_32, f2_32, f3_32, f4_32, f5_32, rfl, -⟩ := p_32
        show J X 2 0 0 35 [(1, .int (nI p)), (0, .ref q0)] [.int (nI 1)] [(q0, .inr (9, [.int ro, .int co, .int sl, .ref q3, .ref q4, .int sn, .ref q6, .ref q7, .ref q8, .ref q9, .int (nI ts), .int (nI q_32), .int (nI rr2_32), .int (nI rw2_32), .ref q14, .ref q15, .int rn2_32, .ref q17, .ref q18, .ref q19, .int um, .int bs, .int bh, .ref q23, .ref q24, .ref q25, .int km])), (q9, .inl (cI, 200, .inl (nA lx))), (q14, .inl (cI, 48, .inl rl2_32)), (q15, .inl (cI, 48, .inl rg2_32))]
        refine J_if_ne h 40 dX9_fault_35 (by decide) (fun _ => ?_) (fun z => absurd z (by decide))
        refine J_goto h 15 dX9_fault_40 (by decide) ?_
        refine J.loc [1] (lv' := [(0, .ref q0)]) rfl ?_
        exact ih_15 (i + 1) q_32 rl2_32 rg2_32 rw2_32 rr2_32 dth2_32 dow2_32 rn2_32 (by first | exact hi |  assumption | omega | rfl) (by first | exact hp |  assumption | omega | rfl) (by rw [hrd, show 201 - i = (201 - (i + 1)) + 1 by omega]; exact rdA_go (by omega) f0_32) (by exact f1_32) (by first | exact hco1 |  assumption | omega | rfl) (by first | exact hro1 |  assumption | omega | rfl) (by omega)
      · obtain ⟨rfl, f0_32, -⟩ := p_32
        show J X 2 0 0 35 [(1, .int (nI p)), (0, .ref q0)] [.int (nI 0)] [(q0, .inr (9, [.int ro, .int co, .int sl, .ref q3, .ref q4, .int sn, .ref q6, .ref q7, .ref q8, .ref q9, .int (nI ts), .int ra2_32, .int (nI rr2_32), .int (nI rw2_32), .ref q14, .ref q15, .int rn2_32, .ref q17, .ref q18, .ref q19, .int um, .int bs, .int bh, .ref q23, .ref q24, .ref q25, .int km])), (q9, .inl (cI, 200, .inl (nA lx))), (q14, .inl (cI, 48, .inl rl2_32)), (q15, .inl (cI, 48, .inl rg2_32))]
        refine J_if_ne h 40 dX9_fault_35 (by decide) (fun z => absurd z (by decide)) (fun _ => ?_)
        refine J_iload_n h (i := 1) dX9_fault_38 rfl 0 rfl ?_
        exact hR (nI p) (ra2_32, rr2_32, rw2_32, rl2_32, rg2_32, rn2_32) (by exact Or.inl ⟨_, rfl, by rw [hrd, show 201 - i = (201 - (i + 1)) + 1 by omega, rdA_no (by omega) f0_32], by omega, trivial⟩) 39 _ dX9_fault_39
set_option maxRecDepth 100000 in
set_option maxHeartbeats 4000000 in
theorem w_X9_fault (X : Cx) {cI cE : ClassId} (h : Ok X cX9_fault RX9 2 cI cE 5 0 0) (q0 : Nat) (q3 : Nat) (q4 : Nat) (q6 : Nat) (q7 : Nat) (q8 : Nat) (q9 : Nat) (q14 : Nat) (q15 : Nat) (q17 : Nat) (q18 : Nat) (q19 : Nat) (q23 : Nat) (q24 : Nat) (q25 : Nat) (ro : Int32) (co : Int32) (sl : Int32) (sn : Int32) (ts : Nat) (ra : Int32) (rr : Int32) (rw : Int32) (rn : Int32) (um : Int32) (bs : Int32) (bh : Int32) (km : Int32) (lx : Nat → Nat) (rl : Nat → Int32) (rg : Nat → Int32) (dth : Nat → Int32) (dow : Nat → Int32) (hlx : ∀ j, lx j ≤ 126) (hts : ts ≤ 200) (hR : ∀ (r : Int32) (u : (Int32) × (Nat) × (Nat) × (Nat → Int32) × (Nat → Int32) × (Int32)), (∃ (q : Nat), (nI q = r) ∧ ((rdA lx ts 201 0 (dth, dow, 0, 0)).1 = some q) ∧ (q < ts) ∧ (True)) ∨ (∃ (d2 : Nat → Int32) (o2 : Nat → Int32), ((-4) = r) ∧ (rdA lx ts 201 0 (dth, dow, 0, 0) = (none, d2, o2, u.2.2.1, u.2.1)) ∧ (rel (u.2.1 * u.2.2.1) u.2.2.2.1 u.2.2.2.2.1 d2 o2) ∧ (u.2.1 ≤ 8) ∧ (u.2.2.1 ≤ 6) ∧ (True)) → RetI X cX9_fault 2 0 0 r [(q0, .inr (9, [.int ro, .int co, .int sl, .ref q3, .ref q4, .int sn, .ref q6, .ref q7, .ref q8, .ref q9, .int (nI ts), .int u.1, .int (nI u.2.1), .int (nI u.2.2.1), .ref q14, .ref q15, .int u.2.2.2.2.2, .ref q17, .ref q18, .ref q19, .int um, .int bs, .int bh, .ref q23, .ref q24, .ref q25, .int km])), (q9, .inl (cI, 200, .inl (nA lx))), (q14, .inl (cI, 48, .inl u.2.2.2.1)), (q15, .inl (cI, 48, .inl u.2.2.2.2.1))]) : J X 2 0 0 0 [(0, .ref q0)] [] [(q0, .inr (9, [.int ro, .int co, .int sl, .ref q3, .ref q4, .int sn, .ref q6, .ref q7, .ref q8, .ref q9, .int (nI ts), .int ra, .int rr, .int rw, .ref q14, .ref q15, .int rn, .ref q17, .ref q18, .ref q19, .int um, .int bs, .int bh, .ref q23, .ref q24, .ref q25, .int km])), (q9, .inl (cI, 200, .inl (nA lx))), (q14, .inl (cI, 48, .inl rl)), (q15, .inl (cI, 48, .inl rg))] := by
  refine J_aload_n h (i := 0) dX9_fault_0 rfl 0 rfl ?_
  refine J_iconst h (v := nI 0) dX9_fault_1 (by decide) ?_
  refine J_put h (ws' := [(q0, .inr (9, [.int ro, .int co, .int sl, .ref q3, .ref q4, .int sn, .ref q6, .ref q7, .ref q8, .ref q9, .int (nI ts), .int (nI 0), .int rr, .int rw, .ref q14, .ref q15, .int rn, .ref q17, .ref q18, .ref q19, .int um, .int bs, .int bh, .ref q23, .ref q24, .ref q25, .int km])), (q9, .inl (cI, 200, .inl (nA lx))), (q14, .inl (cI, 48, .inl rl)), (q15, .inl (cI, 48, .inl rg))]) inX9 tyX9 tyX9_ok nmX9 rfl 0 11 (by decide) rfl nf_X9_81 rfl rfl rfl rfl (Nat.le_of_ble_eq_true rfl) dX9_fault_2 rfl ?_
  refine J_aload_n h (i := 0) dX9_fault_5 rfl 0 rfl ?_
  refine J_iconst h (v := nI 0) dX9_fault_6 (by decide) ?_
  refine J_put h (ws' := [(q0, .inr (9, [.int ro, .int co, .int sl, .ref q3, .ref q4, .int sn, .ref q6, .ref q7, .ref q8, .ref q9, .int (nI ts), .int (nI 0), .int (nI 0), .int rw, .ref q14, .ref q15, .int rn, .ref q17, .ref q18, .ref q19, .int um, .int bs, .int bh, .ref q23, .ref q24, .ref q25, .int km])), (q9, .inl (cI, 200, .inl (nA lx))), (q14, .inl (cI, 48, .inl rl)), (q15, .inl (cI, 48, .inl rg))]) inX9 tyX9 tyX9_ok nmX9 rfl 0 12 (by decide) rfl nf_X9_94 rfl rfl rfl rfl (Nat.le_of_ble_eq_true rfl) dX9_fault_7 rfl ?_
  refine J_aload_n h (i := 0) dX9_fault_10 rfl 0 rfl ?_
  refine J_iconst h (v := nI 0) dX9_fault_11 (by decide) ?_
  refine J_put h (ws' := [(q0, .inr (9, [.int ro, .int co, .int sl, .ref q3, .ref q4, .int sn, .ref q6, .ref q7, .ref q8, .ref q9, .int (nI ts), .int (nI 0), .int (nI 0), .int (nI 0), .ref q14, .ref q15, .int rn, .ref q17, .ref q18, .ref q19, .int um, .int bs, .int bh, .ref q23, .ref q24, .ref q25, .int km])), (q9, .inl (cI, 200, .inl (nA lx))), (q14, .inl (cI, 48, .inl rl)), (q15, .inl (cI, 48, .inl rg))]) inX9 tyX9 tyX9_ok nmX9 rfl 0 13 (by decide) rfl nf_X9_97 rfl rfl rfl rfl (Nat.le_of_ble_eq_true rfl) dX9_fault_12 rfl ?_
  exact w_X9_fault_15 X h q0 q3 q4 q6 q7 q8 q9 q14 q15 q17 q18 q19 q23 q24 q25 ro co sl sn ts ra rr rw rn um bs bh km lx rl rg dth dow hlx hts hR  (201 - 0 + 1) 0 0 rl rg 0 0 dth dow rn (by first | assumption | omega | rfl) (by first | assumption | omega | rfl) (by rfl) (by exact fun j hj => absurd hj (by omega)) (by decide) (by decide) (by omega)
theorem c_X9_fault (l : Launch) (D : va_G) (cI cE : ClassId) (q0 : Nat) (q3 : Nat) (q4 : Nat) (q6 : Nat) (q7 : Nat) (q8 : Nat) (q9 : Nat) (q14 : Nat) (q15 : Nat) (q17 : Nat) (q18 : Nat) (q19 : Nat) (q23 : Nat) (q24 : Nat) (q25 : Nat) (ro : Int32) (co : Int32) (sl : Int32) (sn : Int32) (ts : Nat) (ra : Int32) (rr : Int32) (rw : Int32) (rn : Int32) (um : Int32) (bs : Int32) (bh : Int32) (km : Int32) (lx : Nat → Nat) (rl : Nat → Int32) (rg : Nat → Int32) (dth : Nat → Int32) (dow : Nat → Int32) (hlx : ∀ j, lx j ≤ 126) (hts : ts ≤ 200) : Ci l D cI cE yX9_fault cX9_fault 2 (some .int) 5 0 0 [.ref q0] [(q0, .inr (9, [.int ro, .int co, .int sl, .ref q3, .ref q4, .int sn, .ref q6, .ref q7, .ref q8, .ref q9, .int (nI ts), .int ra, .int rr, .int rw, .ref q14, .ref q15, .int rn, .ref q17, .ref q18, .ref q19, .int um, .int bs, .int bh, .ref q23, .ref q24, .ref q25, .int km])), (q9, .inl (cI, 200, .inl (nA lx))), (q14, .inl (cI, 48, .inl rl)), (q15, .inl (cI, 48, .inl rg))] (fun (r : Int32) (u : (Int32) × (Nat) × (Nat) × (Nat → Int32) × (Nat → Int32) × (Int32)) => (∃ (q : Nat), (nI q = r) ∧ ((rdA lx ts 201 0 (dth, dow, 0, 0)).1 = some q) ∧ (q < ts) ∧ (True)) ∨ (∃ (d2 : Nat → Int32) (o2 : Nat → Int32), ((-4) = r) ∧ (rdA lx ts 201 0 (dth, dow, 0, 0) = (none, d2, o2, u.2.2.1, u.2.1)) ∧ (rel (u.2.1 * u.2.2.1) u.2.2.2.1 u.2.2.2.2.1 d2 o2) ∧ (u.2.1 ≤ 8) ∧ (u.2.2.1 ≤ 6) ∧ (True))) (fun (u : (Int32) × (Nat) × (Nat) × (Nat → Int32) × (Nat → Int32) × (Int32)) => ([(q0, .inr (9, [.int ro, .int co, .int sl, .ref q3, .ref q4, .int sn, .ref q6, .ref q7, .ref q8, .ref q9, .int (nI ts), .int u.1, .int (nI u.2.1), .int (nI u.2.2.1), .ref q14, .ref q15, .int u.2.2.2.2.2, .ref q17, .ref q18, .ref q19, .int um, .int bs, .int bh, .ref q23, .ref q24, .ref q25, .int km])), (q9, .inl (cI, 200, .inl (nA lx))), (q14, .inl (cI, 48, .inl u.2.2.2.1)), (q15, .inl (cI, 48, .inl u.2.2.2.2.1))] : va_W)) :=
  Ci.of (by decide) (Nat.le_of_ble_eq_true rfl) (fun _ _ _ => rfl) (fun X h hR => w_X9_fault X h q0 q3 q4 q6 q7 q8 q9 q14 q15 q17 q18 q19 q23 q24 q25 ro co sl sn ts ra rr rw rn um bs bh km lx rl rg dth dow hlx hts hR)
theorem yv_X9_fault : YV yX9_fault cX9_fault 2 (some .int) 0 := ⟨no_X9_fault, nv_X9_fault, ni_X9, nk_X9_fault, by decide +kernel⟩
set_option maxRecDepth 100000 in
set_option maxHeartbeats 4000000 in
theorem w_X9_lay_38 (X : Cx) {cI cE : ClassId} (h : Ok X cX9_lay RX9 2 cI cE 6 0 0) (q0 : Nat) (q3 : Nat) (q4 : Nat) (q6 : Nat) (q7 : Nat) (q8 : Nat) (q9 : Nat) (q14 : Nat) (q15 : Nat) (q17 : Nat) (q18 : Nat) (q19 : Nat) (q23 : Nat) (q24 : Nat) (q25 : Nat) (ro : Nat) (co : Nat) (sl : Int32) (sn : Nat) (ts : Nat) (ra : Int32) (rr : Int32) (rw : Int32) (rn : Int32) (um : Nat) (bs : Int32) (bh : Int32) (km : Nat) (lx : Nat → Nat) (rl : Nat → Int32) (rg : Nat → Int32) (th : Nat → Int32) (mo : Nat → Int32) (dth : Nat → Int32) (dow : Nat → Int32) (hlx : ∀ j, lx j ≤ 126) (hts : ts ≤ 200) (hR : ∀ (r : Int32) (u : (Nat) × (Nat) × (Nat → Int32) × (Nat → Int32) × (Int32) × (Nat) × (Nat) × (Nat) × (Int32) × (Nat) × (Nat) × (Nat → Int32) × (Nat → Int32) × (Int32)), (∃ (d2 : Nat → Int32) (o2 : Nat → Int32), (nI (u.1 * u.2.1) = r) ∧ (rdA lx ts 201 0 (dth, dow, 0, 0) = (none, d2, o2, u.2.1, u.1)) ∧ (2 ≤ u.1) ∧ (rel (u.1 * u.2.1) u.2.2.1 u.2.2.2.1 d2 o2) ∧ ((nI 0) = u.2.2.2.2.1) ∧ ((0) = u.2.2.2.2.2.1) ∧ ((0) = u.2.2.2.2.2.2.1) ∧ ((0) = u.2.2.2.2.2.2.2.1) ∧ (True)) ∨ (((-2) = r) ∧ (¬ ((rdA lx ts 201 0 (dth, dow, 0, 0)).1 = none ∧ 2 ≤ (rdA lx ts 201 0 (dth, dow, 0, 0)).2.2.2.2)) ∧ ((ro) = u.1) ∧ ((co) = u.2.1) ∧ ((th) = u.2.2.1) ∧ ((mo) = u.2.2.2.1) ∧ ((sl) = u.2.2.2.2.1) ∧ ((sn) = u.2.2.2.2.2.1) ∧ ((um) = u.2.2.2.2.2.2.1) ∧ ((km) = u.2.2.2.2.2.2.2.1) ∧ (True)) → RetI X cX9_lay 2 0 0 r [(q0, .inr (9, [.int (nI u.1), .int (nI u.2.1), .int u.2.2.2.2.1, .ref q3, .ref q4, .int (nI u.2.2.2.2.2.1), .ref q6, .ref q7, .ref q8, .ref q9, .int (nI ts), .int u.2.2.2.2.2.2.2.2.1, .int (nI u.2.2.2.2.2.2.2.2.2.1), .int (nI u.2.2.2.2.2.2.2.2.2.2.1), .ref q14, .ref q15, .int u.2.2.2.2.2.2.2.2.2.2.2.2.2, .ref q17, .ref q18, .ref q19, .int (nI u.2.2.2.2.2.2.1), .int bs, .int bh, .ref q23, .ref q24, .ref q25, .int (nI u.2.2.2.2.2.2.2.1)])), (q9, .inl (cI, 200, .inl (nA lx))), (q14, .inl (cI, 48, .inl u.2.2.2.2.2.2.2.2.2.2.2.1)), (q15, .inl (cI, 48, .inl u.2.2.2.2.2.2.2.2.2.2.2.2.1)), (q3, .inl (cI, 48, .inl u.2.2.1)), (q4, .inl (cI, 48, .inl u.2.2.2.1))]) : ∀ (n_38 : Nat) (i : Nat) (r1 : Nat) (c1 : Nat) (t1 : Nat → Int32) (m1 : Nat → Int32) (l1 : Nat → Int32) (g1 : Nat → Int32) (d1 : Nat → Int32) (o1 : Nat → Int32) (a1 : Int32) (n1 : Int32), (i ≤ r1 * c1) → (r1 * c1 ≤ 48) → (rdA lx ts 201 0 (dth, dow, 0, 0) = (none, d1, o1, c1, r1)) → (2 ≤ r1) → (rel (r1 * c1) l1 g1 d1 o1) → (∀ j, j < i → t1 j = l1 j) → (∀ j, j < i → m1 j = g1 j) → r1 * c1 - i < n_38 → J X 2 0 0 38 [(0, .ref q0), (1, .int (nI i))] [] [(q0, .inr (9, [.int (nI r1), .int (nI c1), .int sl, .ref q3, .ref q4, .int (nI sn), .ref q6, .ref q7, .ref q8, .ref q9, .int (nI ts), .int a1, .int (nI r1), .int (nI c1), .ref q14, .ref q15, .int n1, .ref q17, .ref q18, .ref q19, .int (nI um), .int bs, .int bh, .ref q23, .ref q24, .ref q25, .int (nI km)])), (q9, .inl (cI, 200, .inl (nA lx))), (q14, .inl (cI, 48, .inl l1)), (q15, .inl (cI, 48, .inl g1)), (q3, .inl (cI, 48, .inl t1)), (q4, .inl (cI, 48, .inl m1))] := by
  intro n_38
  induction n_38 with
  | zero => intro i r1 c1 t1 m1 l1 g1 d1 o1 a1 n1 hi h48 hrd h2 hrl1 ht hm hn_; exact absurd hn_ (Nat.not_lt_zero _)
  | succ n_38 ih_38 =>
    intro i r1 c1 t1 m1 l1 g1 d1 o1 a1 n1 hi h48 hrd h2 hrl1 ht hm hn_38
    refine J_iload_n h (i := 1) dX9_lay_38 rfl 1 rfl ?_
    refine J_aload_n h (i := 0) dX9_lay_39 rfl 0 rfl ?_
    refine K_vi h (wr := [(q9, .inl (cI, 200, .inl (nA lx))), (q14, .inl (cI, 48, .inl l1)), (q15, .inl (cI, 48, .inl g1)), (q3, .inl (cI, 48, .inl t1)), (q4, .inl (cI, 48, .inl m1))]) (c_X9_cells (xl X) (xD X) cI cE q0 q3 q4 q6 q7 q8 q9 q14 q15 q17 q18 q19 q23 q24 q25 r1 c1 sl (nI sn) (nI ts) a1 (nI r1) (nI c1) n1 (nI um) bs bh (nI km) ) yv_X9_cells nm_X9_63 (by decide) (by decide) rfl rfl 0 rfl rfl rfl rfl (Nat.le_of_ble_eq_true rfl) (Nat.le_refl _) (Nat.le_refl _) dX9_lay_40 (fun r_40 u_40 p_40 => ?_)
    obtain ⟨rfl, -⟩ := p_40
    show J X 2 0 0 43 [(0, .ref q0), (1, .int (nI i))] [.int (nI (r1 * c1)), .int (nI i)] [(q0, .inr (9, [.int (nI r1), .int (nI c1), .int sl, .ref q3, .ref q4, .int (nI sn), .ref q6, .ref q7, .ref q8, .ref q9, .int (nI ts), .int a1, .int (nI r1), .int (nI c1), .ref q14, .ref q15, .int n1, .ref q17, .ref q18, .ref q19, .int (nI um), .int bs, .int bh, .ref q23, .ref q24, .ref q25, .int (nI km)])), (q9, .inl (cI, 200, .inl (nA lx))), (q14, .inl (cI, 48, .inl l1)), (q15, .inl (cI, 48, .inl g1)), (q3, .inl (cI, 48, .inl t1)), (q4, .inl (cI, 48, .inl m1))]
    refine N_icmp_ge h 76 dX9_lay_43 (by decide) (by omega) (by omega) (fun c_43 => ?_) (fun c_43 => ?_)
    · skip
      refine J_aload_n h (i := 0) dX9_lay_76 rfl 0 rfl ?_
      refine J_iconst h (v := nI 0) dX9_lay_77 (by decide) ?_
      refine J_put h (ws' := [(q0, .inr (9, [.int (nI r1), .int (nI c1), .int (nI 0), .ref q3, .ref q4, .int (nI sn), .ref q6, .ref q7, .ref q8, .ref q9, .int (nI ts), .int a1, .int (nI r1), .int (nI c1), .ref q14, .ref q15, .int n1, .ref q17, .ref q18, .ref q19, .int (nI um), .int bs, .int bh, .ref q23, .ref q24, .ref q25, .int (nI km)])), (q9, .inl (cI, 200, .inl (nA lx))), (q14, .inl (cI, 48, .inl l1)), (q15, .inl (cI, 48, .inl g1)), (q3, .inl (cI, 48, .inl t1)), (q4, .inl (cI, 48, .inl m1))]) inX9 tyX9 tyX9_ok nmX9 rfl 0 2 (by decide) rfl nf_X9_115 rfl rfl rfl rfl (Nat.le_of_ble_eq_true rfl) dX9_lay_78 rfl ?_
      refine J_aload_n h (i := 0) dX9_lay_81 rfl 0 rfl ?_
      refine J_iconst h (v := nI 0) dX9_lay_82 (by decide) ?_
      refine J_put h (ws' := [(q0, .inr (9, [.int (nI r1), .int (nI c1), .int (nI 0), .ref q3, .ref q4, .int (nI 0), .ref q6, .ref q7, .ref q8, .ref q9, .int (nI ts), .int a1, .int (nI r1), .int (nI c1), .ref q14, .ref q15, .int n1, .ref q17, .ref q18, .ref q19, .int (nI um), .int bs, .int bh, .ref q23, .ref q24, .ref q25, .int (nI km)])), (q9, .inl (cI, 200, .inl (nA lx))), (q14, .inl (cI, 48, .inl l1)), (q15, .inl (cI, 48, .inl g1)), (q3, .inl (cI, 48, .inl t1)), (q4, .inl (cI, 48, .inl m1))]) inX9 tyX9 tyX9_ok nmX9 rfl 0 5 (by decide) rfl nf_X9_118 rfl rfl rfl rfl (Nat.le_of_ble_eq_true rfl) dX9_lay_83 rfl ?_
      refine J_aload_n h (i := 0) dX9_lay_86 rfl 0 rfl ?_
      refine J_iconst h (v := nI 0) dX9_lay_87 (by decide) ?_
      refine J_put h (ws' := [(q0, .inr (9, [.int (nI r1), .int (nI c1), .int (nI 0), .ref q3, .ref q4, .int (nI 0), .ref q6, .ref q7, .ref q8, .ref q9, .int (nI ts), .int a1, .int (nI r1), .int (nI c1), .ref q14, .ref q15, .int n1, .ref q17, .ref q18, .ref q19, .int (nI 0), .int bs, .int bh, .ref q23, .ref q24, .ref q25, .int (nI km)])), (q9, .inl (cI, 200, .inl (nA lx))), (q14, .inl (cI, 48, .inl l1)), (q15, .inl (cI, 48, .inl g1)), (q3, .inl (cI, 48, .inl t1)), (q4, .inl (cI, 48, .inl m1))]) inX9 tyX9 tyX9_ok nmX9 rfl 0 20 (by decide) rfl nf_X9_121 rfl rfl rfl rfl (Nat.le_of_ble_eq_true rfl) dX9_lay_88 rfl ?_
      refine J_aload_n h (i := 0) dX9_lay_91 rfl 0 rfl ?_
      refine J_iconst h (v := nI 0) dX9_lay_92 (by decide) ?_
      refine J_put h (ws' := [(q0, .inr (9, [.int (nI r1), .int (nI c1), .int (nI 0), .ref q3, .ref q4, .int (nI 0), .ref q6, .ref q7, .ref q8, .ref q9, .int (nI ts), .int a1, .int (nI r1), .int (nI c1), .ref q14, .ref q15, .int n1, .ref q17, .ref q18, .ref q19, .int (nI 0), .int bs, .int bh, .ref q23, .ref q24, .ref q25, .int (nI 0)])), (q9, .inl (cI, 200, .inl (nA lx))), (q14, .inl (cI, 48, .inl l1)), (q15, .inl (cI, 48, .inl g1)), (q3, .inl (cI, 48, .inl t1)), (q4, .inl (cI, 48, .inl m1))]) inX9 tyX9 tyX9_ok nmX9 rfl 0 26 (by decide) rfl nf_X9_124 rfl rfl rfl rfl (Nat.le_of_ble_eq_true rfl) dX9_lay_93 rfl ?_
      refine J_aload_n h (i := 0) dX9_lay_96 rfl 0 rfl ?_
      refine K_vi h (wr := [(q9, .inl (cI, 200, .inl (nA lx))), (q14, .inl (cI, 48, .inl l1)), (q15, .inl (cI, 48, .inl g1)), (q3, .inl (cI, 48, .inl t1)), (q4, .inl (cI, 48, .inl m1))]) (c_X9_cells (xl X) (xD X) cI cE q0 q3 q4 q6 q7 q8 q9 q14 q15 q17 q18 q19 q23 q24 q25 r1 c1 (nI 0) (nI 0) (nI ts) a1 (nI r1) (nI c1) n1 (nI 0) bs bh (nI 0) ) yv_X9_cells nm_X9_63 (by decide) (by decide) rfl rfl 0 rfl rfl rfl rfl (Nat.le_of_ble_eq_true rfl) (Nat.le_refl _) (Nat.le_refl _) dX9_lay_97 (fun r_97 u_97 p_97 => ?_)
      obtain ⟨rfl, -⟩ := p_97
      show J X 2 0 0 100 [(0, .ref q0), (1, .int (nI i))] [.int (nI (r1 * c1))] [(q0, .inr (9, [.int (nI r1), .int (nI c1), .int (nI 0), .ref q3, .ref q4, .int (nI 0), .ref q6, .ref q7, .ref q8, .ref q9, .int (nI ts), .int a1, .int (nI r1), .int (nI c1), .ref q14, .ref q15, .int n1, .ref q17, .ref q18, .ref q19, .int (nI 0), .int bs, .int bh, .ref q23, .ref q24, .ref q25, .int (nI 0)])), (q9, .inl (cI, 200, .inl (nA lx))), (q14, .inl (cI, 48, .inl l1)), (q15, .inl (cI, 48, .inl g1)), (q3, .inl (cI, 48, .inl t1)), (q4, .inl (cI, 48, .inl m1))]
      exact hR (nI (r1 * c1)) (r1, c1, t1, m1, nI 0, 0, 0, 0, a1, r1, c1, l1, g1, n1) (by refine Or.inl ⟨d1, o1, rfl, hrd, h2, ?_, rfl, rfl, rfl, rfl, trivial⟩; intro j hj; obtain ⟨z1, z2, z3, z4⟩ := hrl1 j hj; have hji : j < i := Nat.lt_of_lt_of_le hj (show r1 * c1 ≤ i by omega); exact ⟨(ht j hji).trans z1, (hm j hji).trans z2, z3, z4⟩) 100 _ dX9_lay_100
    · skip
      refine J_aload_n h (i := 0) dX9_lay_46 rfl 0 rfl ?_
      refine J_get h inX9 rfl 0 3 (by decide) rfl rfl nf_X9_7 dX9_lay_47 ?_
      refine J_iload_n h (i := 1) dX9_lay_50 rfl 1 rfl ?_
      refine J_aload_n h (i := 0) dX9_lay_51 rfl 0 rfl ?_
      refine J_get h inX9 rfl 0 14 (by decide) rfl rfl nf_X9_28 dX9_lay_52 ?_
      refine J_iload_n h (i := 1) dX9_lay_55 rfl 1 rfl ?_
      refine N_iald h 2 rfl (by decide) (by omega) dX9_lay_56 ?_
      refine N_iast h (ws' := [(q0, .inr (9, [.int (nI r1), .int (nI c1), .int sl, .ref q3, .ref q4, .int (nI sn), .ref q6, .ref q7, .ref q8, .ref q9, .int (nI ts), .int a1, .int (nI r1), .int (nI c1), .ref q14, .ref q15, .int n1, .ref q17, .ref q18, .ref q19, .int (nI um), .int bs, .int bh, .ref q23, .ref q24, .ref q25, .int (nI km)])), (q9, .inl (cI, 200, .inl (nA lx))), (q14, .inl (cI, 48, .inl l1)), (q15, .inl (cI, 48, .inl g1)), (q3, .inl (cI, 48, .inl (upd t1 i (l1 i)))), (q4, .inl (cI, 48, .inl m1))]) 4 rfl (by decide) (by omega) dX9_lay_57 rfl ?_
      refine J_aload_n h (i := 0) dX9_lay_58 rfl 0 rfl ?_
      refine J_get h inX9 rfl 0 4 (by decide) rfl rfl nf_X9_13 dX9_lay_59 ?_
      refine J_iload_n h (i := 1) dX9_lay_62 rfl 1 rfl ?_
      refine J_aload_n h (i := 0) dX9_lay_63 rfl 0 rfl ?_
      refine J_get h inX9 rfl 0 15 (by decide) rfl rfl nf_X9_31 dX9_lay_64 ?_
      refine J_iload_n h (i := 1) dX9_lay_67 rfl 1 rfl ?_
      refine N_iald h 3 rfl (by decide) (by omega) dX9_lay_68 ?_
      refine N_iast h (ws' := [(q0, .inr (9, [.int (nI r1), .int (nI c1), .int sl, .ref q3, .ref q4, .int (nI sn), .ref q6, .ref q7, .ref q8, .ref q9, .int (nI ts), .int a1, .int (nI r1), .int (nI c1), .ref q14, .ref q15, .int n1, .ref q17, .ref q18, .ref q19, .int (nI um), .int bs, .int bh, .ref q23, .ref q24, .ref q25, .int (nI km)])), (q9, .inl (cI, 200, .inl (nA lx))), (q14, .inl (cI, 48, .inl l1)), (q15, .inl (cI, 48, .inl g1)), (q3, .inl (cI, 48, .inl (upd t1 i (l1 i)))), (q4, .inl (cI, 48, .inl (upd m1 i (g1 i))))]) 5 rfl (by decide) (by omega) dX9_lay_69 rfl ?_
      refine J_iinc h (v := nI (i + 1)) (lv' := [(1, .int (nI (i + 1))), (0, .ref q0)]) dX9_lay_70 1 rfl (inc_ok _ 1) (by decide) rfl ?_
      refine J_goto h 38 dX9_lay_73 (by decide) ?_
      refine J.loc [1, 0] (lv' := [(0, .ref q0), (1, .int (nI (i + 1)))]) rfl ?_
      exact ih_38 (i + 1) r1 c1 (upd t1 i (l1 i)) (upd m1 i (g1 i)) l1 g1 d1 o1 a1 n1 (by first | exact hi |  assumption | omega | rfl) (by first | exact h48 |  assumption | omega | rfl) (by first | exact hrd |  assumption | omega | rfl) (by first | exact h2 |  assumption | omega | rfl) (by first | exact hrl1 |  assumption | omega | rfl) (by exact upd_ext ht) (by exact upd_ext hm) (by omega)
set_option maxRecDepth 100000 in
set_option maxHeartbeats 4000000 in
theorem w_X9_lay (X : Cx) {cI cE : ClassId} (h : Ok X cX9_lay RX9 2 cI cE 6 0 0) (q0 : Nat) (q3 : Nat) (q4 : Nat) (q6 : Nat) (q7 : Nat) (q8 : Nat) (q9 : Nat) (q14 : Nat) (q15 : Nat) (q17 : Nat) (q18 : Nat) (q19 : Nat) (q23 : Nat) (q24 : Nat) (q25 : Nat) (ro : Nat) (co : Nat) (sl : Int32) (sn : Nat) (ts : Nat) (ra : Int32) (rr : Int32) (rw : Int32) (rn : Int32) (um : Nat) (bs : Int32) (bh : Int32) (km : Nat) (lx : Nat → Nat) (rl : Nat → Int32) (rg : Nat → Int32) (th : Nat → Int32) (mo : Nat → Int32) (dth : Nat → Int32) (dow : Nat → Int32) (hlx : ∀ j, lx j ≤ 126) (hts : ts ≤ 200) (hR : ∀ (r : Int32) (u : (Nat) × (Nat) × (Nat → Int32) × (Nat → Int32) × (Int32) × (Nat) × (Nat) × (Nat) × (Int32) × (Nat) × (Nat) × (Nat → Int32) × (Nat → Int32) × (Int32)), (∃ (d2 : Nat → Int32) (o2 : Nat → Int32), (nI (u.1 * u.2.1) = r) ∧ (rdA lx ts 201 0 (dth, dow, 0, 0) = (none, d2, o2, u.2.1, u.1)) ∧ (2 ≤ u.1) ∧ (rel (u.1 * u.2.1) u.2.2.1 u.2.2.2.1 d2 o2) ∧ ((nI 0) = u.2.2.2.2.1) ∧ ((0) = u.2.2.2.2.2.1) ∧ ((0) = u.2.2.2.2.2.2.1) ∧ ((0) = u.2.2.2.2.2.2.2.1) ∧ (True)) ∨ (((-2) = r) ∧ (¬ ((rdA lx ts 201 0 (dth, dow, 0, 0)).1 = none ∧ 2 ≤ (rdA lx ts 201 0 (dth, dow, 0, 0)).2.2.2.2)) ∧ ((ro) = u.1) ∧ ((co) = u.2.1) ∧ ((th) = u.2.2.1) ∧ ((mo) = u.2.2.2.1) ∧ ((sl) = u.2.2.2.2.1) ∧ ((sn) = u.2.2.2.2.2.1) ∧ ((um) = u.2.2.2.2.2.2.1) ∧ ((km) = u.2.2.2.2.2.2.2.1) ∧ (True)) → RetI X cX9_lay 2 0 0 r [(q0, .inr (9, [.int (nI u.1), .int (nI u.2.1), .int u.2.2.2.2.1, .ref q3, .ref q4, .int (nI u.2.2.2.2.2.1), .ref q6, .ref q7, .ref q8, .ref q9, .int (nI ts), .int u.2.2.2.2.2.2.2.2.1, .int (nI u.2.2.2.2.2.2.2.2.2.1), .int (nI u.2.2.2.2.2.2.2.2.2.2.1), .ref q14, .ref q15, .int u.2.2.2.2.2.2.2.2.2.2.2.2.2, .ref q17, .ref q18, .ref q19, .int (nI u.2.2.2.2.2.2.1), .int bs, .int bh, .ref q23, .ref q24, .ref q25, .int (nI u.2.2.2.2.2.2.2.1)])), (q9, .inl (cI, 200, .inl (nA lx))), (q14, .inl (cI, 48, .inl u.2.2.2.2.2.2.2.2.2.2.2.1)), (q15, .inl (cI, 48, .inl u.2.2.2.2.2.2.2.2.2.2.2.2.1)), (q3, .inl (cI, 48, .inl u.2.2.1)), (q4, .inl (cI, 48, .inl u.2.2.2.1))]) : J X 2 0 0 0 [(0, .ref q0)] [] [(q0, .inr (9, [.int (nI ro), .int (nI co), .int sl, .ref q3, .ref q4, .int (nI sn), .ref q6, .ref q7, .ref q8, .ref q9, .int (nI ts), .int ra, .int rr, .int rw, .ref q14, .ref q15, .int rn, .ref q17, .ref q18, .ref q19, .int (nI um), .int bs, .int bh, .ref q23, .ref q24, .ref q25, .int (nI km)])), (q9, .inl (cI, 200, .inl (nA lx))), (q14, .inl (cI, 48, .inl rl)), (q15, .inl (cI, 48, .inl rg)), (q3, .inl (cI, 48, .inl th)), (q4, .inl (cI, 48, .inl mo))] := by
  refine J_aload_n h (i := 0) dX9_lay_0 rfl 0 rfl ?_
  refine K_vi h (wr := [(q3, .inl (cI, 48, .inl th)), (q4, .inl (cI, 48, .inl mo))]) (c_X9_fault (xl X) (xD X) cI cE q0 q3 q4 q6 q7 q8 q9 q14 q15 q17 q18 q19 q23 q24 q25 (nI ro) (nI co) sl (nI sn) ts ra rr rw rn (nI um) bs bh (nI km) lx rl rg dth dow (by first | exact hlx |  assumption | omega | rfl) (by first | exact hts |  assumption | omega | rfl)) yv_X9_fault nm_X9_112 (by decide) (by decide) rfl rfl 0 rfl rfl rfl rfl (Nat.le_of_ble_eq_true rfl) (Nat.le_refl _) (Nat.le_refl _) dX9_lay_1 (fun r_1 u_1 p_1 => ?_)
  obtain ⟨ra2_1, rr2_1, rw2_1, rl2_1, rg2_1, rn2_1⟩ := u_1
  try dsimp only at p_1
  rcases p_1 with p_1 | p_1
  · obtain ⟨q_1, rfl, f0_1, f1_1, -⟩ := p_1
    show J X 2 0 0 4 [(0, .ref q0)] [.int (nI q_1)] [(q0, .inr (9, [.int (nI ro), .int (nI co), .int sl, .ref q3, .ref q4, .int (nI sn), .ref q6, .ref q7, .ref q8, .ref q9, .int (nI ts), .int ra2_1, .int (nI rr2_1), .int (nI rw2_1), .ref q14, .ref q15, .int rn2_1, .ref q17, .ref q18, .ref q19, .int (nI um), .int bs, .int bh, .ref q23, .ref q24, .ref q25, .int (nI km)])), (q9, .inl (cI, 200, .inl (nA lx))), (q14, .inl (cI, 48, .inl rl2_1)), (q15, .inl (cI, 48, .inl rg2_1)), (q3, .inl (cI, 48, .inl th)), (q4, .inl (cI, 48, .inl mo))]
    refine J_bipush h (v := (-4)) dX9_lay_4 (by decide) ?_
    refine T_icmp_ne h (A := ((q_1 : Nat) : Int)) (B := (-4)) 17 dX9_lay_6 (by decide) (nI_toInt (by omega)) (by decide) (fun c_6 => ?_) (fun c_6 => absurd c_6 (by omega))
    refine J_bipush h (v := (-2)) dX9_lay_17 (by decide) ?_
    exact hR ((-2)) (ro, co, th, mo, sl, sn, um, km, ra2_1, rr2_1, rw2_1, rl2_1, rg2_1, rn2_1) (by refine Or.inr ⟨rfl, ?_, rfl, rfl, rfl, rfl, rfl, rfl, rfl, rfl, trivial⟩; intro q; rw [f0_1] at q; first | exact absurd q.1 (Option.some_ne_none _) | (have q2 := q.2; dsimp only at q2; omega)) 19 _ dX9_lay_19
  · obtain ⟨d2_1, o2_1, rfl, f0_1, f1_1, f2_1, f3_1, -⟩ := p_1
    show J X 2 0 0 4 [(0, .ref q0)] [.int (-4)] [(q0, .inr (9, [.int (nI ro), .int (nI co), .int sl, .ref q3, .ref q4, .int (nI sn), .ref q6, .ref q7, .ref q8, .ref q9, .int (nI ts), .int ra2_1, .int (nI rr2_1), .int (nI rw2_1), .ref q14, .ref q15, .int rn2_1, .ref q17, .ref q18, .ref q19, .int (nI um), .int bs, .int bh, .ref q23, .ref q24, .ref q25, .int (nI km)])), (q9, .inl (cI, 200, .inl (nA lx))), (q14, .inl (cI, 48, .inl rl2_1)), (q15, .inl (cI, 48, .inl rg2_1)), (q3, .inl (cI, 48, .inl th)), (q4, .inl (cI, 48, .inl mo))]
    refine J_bipush h (v := (-4)) dX9_lay_4 (by decide) ?_
    refine T_icmp_ne h (A := (-4)) (B := (-4)) 17 dX9_lay_6 (by decide) (by decide) (by decide) (fun c_6 => absurd c_6 (by omega)) (fun c_6 => ?_)
    refine J_aload_n h (i := 0) dX9_lay_9 rfl 0 rfl ?_
    refine J_get h inX9 rfl 0 12 (by decide) rfl rfl nf_X9_94 dX9_lay_10 ?_
    refine J_iconst h (v := nI 2) dX9_lay_13 (by decide) ?_
    refine N_icmp_ge h 20 dX9_lay_14 (by decide) (by omega) (by omega) (fun c_14 => ?_) (fun c_14 => ?_)
    · skip
      refine J_aload_n h (i := 0) dX9_lay_20 rfl 0 rfl ?_
      refine J_aload_n h (i := 0) dX9_lay_21 rfl 0 rfl ?_
      refine J_get h inX9 rfl 0 12 (by decide) rfl rfl nf_X9_94 dX9_lay_22 ?_
      refine J_put h (ws' := [(q0, .inr (9, [.int (nI rr2_1), .int (nI co), .int sl, .ref q3, .ref q4, .int (nI sn), .ref q6, .ref q7, .ref q8, .ref q9, .int (nI ts), .int ra2_1, .int (nI rr2_1), .int (nI rw2_1), .ref q14, .ref q15, .int rn2_1, .ref q17, .ref q18, .ref q19, .int (nI um), .int bs, .int bh, .ref q23, .ref q24, .ref q25, .int (nI km)])), (q9, .inl (cI, 200, .inl (nA lx))), (q14, .inl (cI, 48, .inl rl2_1)), (q15, .inl (cI, 48, .inl rg2_1)), (q3, .inl (cI, 48, .inl th)), (q4, .inl (cI, 48, .inl mo))]) inX9 tyX9 tyX9_ok nmX9 rfl 0 0 (by decide) rfl nf_X9_60 rfl rfl rfl rfl (Nat.le_of_ble_eq_true rfl) dX9_lay_25 rfl ?_
      refine J_aload_n h (i := 0) dX9_lay_28 rfl 0 rfl ?_
      refine J_aload_n h (i := 0) dX9_lay_29 rfl 0 rfl ?_
      refine J_get h inX9 rfl 0 13 (by decide) rfl rfl nf_X9_97 dX9_lay_30 ?_
      refine J_put h (ws' := [(q0, .inr (9, [.int (nI rr2_1), .int (nI rw2_1), .int sl, .ref q3, .ref q4, .int (nI sn), .ref q6, .ref q7, .ref q8, .ref q9, .int (nI ts), .int ra2_1, .int (nI rr2_1), .int (nI rw2_1), .ref q14, .ref q15, .int rn2_1, .ref q17, .ref q18, .ref q19, .int (nI um), .int bs, .int bh, .ref q23, .ref q24, .ref q25, .int (nI km)])), (q9, .inl (cI, 200, .inl (nA lx))), (q14, .inl (cI, 48, .inl rl2_1)), (q15, .inl (cI, 48, .inl rg2_1)), (q3, .inl (cI, 48, .inl th)), (q4, .inl (cI, 48, .inl mo))]) inX9 tyX9 tyX9_ok nmX9 rfl 0 1 (by decide) rfl nf_X9_52 rfl rfl rfl rfl (Nat.le_of_ble_eq_true rfl) dX9_lay_33 rfl ?_
      refine J_iconst h (v := nI 0) dX9_lay_36 (by decide) ?_
      refine J_istore_n h (i := 1) (lv' := [(1, .int (nI 0)), (0, .ref q0)]) dX9_lay_37 rfl (by decide) rfl ?_
      refine J.loc [1, 0] (lv' := [(0, .ref q0), (1, .int (nI 0))]) rfl ?_
      exact w_X9_lay_38 X h q0 q3 q4 q6 q7 q8 q9 q14 q15 q17 q18 q19 q23 q24 q25 ro co sl sn ts ra rr rw rn um bs bh km lx rl rg th mo dth dow hlx hts hR  (rr2_1 * rw2_1 - 0 + 1) 0 rr2_1 rw2_1 th mo rl2_1 rg2_1 d2_1 o2_1 ra2_1 rn2_1 (by first | assumption | omega | rfl) (by exact Nat.mul_le_mul (by assumption : _ ≤ 8) (by assumption : _ ≤ 6)) (by exact f0_1) (by first | assumption | omega | rfl) (by exact f1_1) (by intro j hj; omega) (by intro j hj; omega) (by omega)
    · skip
      refine J_bipush h (v := (-2)) dX9_lay_17 (by decide) ?_
      exact hR ((-2)) (ro, co, th, mo, sl, sn, um, km, ra2_1, rr2_1, rw2_1, rl2_1, rg2_1, rn2_1) (by refine Or.inr ⟨rfl, ?_, rfl, rfl, rfl, rfl, rfl, rfl, rfl, rfl, trivial⟩; intro q; rw [f0_1] at q; first | exact absurd q.1 (Option.some_ne_none _) | (have q2 := q.2; dsimp only at q2; omega)) 19 _ dX9_lay_19
theorem c_X9_lay (l : Launch) (D : va_G) (cI cE : ClassId) (q0 : Nat) (q3 : Nat) (q4 : Nat) (q6 : Nat) (q7 : Nat) (q8 : Nat) (q9 : Nat) (q14 : Nat) (q15 : Nat) (q17 : Nat) (q18 : Nat) (q19 : Nat) (q23 : Nat) (q24 : Nat) (q25 : Nat) (ro : Nat) (co : Nat) (sl : Int32) (sn : Nat) (ts : Nat) (ra : Int32) (rr : Int32) (rw : Int32) (rn : Int32) (um : Nat) (bs : Int32) (bh : Int32) (km : Nat) (lx : Nat → Nat) (rl : Nat → Int32) (rg : Nat → Int32) (th : Nat → Int32) (mo : Nat → Int32) (dth : Nat → Int32) (dow : Nat → Int32) (hlx : ∀ j, lx j ≤ 126) (hts : ts ≤ 200) : Ci l D cI cE yX9_lay cX9_lay 2 (some .int) 6 0 0 [.ref q0] [(q0, .inr (9, [.int (nI ro), .int (nI co), .int sl, .ref q3, .ref q4, .int (nI sn), .ref q6, .ref q7, .ref q8, .ref q9, .int (nI ts), .int ra, .int rr, .int rw, .ref q14, .ref q15, .int rn, .ref q17, .ref q18, .ref q19, .int (nI um), .int bs, .int bh, .ref q23, .ref q24, .ref q25, .int (nI km)])), (q9, .inl (cI, 200, .inl (nA lx))), (q14, .inl (cI, 48, .inl rl)), (q15, .inl (cI, 48, .inl rg)), (q3, .inl (cI, 48, .inl th)), (q4, .inl (cI, 48, .inl mo))] (fun (r : Int32) (u : (Nat) × (Nat) × (Nat → Int32) × (Nat → Int32) × (Int32) × (Nat) × (Nat) × (Nat) × (Int32) × (Nat) × (Nat) × (Nat → Int32) × (Nat → Int32) × (Int32)) => (∃ (d2 : Nat → Int32) (o2 : Nat → Int32), (nI (u.1 * u.2.1) = r) ∧ (rdA lx ts 201 0 (dth, dow, 0, 0) = (none, d2, o2, u.2.1, u.1)) ∧ (2 ≤ u.1) ∧ (rel (u.1 * u.2.1) u.2.2.1 u.2.2.2.1 d2 o2) ∧ ((nI 0) = u.2.2.2.2.1) ∧ ((0) = u.2.2.2.2.2.1) ∧ ((0) = u.2.2.2.2.2.2.1) ∧ ((0) = u.2.2.2.2.2.2.2.1) ∧ (True)) ∨ (((-2) = r) ∧ (¬ ((rdA lx ts 201 0 (dth, dow, 0, 0)).1 = none ∧ 2 ≤ (rdA lx ts 201 0 (dth, dow, 0, 0)).2.2.2.2)) ∧ ((ro) = u.1) ∧ ((co) = u.2.1) ∧ ((th) = u.2.2.1) ∧ ((mo) = u.2.2.2.1) ∧ ((sl) = u.2.2.2.2.1) ∧ ((sn) = u.2.2.2.2.2.1) ∧ ((um) = u.2.2.2.2.2.2.1) ∧ ((km) = u.2.2.2.2.2.2.2.1) ∧ (True))) (fun (u : (Nat) × (Nat) × (Nat → Int32) × (Nat → Int32) × (Int32) × (Nat) × (Nat) × (Nat) × (Int32) × (Nat) × (Nat) × (Nat → Int32) × (Nat → Int32) × (Int32)) => ([(q0, .inr (9, [.int (nI u.1), .int (nI u.2.1), .int u.2.2.2.2.1, .ref q3, .ref q4, .int (nI u.2.2.2.2.2.1), .ref q6, .ref q7, .ref q8, .ref q9, .int (nI ts), .int u.2.2.2.2.2.2.2.2.1, .int (nI u.2.2.2.2.2.2.2.2.2.1), .int (nI u.2.2.2.2.2.2.2.2.2.2.1), .ref q14, .ref q15, .int u.2.2.2.2.2.2.2.2.2.2.2.2.2, .ref q17, .ref q18, .ref q19, .int (nI u.2.2.2.2.2.2.1), .int bs, .int bh, .ref q23, .ref q24, .ref q25, .int (nI u.2.2.2.2.2.2.2.1)])), (q9, .inl (cI, 200, .inl (nA lx))), (q14, .inl (cI, 48, .inl u.2.2.2.2.2.2.2.2.2.2.2.1)), (q15, .inl (cI, 48, .inl u.2.2.2.2.2.2.2.2.2.2.2.2.1)), (q3, .inl (cI, 48, .inl u.2.2.1)), (q4, .inl (cI, 48, .inl u.2.2.2.1))] : va_W)) :=
  Ci.of (by decide) (Nat.le_of_ble_eq_true rfl) (fun _ _ _ => rfl) (fun X h hR => w_X9_lay X h q0 q3 q4 q6 q7 q8 q9 q14 q15 q17 q18 q19 q23 q24 q25 ro co sl sn ts ra rr rw rn um bs bh km lx rl rg th mo dth dow hlx hts hR)
theorem yv_X9_lay : YV yX9_lay cX9_lay 2 (some .int) 0 := ⟨no_X9_lay, nv_X9_lay, ni_X9, nk_X9_lay, by decide +kernel⟩
set_option maxRecDepth 100000 in
set_option maxHeartbeats 4000000 in
theorem w_X9_aim_13 (X : Cx) {cI cE : ClassId} (h : Ok X cX9_aim RX9 6 cI cE 3 0 0) (q0 : Nat) (q3 : Nat) (q4 : Nat) (q6 : Nat) (q7 : Nat) (q8 : Nat) (q9 : Nat) (q14 : Nat) (q15 : Nat) (q17 : Nat) (q18 : Nat) (q19 : Nat) (q23 : Nat) (q24 : Nat) (q25 : Nat) (ro : Nat) (co : Nat) (sl : Int32) (sn : Int32) (ts : Int32) (ra : Int32) (rr : Int32) (rw : Int32) (rn : Int32) (um : Int32) (bs : Int32) (bh : Int32) (km : Int32) (th : Nat → Int32) (mo : Nat → Int32) (ce : Nat → Int32) (se : Nat → Int32) (cth : Nat → Int32) (cow : Nat → Int32) (p0 : Int32) (hrc : ro * co ≤ 48) (hco : co ≤ 6) (hro : ro ≤ 8) (hrel : rel (ro * co) th mo cth cow) (hR : ∀ (r : Int32) (u : (Nat → Int32) × (Nat → Int32)), ((vCell (ro * co) p0) ∧ (True)) ∨ (((-1) = r) ∧ (¬ vCell (ro * co) p0) ∧ (True)) → RetI X cX9_aim 6 0 0 r [(q0, .inr (9, [.int (nI ro), .int (nI co), .int sl, .ref q3, .ref q4, .int sn, .ref q6, .ref q7, .ref q8, .ref q9, .int ts, .int ra, .int rr, .int rw, .ref q14, .ref q15, .int rn, .ref q17, .ref q18, .ref q19, .int um, .int bs, .int bh, .ref q23, .ref q24, .ref q25, .int km])), (q3, .inl (cI, 48, .inl th)), (q4, .inl (cI, 48, .inl mo)), (q17, .inl (cI, 8, .inl u.1)), (q18, .inl (cI, 8, .inl u.2))]) : ∀ (n_13 : Nat) (c : Nat) (jc : Nat) (ce1 : Nat → Int32) (se1 : Nat → Int32), (100 ≤ c ∧ c ≤ 60000) → (jc < ro * co) → (p0 = nI jc) → 60000 - c < n_13 → J X 6 0 0 13 [(0, .ref q0), (1, .int (nI jc)), (2, .int (nI c))] [] [(q0, .inr (9, [.int (nI ro), .int (nI co), .int sl, .ref q3, .ref q4, .int sn, .ref q6, .ref q7, .ref q8, .ref q9, .int ts, .int ra, .int rr, .int rw, .ref q14, .ref q15, .int rn, .ref q17, .ref q18, .ref q19, .int um, .int bs, .int bh, .ref q23, .ref q24, .ref q25, .int km])), (q3, .inl (cI, 48, .inl th)), (q4, .inl (cI, 48, .inl mo)), (q17, .inl (cI, 8, .inl ce1)), (q18, .inl (cI, 8, .inl se1))] := by
  intro n_13
  induction n_13 with
  | zero => intro c jc ce1 se1 hc hjc e0 hn_; exact absurd hn_ (Nat.not_lt_zero _)
  | succ n_13 ih_13 =>
    intro c jc ce1 se1 hc hjc e0 hn_13
    refine J_iload_n h (i := 2) dX9_aim_13 rfl 2 rfl ?_
    refine J_sipush h (v := nI 10000) dX9_aim_14 (by decide) ?_
    refine J_aload_n h (i := 0) dX9_aim_17 rfl 0 rfl ?_
    refine J_get h inX9 rfl 0 1 (by decide) rfl rfl nf_X9_52 dX9_aim_18 ?_
    refine N_imul h dX9_aim_21 ?_
    refine N_icmp_ge h 79 dX9_aim_22 (by decide) (by omega) (by omega) (fun c_22 => ?_) (fun c_22 => ?_)
    · skip
      refine J_bipush h (v := (-4)) dX9_aim_79 (by decide) ?_
      exact hR ((-4)) (ce1, se1) (by exact Or.inl ⟨by rw [e0]; exact cellI hjc (by omega), trivial⟩) 81 _ dX9_aim_81
    · skip
      refine J_iload_n h (i := 2) dX9_aim_25 rfl 2 rfl ?_
      refine J_sipush h (v := nI 10000) dX9_aim_26 (by decide) ?_
      refine N_idiv h (by omega) (by omega) (by omega) dX9_aim_29 ?_
      refine J_istore_n h (i := 3) (lv' := [(3, .int (nI (c / 10000))), (0, .ref q0), (1, .int (nI jc)), (2, .int (nI c))]) dX9_aim_30 rfl (by decide) rfl ?_
      refine J_iload_n h (i := 2) dX9_aim_31 rfl 3 rfl ?_
      refine J_bipush h (v := nI 100) dX9_aim_32 (by decide) ?_
      refine N_idiv h (by omega) (by omega) (by omega) dX9_aim_34 ?_
      refine J_bipush h (v := nI 100) dX9_aim_35 (by decide) ?_
      refine N_irem h (by omega) (by omega) (by omega) dX9_aim_37 ?_
      refine J_istore h (lv' := [(4, .int (nI ((c / 100) % 100))), (3, .int (nI (c / 10000))), (0, .ref q0), (1, .int (nI jc)), (2, .int (nI c))]) dX9_aim_38 (by decide) rfl ?_
      refine J_iload_n h (i := 2) dX9_aim_40 rfl 4 rfl ?_
      refine J_bipush h (v := nI 100) dX9_aim_41 (by decide) ?_
      refine N_irem h (by omega) (by omega) (by omega) dX9_aim_43 ?_
      refine J_istore h (lv' := [(5, .int (nI (c % 100))), (4, .int (nI ((c / 100) % 100))), (3, .int (nI (c / 10000))), (0, .ref q0), (1, .int (nI jc)), (2, .int (nI c))]) dX9_aim_44 (by decide) rfl ?_
      refine J_aload_n h (i := 0) dX9_aim_46 rfl 3 rfl ?_
      refine J_iload_n h (i := 3) dX9_aim_47 rfl 2 rfl ?_
      refine J_iload h dX9_aim_48 1 rfl ?_
      refine J_iload h dX9_aim_50 0 rfl ?_
      refine K_vi h (wr := [(q3, .inl (cI, 48, .inl th)), (q4, .inl (cI, 48, .inl mo)), (q17, .inl (cI, 8, .inl ce1)), (q18, .inl (cI, 8, .inl se1))]) (c_X9_isSlideN (xl X) (xD X) cI cE q0 q3 q4 q6 q7 q8 q9 q14 q15 q17 q18 q19 q23 q24 q25 ro co sl sn ts ra rr rw rn um bs bh km (c / 10000) ((c / 100) % 100) (c % 100) (by first | exact hco |  assumption | omega | rfl) (by first | assumption | omega | rfl) (by first | assumption | omega | rfl) (by first | assumption | omega | rfl)) yv_X9_isSlide nm_X9_134 (by decide) (by decide) rfl rfl 0 rfl rfl rfl rfl (Nat.le_of_ble_eq_true rfl) (Nat.le_refl _) (Nat.le_refl _) dX9_aim_52 (fun r_52 u_52 p_52 => ?_)
      rcases p_52 with p_52 | p_52
      · obtain ⟨rfl, f0_52, -⟩ := p_52
        show J X 6 0 0 55 [(5, .int (nI (c % 100))), (4, .int (nI ((c / 100) % 100))), (3, .int (nI (c / 10000))), (0, .ref q0), (1, .int (nI jc)), (2, .int (nI c))] [.int (nI 1)] [(q0, .inr (9, [.int (nI ro), .int (nI co), .int sl, .ref q3, .ref q4, .int sn, .ref q6, .ref q7, .ref q8, .ref q9, .int ts, .int ra, .int rr, .int rw, .ref q14, .ref q15, .int rn, .ref q17, .ref q18, .ref q19, .int um, .int bs, .int bh, .ref q23, .ref q24, .ref q25, .int km])), (q3, .inl (cI, 48, .inl th)), (q4, .inl (cI, 48, .inl mo)), (q17, .inl (cI, 8, .inl ce1)), (q18, .inl (cI, 8, .inl se1))]
        refine J_if_eq h 73 dX9_aim_55 (by decide) (fun z => absurd z (by decide)) (fun _ => ?_)
        refine J_aload_n h (i := 0) dX9_aim_58 rfl 3 rfl ?_
        refine J_iload_n h (i := 3) dX9_aim_59 rfl 2 rfl ?_
        refine J_iload h dX9_aim_60 1 rfl ?_
        refine J_iload h dX9_aim_62 0 rfl ?_
        refine J.wld [0, 1, 3, 4, 2] (ws' := [(q0, .inr (9, [.int (nI ro), .int (nI co), .int sl, .ref q3, .ref q4, .int sn, .ref q6, .ref q7, .ref q8, .ref q9, .int ts, .int ra, .int rr, .int rw, .ref q14, .ref q15, .int rn, .ref q17, .ref q18, .ref q19, .int um, .int bs, .int bh, .ref q23, .ref q24, .ref q25, .int km])), (q3, .inl (cI, 48, .inl th)), (q17, .inl (cI, 8, .inl ce1)), (q18, .inl (cI, 8, .inl se1)), (q4, .inl (cI, 48, .inl mo))]) rfl rfl ?_
        refine K_vi h (wr := [(q4, .inl (cI, 48, .inl mo))]) (c_X9_goes (xl X) (xD X) cI cE q0 q3 q4 q6 q7 q8 q9 q14 q15 q17 q18 q19 q23 q24 q25 ro co sl sn ts ra rr rw rn um bs bh km th ce1 se1 cth (c / 10000) ((c / 100) % 100) (c % 100) (by first | exact hrc |  assumption | omega | rfl) (by first | exact hco |  assumption | omega | rfl) (by first | exact hro |  assumption | omega | rfl) (by first | assumption | omega | rfl) (by first | assumption | omega | rfl) (by first | assumption | omega | rfl) (by exact rel_T hrel)) yv_X9_goes nm_X9_137 (by decide) (by decide) rfl rfl 0 rfl rfl rfl rfl (Nat.le_of_ble_eq_true rfl) (Nat.le_refl _) (Nat.le_refl _) dX9_aim_64 (fun r_64 u_64 p_64 => ?_)
        obtain ⟨ce2_64, se2_64⟩ := u_64
        try dsimp only at p_64
        obtain ⟨rfl, f0_64, f1_64, f2_64, f3_64, -⟩ := p_64
        show J X 6 0 0 67 [(5, .int (nI (c % 100))), (4, .int (nI ((c / 100) % 100))), (3, .int (nI (c / 10000))), (0, .ref q0), (1, .int (nI jc)), (2, .int (nI c))] [.int (nI (ren cth co ro (c % 100) (c / 10000) ((c / 100) % 100)))] [(q0, .inr (9, [.int (nI ro), .int (nI co), .int sl, .ref q3, .ref q4, .int sn, .ref q6, .ref q7, .ref q8, .ref q9, .int ts, .int ra, .int rr, .int rw, .ref q14, .ref q15, .int rn, .ref q17, .ref q18, .ref q19, .int um, .int bs, .int bh, .ref q23, .ref q24, .ref q25, .int km])), (q3, .inl (cI, 48, .inl th)), (q17, .inl (cI, 8, .inl ce2_64)), (q18, .inl (cI, 8, .inl se2_64)), (q4, .inl (cI, 48, .inl mo))]
        have hrn := ren_lt cth (ro := ro) (hh := c % 100) (x0 := c / 10000) (w := c / 100 % 100) hrc (by omega) (by omega)
        refine J_iload_n h (i := 1) dX9_aim_67 rfl 4 rfl ?_
        refine N_icmp_ne h 73 dX9_aim_68 (by decide) (by omega) (by omega) (fun c_68 => ?_) (fun c_68 => ?_)
        · skip
          refine J_iinc h (v := nI (c + 1)) (lv' := [(2, .int (nI (c + 1))), (5, .int (nI (c % 100))), (4, .int (nI ((c / 100) % 100))), (3, .int (nI (c / 10000))), (0, .ref q0), (1, .int (nI jc))]) dX9_aim_73 5 rfl (inc_ok _ 1) (by decide) rfl ?_
          refine J_goto h 13 dX9_aim_76 (by decide) ?_
          refine J.wld [0, 1, 4, 2, 3] (ws' := [(q0, .inr (9, [.int (nI ro), .int (nI co), .int sl, .ref q3, .ref q4, .int sn, .ref q6, .ref q7, .ref q8, .ref q9, .int ts, .int ra, .int rr, .int rw, .ref q14, .ref q15, .int rn, .ref q17, .ref q18, .ref q19, .int um, .int bs, .int bh, .ref q23, .ref q24, .ref q25, .int km])), (q3, .inl (cI, 48, .inl th)), (q4, .inl (cI, 48, .inl mo)), (q17, .inl (cI, 8, .inl ce2_64)), (q18, .inl (cI, 8, .inl se2_64))]) rfl rfl ?_
          refine J.loc [4, 5, 0] (lv' := [(0, .ref q0), (1, .int (nI jc)), (2, .int (nI (c + 1)))]) rfl ?_
          exact ih_13 (c + 1) jc ce2_64 se2_64 (by first | exact hc |  assumption | omega | rfl) (by first | exact hjc |  assumption | omega | rfl) (by first | exact e0 |  assumption | omega | rfl) (by omega)
        · skip
          refine J_iload_n h (i := 2) dX9_aim_71 rfl 5 rfl ?_
          refine J.wld [0, 1, 4, 2, 3] (ws' := [(q0, .inr (9, [.int (nI ro), .int (nI co), .int sl, .ref q3, .ref q4, .int sn, .ref q6, .ref q7, .ref q8, .ref q9, .int ts, .int ra, .int rr, .int rw, .ref q14, .ref q15, .int rn, .ref q17, .ref q18, .ref q19, .int um, .int bs, .int bh, .ref q23, .ref q24, .ref q25, .int km])), (q3, .inl (cI, 48, .inl th)), (q4, .inl (cI, 48, .inl mo)), (q17, .inl (cI, 8, .inl ce2_64)), (q18, .inl (cI, 8, .inl se2_64))]) rfl rfl ?_
          exact hR (nI c) (ce2_64, se2_64) (by exact Or.inl ⟨by rw [e0]; exact cellI hjc (by omega), trivial⟩) 72 _ dX9_aim_72
      · obtain ⟨rfl, f0_52, -⟩ := p_52
        show J X 6 0 0 55 [(5, .int (nI (c % 100))), (4, .int (nI ((c / 100) % 100))), (3, .int (nI (c / 10000))), (0, .ref q0), (1, .int (nI jc)), (2, .int (nI c))] [.int (nI 0)] [(q0, .inr (9, [.int (nI ro), .int (nI co), .int sl, .ref q3, .ref q4, .int sn, .ref q6, .ref q7, .ref q8, .ref q9, .int ts, .int ra, .int rr, .int rw, .ref q14, .ref q15, .int rn, .ref q17, .ref q18, .ref q19, .int um, .int bs, .int bh, .ref q23, .ref q24, .ref q25, .int km])), (q3, .inl (cI, 48, .inl th)), (q4, .inl (cI, 48, .inl mo)), (q17, .inl (cI, 8, .inl ce1)), (q18, .inl (cI, 8, .inl se1))]
        refine J_if_eq h 73 dX9_aim_55 (by decide) (fun _ => ?_) (fun z => absurd z (by decide))
        refine J_iinc h (v := nI (c + 1)) (lv' := [(2, .int (nI (c + 1))), (5, .int (nI (c % 100))), (4, .int (nI ((c / 100) % 100))), (3, .int (nI (c / 10000))), (0, .ref q0), (1, .int (nI jc))]) dX9_aim_73 5 rfl (inc_ok _ 1) (by decide) rfl ?_
        refine J_goto h 13 dX9_aim_76 (by decide) ?_
        refine J.loc [4, 5, 0] (lv' := [(0, .ref q0), (1, .int (nI jc)), (2, .int (nI (c + 1)))]) rfl ?_
        exact ih_13 (c + 1) jc ce1 se1 (by first | exact hc |  assumption | omega | rfl) (by first | exact hjc |  assumption | omega | rfl) (by first | exact e0 |  assumption | omega | rfl) (by omega)
set_option maxRecDepth 100000 in
set_option maxHeartbeats 4000000 in
theorem w_X9_aim (X : Cx) {cI cE : ClassId} (h : Ok X cX9_aim RX9 6 cI cE 3 0 0) (q0 : Nat) (q3 : Nat) (q4 : Nat) (q6 : Nat) (q7 : Nat) (q8 : Nat) (q9 : Nat) (q14 : Nat) (q15 : Nat) (q17 : Nat) (q18 : Nat) (q19 : Nat) (q23 : Nat) (q24 : Nat) (q25 : Nat) (ro : Nat) (co : Nat) (sl : Int32) (sn : Int32) (ts : Int32) (ra : Int32) (rr : Int32) (rw : Int32) (rn : Int32) (um : Int32) (bs : Int32) (bh : Int32) (km : Int32) (th : Nat → Int32) (mo : Nat → Int32) (ce : Nat → Int32) (se : Nat → Int32) (cth : Nat → Int32) (cow : Nat → Int32) (p0 : Int32) (hrc : ro * co ≤ 48) (hco : co ≤ 6) (hro : ro ≤ 8) (hrel : rel (ro * co) th mo cth cow) (hR : ∀ (r : Int32) (u : (Nat → Int32) × (Nat → Int32)), ((vCell (ro * co) p0) ∧ (True)) ∨ (((-1) = r) ∧ (¬ vCell (ro * co) p0) ∧ (True)) → RetI X cX9_aim 6 0 0 r [(q0, .inr (9, [.int (nI ro), .int (nI co), .int sl, .ref q3, .ref q4, .int sn, .ref q6, .ref q7, .ref q8, .ref q9, .int ts, .int ra, .int rr, .int rw, .ref q14, .ref q15, .int rn, .ref q17, .ref q18, .ref q19, .int um, .int bs, .int bh, .ref q23, .ref q24, .ref q25, .int km])), (q3, .inl (cI, 48, .inl th)), (q4, .inl (cI, 48, .inl mo)), (q17, .inl (cI, 8, .inl u.1)), (q18, .inl (cI, 8, .inl u.2))]) : J X 6 0 0 0 [(0, .ref q0), (1, .int p0)] [] [(q0, .inr (9, [.int (nI ro), .int (nI co), .int sl, .ref q3, .ref q4, .int sn, .ref q6, .ref q7, .ref q8, .ref q9, .int ts, .int ra, .int rr, .int rw, .ref q14, .ref q15, .int rn, .ref q17, .ref q18, .ref q19, .int um, .int bs, .int bh, .ref q23, .ref q24, .ref q25, .int km])), (q3, .inl (cI, 48, .inl th)), (q4, .inl (cI, 48, .inl mo)), (q17, .inl (cI, 8, .inl ce)), (q18, .inl (cI, 8, .inl se))] := by
  refine J_aload_n h (i := 0) dX9_aim_0 rfl 0 rfl ?_
  refine J_iload_n h (i := 1) dX9_aim_1 rfl 1 rfl ?_
  refine K_vi h (wr := [(q3, .inl (cI, 48, .inl th)), (q4, .inl (cI, 48, .inl mo)), (q17, .inl (cI, 8, .inl ce)), (q18, .inl (cI, 8, .inl se))]) (c_X9_isCell (xl X) (xD X) cI cE q0 q3 q4 q6 q7 q8 q9 q14 q15 q17 q18 q19 q23 q24 q25 ro co sl sn ts ra rr rw rn um bs bh km p0 (by first | exact hrc |  assumption | omega | rfl)) yv_X9_isCell nm_X9_131 (by decide) (by decide) rfl rfl 0 rfl rfl rfl rfl (Nat.le_of_ble_eq_true rfl) (Nat.le_refl _) (Nat.le_refl _) dX9_aim_2 (fun r_2 u_2 p_2 => ?_)
  rcases p_2 with p_2 | p_2
  · obtain ⟨j_2, rfl, f0_2, rfl, -⟩ := p_2
    show J X 6 0 0 5 [(0, .ref q0), (1, .int (nI j_2))] [.int (nI 1)] [(q0, .inr (9, [.int (nI ro), .int (nI co), .int sl, .ref q3, .ref q4, .int sn, .ref q6, .ref q7, .ref q8, .ref q9, .int ts, .int ra, .int rr, .int rw, .ref q14, .ref q15, .int rn, .ref q17, .ref q18, .ref q19, .int um, .int bs, .int bh, .ref q23, .ref q24, .ref q25, .int km])), (q3, .inl (cI, 48, .inl th)), (q4, .inl (cI, 48, .inl mo)), (q17, .inl (cI, 8, .inl ce)), (q18, .inl (cI, 8, .inl se))]
    refine J_if_ne h 10 dX9_aim_5 (by decide) (fun _ => ?_) (fun z => absurd z (by decide))
    refine J_bipush h (v := nI 100) dX9_aim_10 (by decide) ?_
    refine J_istore_n h (i := 2) (lv' := [(2, .int (nI 100)), (0, .ref q0), (1, .int (nI j_2))]) dX9_aim_12 rfl (by decide) rfl ?_
    refine J.loc [1, 2, 0] (lv' := [(0, .ref q0), (1, .int (nI j_2)), (2, .int (nI 100))]) rfl ?_
    exact w_X9_aim_13 X h q0 q3 q4 q6 q7 q8 q9 q14 q15 q17 q18 q19 q23 q24 q25 ro co sl sn ts ra rr rw rn um bs bh km th mo ce se cth cow (nI j_2) hrc hco hro hrel hR  (60000 - 100 + 1) 100 j_2 ce se (by first | assumption | omega | rfl) (by first | assumption | omega | rfl) (by rfl) (by omega)
  · obtain ⟨rfl, f0_2, -⟩ := p_2
    show J X 6 0 0 5 [(0, .ref q0), (1, .int p0)] [.int (nI 0)] [(q0, .inr (9, [.int (nI ro), .int (nI co), .int sl, .ref q3, .ref q4, .int sn, .ref q6, .ref q7, .ref q8, .ref q9, .int ts, .int ra, .int rr, .int rw, .ref q14, .ref q15, .int rn, .ref q17, .ref q18, .ref q19, .int um, .int bs, .int bh, .ref q23, .ref q24, .ref q25, .int km])), (q3, .inl (cI, 48, .inl th)), (q4, .inl (cI, 48, .inl mo)), (q17, .inl (cI, 8, .inl ce)), (q18, .inl (cI, 8, .inl se))]
    refine J_if_ne h 10 dX9_aim_5 (by decide) (fun z => absurd z (by decide)) (fun _ => ?_)
    refine J_iconst h (v := (-1)) dX9_aim_8 (by decide) ?_
    exact hR ((-1)) (ce, se) (by exact Or.inr ⟨rfl, by omega, trivial⟩) 9 _ dX9_aim_9
theorem c_X9_aim (l : Launch) (D : va_G) (cI cE : ClassId) (q0 : Nat) (q3 : Nat) (q4 : Nat) (q6 : Nat) (q7 : Nat) (q8 : Nat) (q9 : Nat) (q14 : Nat) (q15 : Nat) (q17 : Nat) (q18 : Nat) (q19 : Nat) (q23 : Nat) (q24 : Nat) (q25 : Nat) (ro : Nat) (co : Nat) (sl : Int32) (sn : Int32) (ts : Int32) (ra : Int32) (rr : Int32) (rw : Int32) (rn : Int32) (um : Int32) (bs : Int32) (bh : Int32) (km : Int32) (th : Nat → Int32) (mo : Nat → Int32) (ce : Nat → Int32) (se : Nat → Int32) (cth : Nat → Int32) (cow : Nat → Int32) (p0 : Int32) (hrc : ro * co ≤ 48) (hco : co ≤ 6) (hro : ro ≤ 8) (hrel : rel (ro * co) th mo cth cow) : Ci l D cI cE yX9_aim cX9_aim 6 (some .int) 3 0 0 [.ref q0, .int p0] [(q0, .inr (9, [.int (nI ro), .int (nI co), .int sl, .ref q3, .ref q4, .int sn, .ref q6, .ref q7, .ref q8, .ref q9, .int ts, .int ra, .int rr, .int rw, .ref q14, .ref q15, .int rn, .ref q17, .ref q18, .ref q19, .int um, .int bs, .int bh, .ref q23, .ref q24, .ref q25, .int km])), (q3, .inl (cI, 48, .inl th)), (q4, .inl (cI, 48, .inl mo)), (q17, .inl (cI, 8, .inl ce)), (q18, .inl (cI, 8, .inl se))] (fun (r : Int32) (u : (Nat → Int32) × (Nat → Int32)) => ((vCell (ro * co) p0) ∧ (True)) ∨ (((-1) = r) ∧ (¬ vCell (ro * co) p0) ∧ (True))) (fun (u : (Nat → Int32) × (Nat → Int32)) => ([(q0, .inr (9, [.int (nI ro), .int (nI co), .int sl, .ref q3, .ref q4, .int sn, .ref q6, .ref q7, .ref q8, .ref q9, .int ts, .int ra, .int rr, .int rw, .ref q14, .ref q15, .int rn, .ref q17, .ref q18, .ref q19, .int um, .int bs, .int bh, .ref q23, .ref q24, .ref q25, .int km])), (q3, .inl (cI, 48, .inl th)), (q4, .inl (cI, 48, .inl mo)), (q17, .inl (cI, 8, .inl u.1)), (q18, .inl (cI, 8, .inl u.2))] : va_W)) :=
  Ci.of (by decide) (Nat.le_of_ble_eq_true rfl) (fun _ _ _ => rfl) (fun X h hR => w_X9_aim X h q0 q3 q4 q6 q7 q8 q9 q14 q15 q17 q18 q19 q23 q24 q25 ro co sl sn ts ra rr rw rn um bs bh km th mo ce se cth cow p0 hrc hco hro hrel hR)
theorem yv_X9_aim : YV yX9_aim cX9_aim 6 (some .int) 1 := ⟨no_X9_aim, nv_X9_aim, ni_X9, nk_X9_aim, by decide +kernel⟩
set_option maxRecDepth 100000 in
set_option maxHeartbeats 4000000 in
theorem w_X9_ownedThen_9 (X : Cx) {cI cE : ClassId} (h : Ok X cX9_ownedThen RX9 6 cI cE 2 0 0) (q0 : Nat) (q3 : Nat) (q4 : Nat) (q6 : Nat) (q7 : Nat) (q8 : Nat) (q9 : Nat) (q14 : Nat) (q15 : Nat) (q17 : Nat) (q18 : Nat) (q19 : Nat) (q23 : Nat) (q24 : Nat) (q25 : Nat) (ro : Nat) (co : Nat) (sl : Int32) (sn : Int32) (ts : Int32) (ra : Int32) (rr : Int32) (rw : Int32) (rn : Int32) (um : Int32) (bs : Int32) (bh : Int32) (km : Int32) (th : Nat → Int32) (mo : Nat → Int32) (ce : Nat → Int32) (se : Nat → Int32) (cth : Nat → Int32) (cow : Nat → Int32) (p0 : Int32) (p1 : Int32) (cl : Nat → Nat) (len : Nat) (hrc : ro * co ≤ 48) (hco : co ≤ 6) (hro : ro ≤ 8) (hrel : rel (ro * co) th mo cth cow) (hc : ∀ k, k < len → ce k = nI (cl k) ∧ cl k < ro * co) (hcn : ∀ k, len ≤ k → k < 8 → ce k = (-4)) (hl : len ≤ ro) (hs : 0 ≤ p0.toInt ∧ p0.toInt < 4) (hR : ∀ (r : Int32) (u : Unit), ((True)) → RetI X cX9_ownedThen 6 0 0 r [(q0, .inr (9, [.int (nI ro), .int (nI co), .int sl, .ref q3, .ref q4, .int sn, .ref q6, .ref q7, .ref q8, .ref q9, .int ts, .int ra, .int rr, .int rw, .ref q14, .ref q15, .int rn, .ref q17, .ref q18, .ref q19, .int um, .int bs, .int bh, .ref q23, .ref q24, .ref q25, .int km])), (q3, .inl (cI, 48, .inl th)), (q4, .inl (cI, 48, .inl mo)), (q17, .inl (cI, 8, .inl ce)), (q18, .inl (cI, 8, .inl se))]) : ∀ (n_9 : Nat) (i : Nat) (n : Int32), (i ≤ ro) → ro - i < n_9 → J X 6 0 0 9 [(0, .ref q0), (1, .int p0), (2, .int p1), (3, .int n), (4, .int (nI i))] [] [(q0, .inr (9, [.int (nI ro), .int (nI co), .int sl, .ref q3, .ref q4, .int sn, .ref q6, .ref q7, .ref q8, .ref q9, .int ts, .int ra, .int rr, .int rw, .ref q14, .ref q15, .int rn, .ref q17, .ref q18, .ref q19, .int um, .int bs, .int bh, .ref q23, .ref q24, .ref q25, .int km])), (q3, .inl (cI, 48, .inl th)), (q4, .inl (cI, 48, .inl mo)), (q17, .inl (cI, 8, .inl ce)), (q18, .inl (cI, 8, .inl se))] := by
  intro n_9
  induction n_9 with
  | zero => intro i n hi hn_; exact absurd hn_ (Nat.not_lt_zero _)
  | succ n_9 ih_9 =>
    intro i n hi hn_9
    refine J_iload h dX9_ownedThen_9 4 rfl ?_
    refine J_aload_n h (i := 0) dX9_ownedThen_11 rfl 0 rfl ?_
    refine J_get h inX9 rfl 0 0 (by decide) rfl rfl nf_X9_60 dX9_ownedThen_12 ?_
    refine N_icmp_ge h 103 dX9_ownedThen_15 (by decide) (by omega) (by omega) (fun c_15 => ?_) (fun c_15 => ?_)
    · skip
      refine J_iload_n h (i := 3) dX9_ownedThen_103 rfl 3 rfl ?_
      exact hR n () (by trivial) 104 _ dX9_ownedThen_104
    · skip
      refine J_aload_n h (i := 0) dX9_ownedThen_18 rfl 0 rfl ?_
      refine J_get h inX9 rfl 0 17 (by decide) rfl rfl nf_X9_34 dX9_ownedThen_19 ?_
      refine J_iload h dX9_ownedThen_22 4 rfl ?_
      refine N_iald h 3 rfl (by decide) (by omega) dX9_ownedThen_24 ?_
      refine J_bipush h (v := (-4)) dX9_ownedThen_25 (by decide) ?_
      refine T_icmp_eq h (A := (ce i).toInt) (B := (-4)) 50 dX9_ownedThen_27 (by decide) (rfl) (by decide) (fun c_27 => ?_) (fun c_27 => ?_)
      · skip
        refine J_iconst h (v := nI 0) dX9_ownedThen_50 (by decide) ?_
        refine J_istore h (lv' := [(5, .int (nI 0)), (0, .ref q0), (1, .int p0), (2, .int p1), (3, .int n), (4, .int (nI i))]) dX9_ownedThen_51 (by decide) rfl ?_
        refine J_iload_n h (i := 3) dX9_ownedThen_53 rfl 4 rfl ?_
        refine J_aload_n h (i := 0) dX9_ownedThen_54 rfl 1 rfl ?_
        refine J_get h inX9 rfl 0 17 (by decide) rfl rfl nf_X9_34 dX9_ownedThen_55 ?_
        refine J_iload h dX9_ownedThen_58 5 rfl ?_
        refine N_iald h 3 rfl (by decide) (by omega) dX9_ownedThen_60 ?_
        refine J_bipush h (v := (-4)) dX9_ownedThen_61 (by decide) ?_
        refine T_icmp_eq h (A := (ce i).toInt) (B := (-4)) 81 dX9_ownedThen_63 (by decide) (rfl) (by decide) (fun c_63 => ?_) (fun c_63 => ?_)
        · skip
          refine J_iconst h (v := nI 0) dX9_ownedThen_81 (by decide) ?_
          refine J_goto h 95 dX9_ownedThen_82 (by decide) ?_
          refine J_iadd h dX9_ownedThen_95 ?_
          refine J_istore_n h (i := 3) (lv' := [(3, .int (n + (nI 0))), (5, .int (nI 0)), (0, .ref q0), (1, .int p0), (2, .int p1), (4, .int (nI i))]) dX9_ownedThen_96 rfl (by decide) rfl ?_
          refine J_iinc h (v := nI (i + 1)) (lv' := [(4, .int (nI (i + 1))), (3, .int (n + (nI 0))), (5, .int (nI 0)), (0, .ref q0), (1, .int p0), (2, .int p1)]) dX9_ownedThen_97 5 rfl (inc_ok _ 1) (by decide) rfl ?_
          refine J_goto h 9 dX9_ownedThen_100 (by decide) ?_
          refine J.loc [3, 4, 5, 1, 0] (lv' := [(0, .ref q0), (1, .int p0), (2, .int p1), (3, .int (n + (nI 0))), (4, .int (nI (i + 1)))]) rfl ?_
          exact ih_9 (i + 1) (n + (nI 0)) (by first | exact hi |  assumption | omega | rfl) (by omega)
        · skip
          refine J_iload h dX9_ownedThen_66 0 rfl ?_
          refine J_iload_n h (i := 1) dX9_ownedThen_68 rfl 2 rfl ?_
          refine J_iload_n h (i := 2) dX9_ownedThen_69 rfl 3 rfl ?_
          refine J_icmp_ne h 77 dX9_ownedThen_70 (by decide) (fun c_70 => ?_) (fun c_70 => ?_)
          · skip
            refine J_iconst h (v := nI 0) dX9_ownedThen_77 (by decide) ?_
            refine J_icmp_ne h 85 dX9_ownedThen_78 (by decide) (fun z => absurd z (by decide)) (fun _ => ?_)
            refine J_iconst h (v := nI 0) dX9_ownedThen_81 (by decide) ?_
            refine J_goto h 95 dX9_ownedThen_82 (by decide) ?_
            refine J_iadd h dX9_ownedThen_95 ?_
            refine J_istore_n h (i := 3) (lv' := [(3, .int (n + (nI 0))), (5, .int (nI 0)), (0, .ref q0), (1, .int p0), (2, .int p1), (4, .int (nI i))]) dX9_ownedThen_96 rfl (by decide) rfl ?_
            refine J_iinc h (v := nI (i + 1)) (lv' := [(4, .int (nI (i + 1))), (3, .int (n + (nI 0))), (5, .int (nI 0)), (0, .ref q0), (1, .int p0), (2, .int p1)]) dX9_ownedThen_97 5 rfl (inc_ok _ 1) (by decide) rfl ?_
            refine J_goto h 9 dX9_ownedThen_100 (by decide) ?_
            refine J.loc [3, 4, 5, 1, 0] (lv' := [(0, .ref q0), (1, .int p0), (2, .int p1), (3, .int (n + (nI 0))), (4, .int (nI (i + 1)))]) rfl ?_
            exact ih_9 (i + 1) (n + (nI 0)) (by first | exact hi |  assumption | omega | rfl) (by omega)
          · skip
            refine J_iconst h (v := nI 1) dX9_ownedThen_73 (by decide) ?_
            refine J_goto h 78 dX9_ownedThen_74 (by decide) ?_
            refine J_icmp_ne h 85 dX9_ownedThen_78 (by decide) (fun _ => ?_) (fun z => absurd z (by decide))
            refine J_iload_n h (i := 1) dX9_ownedThen_85 rfl 2 rfl ?_
            refine J_iload_n h (i := 2) dX9_ownedThen_86 rfl 3 rfl ?_
            refine J_icmp_ne h 94 dX9_ownedThen_87 (by decide) (fun c_87 => ?_) (fun c_87 => ?_)
            · skip
              refine J_iconst h (v := (-1)) dX9_ownedThen_94 (by decide) ?_
              refine J_iadd h dX9_ownedThen_95 ?_
              refine J_istore_n h (i := 3) (lv' := [(3, .int (n + ((-1)))), (5, .int (nI 0)), (0, .ref q0), (1, .int p0), (2, .int p1), (4, .int (nI i))]) dX9_ownedThen_96 rfl (by decide) rfl ?_
              refine J_iinc h (v := nI (i + 1)) (lv' := [(4, .int (nI (i + 1))), (3, .int (n + ((-1)))), (5, .int (nI 0)), (0, .ref q0), (1, .int p0), (2, .int p1)]) dX9_ownedThen_97 5 rfl (inc_ok _ 1) (by decide) rfl ?_
              refine J_goto h 9 dX9_ownedThen_100 (by decide) ?_
              refine J.loc [3, 4, 5, 1, 0] (lv' := [(0, .ref q0), (1, .int p0), (2, .int p1), (3, .int (n + ((-1)))), (4, .int (nI (i + 1)))]) rfl ?_
              exact ih_9 (i + 1) (n + ((-1))) (by first | exact hi |  assumption | omega | rfl) (by omega)
            · skip
              refine J_iconst h (v := nI 1) dX9_ownedThen_90 (by decide) ?_
              refine J_goto h 95 dX9_ownedThen_91 (by decide) ?_
              refine J_iadd h dX9_ownedThen_95 ?_
              refine J_istore_n h (i := 3) (lv' := [(3, .int (n + (nI 1))), (5, .int (nI 0)), (0, .ref q0), (1, .int p0), (2, .int p1), (4, .int (nI i))]) dX9_ownedThen_96 rfl (by decide) rfl ?_
              refine J_iinc h (v := nI (i + 1)) (lv' := [(4, .int (nI (i + 1))), (3, .int (n + (nI 1))), (5, .int (nI 0)), (0, .ref q0), (1, .int p0), (2, .int p1)]) dX9_ownedThen_97 5 rfl (inc_ok _ 1) (by decide) rfl ?_
              refine J_goto h 9 dX9_ownedThen_100 (by decide) ?_
              refine J.loc [3, 4, 5, 1, 0] (lv' := [(0, .ref q0), (1, .int p0), (2, .int p1), (3, .int (n + (nI 1))), (4, .int (nI (i + 1)))]) rfl ?_
              exact ih_9 (i + 1) (n + (nI 1)) (by first | exact hi |  assumption | omega | rfl) (by omega)
      · skip
        have hil := gv_lt hcn (show i < 8 by omega) c_27
        obtain ⟨hc1, hc2⟩ := hc i hil
        refine J_aload_n h (i := 0) dX9_ownedThen_30 rfl 0 rfl ?_
        refine J_get h inX9 rfl 0 4 (by decide) rfl rfl nf_X9_13 dX9_ownedThen_31 ?_
        refine J_aload_n h (i := 0) dX9_ownedThen_34 rfl 0 rfl ?_
        refine J_get h inX9 rfl 0 17 (by decide) rfl rfl nf_X9_34 dX9_ownedThen_35 ?_
        refine J_iload h dX9_ownedThen_38 4 rfl ?_
        refine N_iald h 3 rfl (by decide) (by omega) dX9_ownedThen_40 ?_
        refine J_eqs (st' := [.int (nI (cl i)), .ref q4]) (by rw [hc1]) ?_
        refine N_iald h 2 rfl (by decide) (by omega) dX9_ownedThen_41 ?_
        refine J_iload_n h (i := 1) dX9_ownedThen_42 rfl 1 rfl ?_
        refine J_icmp_ne h 50 dX9_ownedThen_43 (by decide) (fun c_43 => ?_) (fun c_43 => ?_)
        · skip
          refine J_iconst h (v := nI 0) dX9_ownedThen_50 (by decide) ?_
          refine J_istore h (lv' := [(5, .int (nI 0)), (0, .ref q0), (1, .int p0), (2, .int p1), (3, .int n), (4, .int (nI i))]) dX9_ownedThen_51 (by decide) rfl ?_
          refine J_iload_n h (i := 3) dX9_ownedThen_53 rfl 4 rfl ?_
          refine J_aload_n h (i := 0) dX9_ownedThen_54 rfl 1 rfl ?_
          refine J_get h inX9 rfl 0 17 (by decide) rfl rfl nf_X9_34 dX9_ownedThen_55 ?_
          refine J_iload h dX9_ownedThen_58 5 rfl ?_
          refine N_iald h 3 rfl (by decide) (by omega) dX9_ownedThen_60 ?_
          refine J_bipush h (v := (-4)) dX9_ownedThen_61 (by decide) ?_
          refine T_icmp_eq h (A := (ce i).toInt) (B := (-4)) 81 dX9_ownedThen_63 (by decide) (rfl) (by decide) (fun c_63 => ?_) (fun c_63 => ?_)
          · skip
            refine J_iconst h (v := nI 0) dX9_ownedThen_81 (by decide) ?_
            refine J_goto h 95 dX9_ownedThen_82 (by decide) ?_
            refine J_iadd h dX9_ownedThen_95 ?_
            refine J_istore_n h (i := 3) (lv' := [(3, .int (n + (nI 0))), (5, .int (nI 0)), (0, .ref q0), (1, .int p0), (2, .int p1), (4, .int (nI i))]) dX9_ownedThen_96 rfl (by decide) rfl ?_
            refine J_iinc h (v := nI (i + 1)) (lv' := [(4, .int (nI (i + 1))), (3, .int (n + (nI 0))), (5, .int (nI 0)), (0, .ref q0), (1, .int p0), (2, .int p1)]) dX9_ownedThen_97 5 rfl (inc_ok _ 1) (by decide) rfl ?_
            refine J_goto h 9 dX9_ownedThen_100 (by decide) ?_
            refine J.loc [3, 4, 5, 1, 0] (lv' := [(0, .ref q0), (1, .int p0), (2, .int p1), (3, .int (n + (nI 0))), (4, .int (nI (i + 1)))]) rfl ?_
            exact ih_9 (i + 1) (n + (nI 0)) (by first | exact hi |  assumption | omega | rfl) (by omega)
          · skip
            refine J_iload h dX9_ownedThen_66 0 rfl ?_
            refine J_iload_n h (i := 1) dX9_ownedThen_68 rfl 2 rfl ?_
            refine J_iload_n h (i := 2) dX9_ownedThen_69 rfl 3 rfl ?_
            refine J_icmp_ne h 77 dX9_ownedThen_70 (by decide) (fun c_70 => ?_) (fun c_70 => ?_)
            · skip
              refine J_iconst h (v := nI 0) dX9_ownedThen_77 (by decide) ?_
              refine J_icmp_ne h 85 dX9_ownedThen_78 (by decide) (fun z => absurd z (by decide)) (fun _ => ?_)
              refine J_iconst h (v := nI 0) dX9_ownedThen_81 (by decide) ?_
              refine J_goto h 95 dX9_ownedThen_82 (by decide) ?_
              refine J_iadd h dX9_ownedThen_95 ?_
              refine J_istore_n h (i := 3) (lv' := [(3, .int (n + (nI 0))), (5, .int (nI 0)), (0, .ref q0), (1, .int p0), (2, .int p1), (4, .int (nI i))]) dX9_ownedThen_96 rfl (by decide) rfl ?_
              refine J_iinc h (v := nI (i + 1)) (lv' := [(4, .int (nI (i + 1))), (3, .int (n + (nI 0))), (5, .int (nI 0)), (0, .ref q0), (1, .int p0), (2, .int p1)]) dX9_ownedThen_97 5 rfl (inc_ok _ 1) (by decide) rfl ?_
              refine J_goto h 9 dX9_ownedThen_100 (by decide) ?_
              refine J.loc [3, 4, 5, 1, 0] (lv' := [(0, .ref q0), (1, .int p0), (2, .int p1), (3, .int (n + (nI 0))), (4, .int (nI (i + 1)))]) rfl ?_
              exact ih_9 (i + 1) (n + (nI 0)) (by first | exact hi |  assumption | omega | rfl) (by omega)
            · skip
              refine J_iconst h (v := nI 1) dX9_ownedThen_73 (by decide) ?_
              refine J_goto h 78 dX9_ownedThen_74 (by decide) ?_
              refine J_icmp_ne h 85 dX9_ownedThen_78 (by decide) (fun _ => ?_) (fun z => absurd z (by decide))
              refine J_iload_n h (i := 1) dX9_ownedThen_85 rfl 2 rfl ?_
              refine J_iload_n h (i := 2) dX9_ownedThen_86 rfl 3 rfl ?_
              refine J_icmp_ne h 94 dX9_ownedThen_87 (by decide) (fun c_87 => ?_) (fun c_87 => ?_)
              · skip
                refine J_iconst h (v := (-1)) dX9_ownedThen_94 (by decide) ?_
                refine J_iadd h dX9_ownedThen_95 ?_
                refine J_istore_n h (i := 3) (lv' := [(3, .int (n + ((-1)))), (5, .int (nI 0)), (0, .ref q0), (1, .int p0), (2, .int p1), (4, .int (nI i))]) dX9_ownedThen_96 rfl (by decide) rfl ?_
                refine J_iinc h (v := nI (i + 1)) (lv' := [(4, .int (nI (i + 1))), (3, .int (n + ((-1)))), (5, .int (nI 0)), (0, .ref q0), (1, .int p0), (2, .int p1)]) dX9_ownedThen_97 5 rfl (inc_ok _ 1) (by decide) rfl ?_
                refine J_goto h 9 dX9_ownedThen_100 (by decide) ?_
                refine J.loc [3, 4, 5, 1, 0] (lv' := [(0, .ref q0), (1, .int p0), (2, .int p1), (3, .int (n + ((-1)))), (4, .int (nI (i + 1)))]) rfl ?_
                exact ih_9 (i + 1) (n + ((-1))) (by first | exact hi |  assumption | omega | rfl) (by omega)
              · skip
                refine J_iconst h (v := nI 1) dX9_ownedThen_90 (by decide) ?_
                refine J_goto h 95 dX9_ownedThen_91 (by decide) ?_
                refine J_iadd h dX9_ownedThen_95 ?_
                refine J_istore_n h (i := 3) (lv' := [(3, .int (n + (nI 1))), (5, .int (nI 0)), (0, .ref q0), (1, .int p0), (2, .int p1), (4, .int (nI i))]) dX9_ownedThen_96 rfl (by decide) rfl ?_
                refine J_iinc h (v := nI (i + 1)) (lv' := [(4, .int (nI (i + 1))), (3, .int (n + (nI 1))), (5, .int (nI 0)), (0, .ref q0), (1, .int p0), (2, .int p1)]) dX9_ownedThen_97 5 rfl (inc_ok _ 1) (by decide) rfl ?_
                refine J_goto h 9 dX9_ownedThen_100 (by decide) ?_
                refine J.loc [3, 4, 5, 1, 0] (lv' := [(0, .ref q0), (1, .int p0), (2, .int p1), (3, .int (n + (nI 1))), (4, .int (nI (i + 1)))]) rfl ?_
                exact ih_9 (i + 1) (n + (nI 1)) (by first | exact hi |  assumption | omega | rfl) (by omega)
        · skip
          refine J_iconst h (v := nI 1) dX9_ownedThen_46 (by decide) ?_
          refine J_goto h 51 dX9_ownedThen_47 (by decide) ?_
          refine J_istore h (lv' := [(5, .int (nI 1)), (0, .ref q0), (1, .int p0), (2, .int p1), (3, .int n), (4, .int (nI i))]) dX9_ownedThen_51 (by decide) rfl ?_
          refine J_iload_n h (i := 3) dX9_ownedThen_53 rfl 4 rfl ?_
          refine J_aload_n h (i := 0) dX9_ownedThen_54 rfl 1 rfl ?_
          refine J_get h inX9 rfl 0 17 (by decide) rfl rfl nf_X9_34 dX9_ownedThen_55 ?_
          refine J_iload h dX9_ownedThen_58 5 rfl ?_
          refine N_iald h 3 rfl (by decide) (by omega) dX9_ownedThen_60 ?_
          refine J_bipush h (v := (-4)) dX9_ownedThen_61 (by decide) ?_
          refine T_icmp_eq h (A := (ce i).toInt) (B := (-4)) 81 dX9_ownedThen_63 (by decide) (rfl) (by decide) (fun c_63 => ?_) (fun c_63 => ?_)
          · skip
            refine J_iconst h (v := nI 0) dX9_ownedThen_81 (by decide) ?_
            refine J_goto h 95 dX9_ownedThen_82 (by decide) ?_
            refine J_iadd h dX9_ownedThen_95 ?_
            refine J_istore_n h (i := 3) (lv' := [(3, .int (n + (nI 0))), (5, .int (nI 1)), (0, .ref q0), (1, .int p0), (2, .int p1), (4, .int (nI i))]) dX9_ownedThen_96 rfl (by decide) rfl ?_
            refine J_iinc h (v := nI (i + 1)) (lv' := [(4, .int (nI (i + 1))), (3, .int (n + (nI 0))), (5, .int (nI 1)), (0, .ref q0), (1, .int p0), (2, .int p1)]) dX9_ownedThen_97 5 rfl (inc_ok _ 1) (by decide) rfl ?_
            refine J_goto h 9 dX9_ownedThen_100 (by decide) ?_
            refine J.loc [3, 4, 5, 1, 0] (lv' := [(0, .ref q0), (1, .int p0), (2, .int p1), (3, .int (n + (nI 0))), (4, .int (nI (i + 1)))]) rfl ?_
            exact ih_9 (i + 1) (n + (nI 0)) (by first | exact hi |  assumption | omega | rfl) (by omega)
          · skip
            refine J_iload h dX9_ownedThen_66 0 rfl ?_
            refine J_iload_n h (i := 1) dX9_ownedThen_68 rfl 2 rfl ?_
            refine J_iload_n h (i := 2) dX9_ownedThen_69 rfl 3 rfl ?_
            refine J_icmp_ne h 77 dX9_ownedThen_70 (by decide) (fun c_70 => ?_) (fun c_70 => ?_)
            · skip
              refine J_iconst h (v := nI 0) dX9_ownedThen_77 (by decide) ?_
              refine J_icmp_ne h 85 dX9_ownedThen_78 (by decide) (fun _ => ?_) (fun z => absurd z (by decide))
              refine J_iload_n h (i := 1) dX9_ownedThen_85 rfl 2 rfl ?_
              refine J_iload_n h (i := 2) dX9_ownedThen_86 rfl 3 rfl ?_
              refine J_icmp_ne h 94 dX9_ownedThen_87 (by decide) (fun c_87 => ?_) (fun c_87 => ?_)
              · skip
                refine J_iconst h (v := (-1)) dX9_ownedThen_94 (by decide) ?_
                refine J_iadd h dX9_ownedThen_95 ?_
                refine J_istore_n h (i := 3) (lv' := [(3, .int (n + ((-1)))), (5, .int (nI 1)), (0, .ref q0), (1, .int p0), (2, .int p1), (4, .int (nI i))]) dX9_ownedThen_96 rfl (by decide) rfl ?_
                refine J_iinc h (v := nI (i + 1)) (lv' := [(4, .int (nI (i + 1))), (3, .int (n + ((-1)))), (5, .int (nI 1)), (0, .ref q0), (1, .int p0), (2, .int p1)]) dX9_ownedThen_97 5 rfl (inc_ok _ 1) (by decide) rfl ?_
                refine J_goto h 9 dX9_ownedThen_100 (by decide) ?_
                refine J.loc [3, 4, 5, 1, 0] (lv' := [(0, .ref q0), (1, .int p0), (2, .int p1), (3, .int (n + ((-1)))), (4, .int (nI (i + 1)))]) rfl ?_
                exact ih_9 (i + 1) (n + ((-1))) (by first | exact hi |  assumption | omega | rfl) (by omega)
              · skip
                refine J_iconst h (v := nI 1) dX9_ownedThen_90 (by decide) ?_
                refine J_goto h 95 dX9_ownedThen_91 (by decide) ?_
                refine J_iadd h dX9_ownedThen_95 ?_
                refine J_istore_n h (i := 3) (lv' := [(3, .int (n + (nI 1))), (5, .int (nI 1)), (0, .ref q0), (1, .int p0), (2, .int p1), (4, .int (nI i))]) dX9_ownedThen_96 rfl (by decide) rfl ?_
                refine J_iinc h (v := nI (i + 1)) (lv' := [(4, .int (nI (i + 1))), (3, .int (n + (nI 1))), (5, .int (nI 1)), (0, .ref q0), (1, .int p0), (2, .int p1)]) dX9_ownedThen_97 5 rfl (inc_ok _ 1) (by decide) rfl ?_
                refine J_goto h 9 dX9_ownedThen_100 (by decide) ?_
                refine J.loc [3, 4, 5, 1, 0] (lv' := [(0, .ref q0), (1, .int p0), (2, .int p1), (3, .int (n + (nI 1))), (4, .int (nI (i + 1)))]) rfl ?_
                exact ih_9 (i + 1) (n + (nI 1)) (by first | exact hi |  assumption | omega | rfl) (by omega)
            · skip
              refine J_iconst h (v := nI 1) dX9_ownedThen_73 (by decide) ?_
              refine J_goto h 78 dX9_ownedThen_74 (by decide) ?_
              refine J_icmp_ne h 85 dX9_ownedThen_78 (by decide) (fun z => absurd z (by decide)) (fun _ => ?_)
              refine J_iconst h (v := nI 0) dX9_ownedThen_81 (by decide) ?_
              refine J_goto h 95 dX9_ownedThen_82 (by decide) ?_
              refine J_iadd h dX9_ownedThen_95 ?_
              refine J_istore_n h (i := 3) (lv' := [(3, .int (n + (nI 0))), (5, .int (nI 1)), (0, .ref q0), (1, .int p0), (2, .int p1), (4, .int (nI i))]) dX9_ownedThen_96 rfl (by decide) rfl ?_
              refine J_iinc h (v := nI (i + 1)) (lv' := [(4, .int (nI (i + 1))), (3, .int (n + (nI 0))), (5, .int (nI 1)), (0, .ref q0), (1, .int p0), (2, .int p1)]) dX9_ownedThen_97 5 rfl (inc_ok _ 1) (by decide) rfl ?_
              refine J_goto h 9 dX9_ownedThen_100 (by decide) ?_
              refine J.loc [3, 4, 5, 1, 0] (lv' := [(0, .ref q0), (1, .int p0), (2, .int p1), (3, .int (n + (nI 0))), (4, .int (nI (i + 1)))]) rfl ?_
              exact ih_9 (i + 1) (n + (nI 0)) (by first | exact hi |  assumption | omega | rfl) (by omega)
set_option maxRecDepth 100000 in
set_option maxHeartbeats 4000000 in
theorem w_X9_ownedThen (X : Cx) {cI cE : ClassId} (h : Ok X cX9_ownedThen RX9 6 cI cE 2 0 0) (q0 : Nat) (q3 : Nat) (q4 : Nat) (q6 : Nat) (q7 : Nat) (q8 : Nat) (q9 : Nat) (q14 : Nat) (q15 : Nat) (q17 : Nat) (q18 : Nat) (q19 : Nat) (q23 : Nat) (q24 : Nat) (q25 : Nat) (ro : Nat) (co : Nat) (sl : Int32) (sn : Int32) (ts : Int32) (ra : Int32) (rr : Int32) (rw : Int32) (rn : Int32) (um : Int32) (bs : Int32) (bh : Int32) (km : Int32) (th : Nat → Int32) (mo : Nat → Int32) (ce : Nat → Int32) (se : Nat → Int32) (cth : Nat → Int32) (cow : Nat → Int32) (p0 : Int32) (p1 : Int32) (cl : Nat → Nat) (len : Nat) (hrc : ro * co ≤ 48) (hco : co ≤ 6) (hro : ro ≤ 8) (hrel : rel (ro * co) th mo cth cow) (hc : ∀ k, k < len → ce k = nI (cl k) ∧ cl k < ro * co) (hcn : ∀ k, len ≤ k → k < 8 → ce k = (-4)) (hl : len ≤ ro) (hs : 0 ≤ p0.toInt ∧ p0.toInt < 4) (hR : ∀ (r : Int32) (u : Unit), ((True)) → RetI X cX9_ownedThen 6 0 0 r [(q0, .inr (9, [.int (nI ro), .int (nI co), .int sl, .ref q3, .ref q4, .int sn, .ref q6, .ref q7, .ref q8, .ref q9, .int ts, .int ra, .int rr, .int rw, .ref q14, .ref q15, .int rn, .ref q17, .ref q18, .ref q19, .int um, .int bs, .int bh, .ref q23, .ref q24, .ref q25, .int km])), (q3, .inl (cI, 48, .inl th)), (q4, .inl (cI, 48, .inl mo)), (q17, .inl (cI, 8, .inl ce)), (q18, .inl (cI, 8, .inl se))]) : J X 6 0 0 0 [(0, .ref q0), (1, .int p0), (2, .int p1)] [] [(q0, .inr (9, [.int (nI ro), .int (nI co), .int sl, .ref q3, .ref q4, .int sn, .ref q6, .ref q7, .ref q8, .ref q9, .int ts, .int ra, .int rr, .int rw, .ref q14, .ref q15, .int rn, .ref q17, .ref q18, .ref q19, .int um, .int bs, .int bh, .ref q23, .ref q24, .ref q25, .int km])), (q3, .inl (cI, 48, .inl th)), (q4, .inl (cI, 48, .inl mo)), (q17, .inl (cI, 8, .inl ce)), (q18, .inl (cI, 8, .inl se))] := by
  refine J_aload_n h (i := 0) dX9_ownedThen_0 rfl 0 rfl ?_
  refine J_iload_n h (i := 1) dX9_ownedThen_1 rfl 1 rfl ?_
  refine K_vi h (wr := [(q17, .inl (cI, 8, .inl ce)), (q18, .inl (cI, 8, .inl se))]) (c_X9_owned (xl X) (xD X) cI cE q0 q3 q4 q6 q7 q8 q9 q14 q15 q17 q18 q19 q23 q24 q25 ro co sl sn ts ra rr rw rn um bs bh km th mo cth cow p0 (by first | exact hrc |  assumption | omega | rfl) (by first | exact hco |  assumption | omega | rfl) (by first | exact hro |  assumption | omega | rfl) (by first | exact hrel |  assumption | omega | rfl) (by first | exact hs |  assumption | omega | rfl)) yv_X9_owned nm_X9_144 (by decide) (by decide) rfl rfl 0 rfl rfl rfl rfl (Nat.le_of_ble_eq_true rfl) (Nat.le_refl _) (Nat.le_refl _) dX9_ownedThen_2 (fun r_2 u_2 p_2 => ?_)
  obtain ⟨rfl, -⟩ := p_2
  show J X 6 0 0 5 [(0, .ref q0), (1, .int p0), (2, .int p1)] [.int (nI (cntP (fun k => decide (cow k = p0)) (ro * co)))] [(q0, .inr (9, [.int (nI ro), .int (nI co), .int sl, .ref q3, .ref q4, .int sn, .ref q6, .ref q7, .ref q8, .ref q9, .int ts, .int ra, .int rr, .int rw, .ref q14, .ref q15, .int rn, .ref q17, .ref q18, .ref q19, .int um, .int bs, .int bh, .ref q23, .ref q24, .ref q25, .int km])), (q3, .inl (cI, 48, .inl th)), (q4, .inl (cI, 48, .inl mo)), (q17, .inl (cI, 8, .inl ce)), (q18, .inl (cI, 8, .inl se))]
  refine J_istore_n h (i := 3) (lv' := [(3, .int (nI (cntP (fun k => decide (cow k = p0)) (ro * co)))), (0, .ref q0), (1, .int p0), (2, .int p1)]) dX9_ownedThen_5 rfl (by decide) rfl ?_
  refine J_iconst h (v := nI 0) dX9_ownedThen_6 (by decide) ?_
  refine J_istore h (lv' := [(4, .int (nI 0)), (3, .int (nI (cntP (fun k => decide (cow k = p0)) (ro * co)))), (0, .ref q0), (1, .int p0), (2, .int p1)]) dX9_ownedThen_7 (by decide) rfl ?_
  refine J.loc [2, 3, 4, 1, 0] (lv' := [(0, .ref q0), (1, .int p0), (2, .int p1), (3, .int (nI (cntP (fun k => decide (cow k = p0)) (ro * co)))), (4, .int (nI 0))]) rfl ?_
  exact w_X9_ownedThen_9 X h q0 q3 q4 q6 q7 q8 q9 q14 q15 q17 q18 q19 q23 q24 q25 ro co sl sn ts ra rr rw rn um bs bh km th mo ce se cth cow p0 p1 cl len hrc hco hro hrel hc hcn hl hs hR  (ro - 0 + 1) 0 (nI (cntP (fun k => decide (cow k = p0)) (ro * co))) (by first | assumption | omega | rfl) (by omega)
theorem c_X9_ownedThen (l : Launch) (D : va_G) (cI cE : ClassId) (q0 : Nat) (q3 : Nat) (q4 : Nat) (q6 : Nat) (q7 : Nat) (q8 : Nat) (q9 : Nat) (q14 : Nat) (q15 : Nat) (q17 : Nat) (q18 : Nat) (q19 : Nat) (q23 : Nat) (q24 : Nat) (q25 : Nat) (ro : Nat) (co : Nat) (sl : Int32) (sn : Int32) (ts : Int32) (ra : Int32) (rr : Int32) (rw : Int32) (rn : Int32) (um : Int32) (bs : Int32) (bh : Int32) (km : Int32) (th : Nat → Int32) (mo : Nat → Int32) (ce : Nat → Int32) (se : Nat → Int32) (cth : Nat → Int32) (cow : Nat → Int32) (p0 : Int32) (p1 : Int32) (cl : Nat → Nat) (len : Nat) (hrc : ro * co ≤ 48) (hco : co ≤ 6) (hro : ro ≤ 8) (hrel : rel (ro * co) th mo cth cow) (hc : ∀ k, k < len → ce k = nI (cl k) ∧ cl k < ro * co) (hcn : ∀ k, len ≤ k → k < 8 → ce k = (-4)) (hl : len ≤ ro) (hs : 0 ≤ p0.toInt ∧ p0.toInt < 4) : Ci l D cI cE yX9_ownedThen cX9_ownedThen 6 (some .int) 2 0 0 [.ref q0, .int p0, .int p1] [(q0, .inr (9, [.int (nI ro), .int (nI co), .int sl, .ref q3, .ref q4, .int sn, .ref q6, .ref q7, .ref q8, .ref q9, .int ts, .int ra, .int rr, .int rw, .ref q14, .ref q15, .int rn, .ref q17, .ref q18, .ref q19, .int um, .int bs, .int bh, .ref q23, .ref q24, .ref q25, .int km])), (q3, .inl (cI, 48, .inl th)), (q4, .inl (cI, 48, .inl mo)), (q17, .inl (cI, 8, .inl ce)), (q18, .inl (cI, 8, .inl se))] (fun (r : Int32) (u : Unit) => ((True))) (fun (u : Unit) => ([(q0, .inr (9, [.int (nI ro), .int (nI co), .int sl, .ref q3, .ref q4, .int sn, .ref q6, .ref q7, .ref q8, .ref q9, .int ts, .int ra, .int rr, .int rw, .ref q14, .ref q15, .int rn, .ref q17, .ref q18, .ref q19, .int um, .int bs, .int bh, .ref q23, .ref q24, .ref q25, .int km])), (q3, .inl (cI, 48, .inl th)), (q4, .inl (cI, 48, .inl mo)), (q17, .inl (cI, 8, .inl ce)), (q18, .inl (cI, 8, .inl se))] : va_W)) :=
  Ci.of (by decide) (Nat.le_of_ble_eq_true rfl) (fun _ _ _ => rfl) (fun X h hR => w_X9_ownedThen X h q0 q3 q4 q6 q7 q8 q9 q14 q15 q17 q18 q19 q23 q24 q25 ro co sl sn ts ra rr rw rn um bs bh km th mo ce se cth cow p0 p1 cl len hrc hco hro hrel hc hcn hl hs hR)
theorem yv_X9_ownedThen : YV yX9_ownedThen cX9_ownedThen 6 (some .int) 2 := ⟨no_X9_ownedThen, nv_X9_ownedThen, ni_X9, nk_X9_ownedThen, by decide +kernel⟩
