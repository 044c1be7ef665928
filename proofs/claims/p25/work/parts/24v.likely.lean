set_option maxRecDepth 100000 in
set_option maxHeartbeats 4000000 in
theorem w_X2_startS_2 (X : Cx) {cI cE : ClassId} (h : Ok X cX2_start RX2 3 cI cE 0 0 0) (o0 : Nat) (o1 : Nat) (o2 : Nat) (wa : Nat → Int32) (nw : Nat → Int32) (ab : Int32) (be : Int32) (p0 : Nat) (hp0 : p0 ≤ 20) (hR : ∀ (u : (Nat → Int32)), ((∀ v, v < 21 → u v = nI (if v = p0 then 1 else 0)) ∧ (True)) → RetV X cX2_start 3 0 0 [(o0, .inr (2, [.ref o1, .ref o2, .int ab, .int be])), (o1, .inl (cI, 21, .inl u)), (o2, .inl (cI, 21, .inl nw))]) : ∀ (n_2 : Nat) (i : Nat) (wa1 : Nat → Int32), (i ≤ 21) → (∀ v, v < i → wa1 v = nI (if v = p0 then 1 else 0)) → 21 - i < n_2 → J X 3 0 0 2 [(0, .ref o0), (1, .int (nI p0)), (2, .int (nI i))] [] [(o0, .inr (2, [.ref o1, .ref o2, .int ab, .int be])), (o1, .inl (cI, 21, .inl wa1)), (o2, .inl (cI, 21, .inl nw))] := by
  intro n_2
  induction n_2 with
  | zero => intro i wa1 hi hv hn_; exact absurd hn_ (Nat.not_lt_zero _)
  | succ n_2 ih_2 =>
    intro i wa1 hi hv hn_2
    refine J_iload_n h (i := 2) dX2_start_2 rfl 2 rfl ?_
    refine J_bipush h (v := nI 20) dX2_start_3 (by decide) ?_
    refine N_icmp_gt h 30 dX2_start_5 (by decide) (by omega) (by omega) (fun c_5 => ?_) (fun c_5 => ?_)
    · skip
      exact hR wa1 (⟨(by intro v hv1; exact hv v (by omega)), trivial⟩) 30 _ dX2_start_30
    · skip
      refine J_aload_n h (i := 0) dX2_start_8 rfl 0 rfl ?_
      refine J_get h inX2 rfl 0 0 (by decide) rfl rfl nf_X2_9 dX2_start_9 ?_
      refine J_iload_n h (i := 2) dX2_start_12 rfl 2 rfl ?_
      refine J_iload_n h (i := 2) dX2_start_13 rfl 2 rfl ?_
      refine J_iload_n h (i := 1) dX2_start_14 rfl 1 rfl ?_
      refine N_icmp_ne h 22 dX2_start_15 (by decide) (by omega) (by omega) (fun c_15 => ?_) (fun c_15 => ?_)
      · skip
        refine J_iconst h (v := nI 0) dX2_start_22 (by decide) ?_
        refine N_iast h (ws' := [(o0, .inr (2, [.ref o1, .ref o2, .int ab, .int be])), (o1, .inl (cI, 21, .inl (upd wa1 i (nI 0)))), (o2, .inl (cI, 21, .inl nw))]) 1 rfl (by decide) (by omega) dX2_start_23 rfl ?_
        refine J_iinc h (v := nI (i + 1)) (lv' := [(2, .int (nI (i + 1))), (0, .ref o0), (1, .int (nI p0))]) dX2_start_24 2 rfl (inc_ok _ 1) (by decide) rfl ?_
        refine J_goto h 2 dX2_start_27 (by decide) ?_
        refine J.loc [1, 2, 0] (lv' := [(0, .ref o0), (1, .int (nI p0)), (2, .int (nI (i + 1)))]) rfl ?_
        exact ih_2 (i + 1) (upd wa1 i (nI 0)) (by first | exact hi |  assumption | omega | rfl) (by first | exact upd_extN (g := fun v => nI (if v = p0 then 1 else 0)) hv (by show _ = nI (if i = p0 then 1 else 0); rw [if_pos c_15]) | exact upd_extN (g := fun v => nI (if v = p0 then 1 else 0)) hv (by show _ = nI (if i = p0 then 1 else 0); rw [if_neg c_15])) (by omega)
      · skip
        refine J_iconst h (v := nI 1) dX2_start_18 (by decide) ?_
        refine J_goto h 23 dX2_start_19 (by decide) ?_
        refine N_iast h (ws' := [(o0, .inr (2, [.ref o1, .ref o2, .int ab, .int be])), (o1, .inl (cI, 21, .inl (upd wa1 i (nI 1)))), (o2, .inl (cI, 21, .inl nw))]) 1 rfl (by decide) (by omega) dX2_start_23 rfl ?_
        refine J_iinc h (v := nI (i + 1)) (lv' := [(2, .int (nI (i + 1))), (0, .ref o0), (1, .int (nI p0))]) dX2_start_24 2 rfl (inc_ok _ 1) (by decide) rfl ?_
        refine J_goto h 2 dX2_start_27 (by decide) ?_
        refine J.loc [1, 2, 0] (lv' := [(0, .ref o0), (1, .int (nI p0)), (2, .int (nI (i + 1)))]) rfl ?_
        exact ih_2 (i + 1) (upd wa1 i (nI 1)) (by first | exact hi |  assumption | omega | rfl) (by first | exact upd_extN (g := fun v => nI (if v = p0 then 1 else 0)) hv (by show _ = nI (if i = p0 then 1 else 0); rw [if_pos c_15]) | exact upd_extN (g := fun v => nI (if v = p0 then 1 else 0)) hv (by show _ = nI (if i = p0 then 1 else 0); rw [if_neg c_15])) (by omega)
set_option maxRecDepth 100000 in
set_option maxHeartbeats 4000000 in
theorem w_X2_startS (X : Cx) {cI cE : ClassId} (h : Ok X cX2_start RX2 3 cI cE 0 0 0) (o0 : Nat) (o1 : Nat) (o2 : Nat) (wa : Nat → Int32) (nw : Nat → Int32) (ab : Int32) (be : Int32) (p0 : Nat) (hp0 : p0 ≤ 20) (hR : ∀ (u : (Nat → Int32)), ((∀ v, v < 21 → u v = nI (if v = p0 then 1 else 0)) ∧ (True)) → RetV X cX2_start 3 0 0 [(o0, .inr (2, [.ref o1, .ref o2, .int ab, .int be])), (o1, .inl (cI, 21, .inl u)), (o2, .inl (cI, 21, .inl nw))]) : J X 3 0 0 0 [(0, .ref o0), (1, .int (nI p0))] [] [(o0, .inr (2, [.ref o1, .ref o2, .int ab, .int be])), (o1, .inl (cI, 21, .inl wa)), (o2, .inl (cI, 21, .inl nw))] := by
  refine J_iconst h (v := nI 0) dX2_start_0 (by decide) ?_
  refine J_istore_n h (i := 2) (lv' := [(2, .int (nI 0)), (0, .ref o0), (1, .int (nI p0))]) dX2_start_1 rfl (by decide) rfl ?_
  refine J.loc [1, 2, 0] (lv' := [(0, .ref o0), (1, .int (nI p0)), (2, .int (nI 0))]) rfl ?_
  exact w_X2_startS_2 X h o0 o1 o2 wa nw ab be p0 hp0 hR  (21 - 0 + 1) 0 wa (by first | assumption | omega | rfl) (by intro v hv; omega) (by omega)
theorem c_X2_startS (l : Launch) (D : va_G) (cI cE : ClassId) (o0 : Nat) (o1 : Nat) (o2 : Nat) (wa : Nat → Int32) (nw : Nat → Int32) (ab : Int32) (be : Int32) (p0 : Nat) (hp0 : p0 ≤ 20) : Cv l D cI cE yX2_start cX2_start 3 none 0 0 0 [.ref o0, .int (nI p0)] [(o0, .inr (2, [.ref o1, .ref o2, .int ab, .int be])), (o1, .inl (cI, 21, .inl wa)), (o2, .inl (cI, 21, .inl nw))] (fun (u : (Nat → Int32)) => ((∀ v, v < 21 → u v = nI (if v = p0 then 1 else 0)) ∧ (True))) (fun (u : (Nat → Int32)) => ([(o0, .inr (2, [.ref o1, .ref o2, .int ab, .int be])), (o1, .inl (cI, 21, .inl u)), (o2, .inl (cI, 21, .inl nw))] : va_W)) :=
  Cv.of (by decide) (Nat.le_of_ble_eq_true rfl) (fun X h hR _ => w_X2_startS X h o0 o1 o2 wa nw ab be p0 hp0 hR)
set_option maxRecDepth 100000 in
set_option maxHeartbeats 4000000 in
theorem w_X2_passRowS_74 (X : Cx) {cI cE : ClassId} (h : Ok X cX2_passRow RX2 4 cI cE 2 0 0) (o0 : Nat) (o1 : Nat) (o2 : Nat) (wa : Nat → Int32) (nw : Nat → Int32) (ab : Int32) (be : Int32) (p0 : Int32) (p1 : Nat) (W : Nat → Nat) (hp1 : p1 ≤ 10) (hW : ∀ v, v < 21 → wa v = nI (W v)) (hW0 : W 0 = 0) (hR : ∀ (u : (Nat → Int32) × (Nat → Int32)), ((∀ v, v < 21 → u.1 v = nI (psS p0 p1 W 21 v)) ∧ (True)) → RetV X cX2_passRow 4 0 0 [(o0, .inr (2, [.ref o1, .ref o2, .int ab, .int be])), (o1, .inl (cI, 21, .inl u.1)), (o2, .inl (cI, 21, .inl u.2))]) : ∀ (n_74 : Nat) (i : Nat) (wa1 : Nat → Int32) (nw1 : Nat → Int32), (i ≤ 21) → (∀ v, v < 21 → nw1 v = nI (psS p0 p1 W 21 v)) → (∀ v, v < i → wa1 v = nI (psS p0 p1 W 21 v)) → 21 - i < n_74 → J X 4 0 0 74 [(0, .ref o0), (3, .int (nI i))] [] [(o0, .inr (2, [.ref o1, .ref o2, .int ab, .int be])), (o1, .inl (cI, 21, .inl wa1)), (o2, .inl (cI, 21, .inl nw1))] := by
  intro n_74
  induction n_74 with
  | zero => intro i wa1 nw1 hi hn hv hn_; exact absurd hn_ (Nat.not_lt_zero _)
  | succ n_74 ih_74 =>
    intro i wa1 nw1 hi hn hv hn_74
    refine J_iload_n h (i := 3) dX2_passRow_74 rfl 1 rfl ?_
    refine J_bipush h (v := nI 20) dX2_passRow_75 (by decide) ?_
    refine N_icmp_gt h 98 dX2_passRow_77 (by decide) (by omega) (by omega) (fun c_77 => ?_) (fun c_77 => ?_)
    · skip
      exact hR (wa1, nw1) (⟨(by (try dsimp only); intro v hv1; exact hv v (by omega)), trivial⟩) 98 _ dX2_passRow_98
    · skip
      refine J_aload_n h (i := 0) dX2_passRow_80 rfl 0 rfl ?_
      refine J_get h inX2 rfl 0 0 (by decide) rfl rfl nf_X2_9 dX2_passRow_81 ?_
      refine J_iload_n h (i := 3) dX2_passRow_84 rfl 1 rfl ?_
      refine J_aload_n h (i := 0) dX2_passRow_85 rfl 0 rfl ?_
      refine J_get h inX2 rfl 0 1 (by decide) rfl rfl nf_X2_15 dX2_passRow_86 ?_
      refine J_iload_n h (i := 3) dX2_passRow_89 rfl 1 rfl ?_
      refine N_iald h 2 rfl (by decide) (by omega) dX2_passRow_90 ?_
      refine N_iast h (ws' := [(o0, .inr (2, [.ref o1, .ref o2, .int ab, .int be])), (o1, .inl (cI, 21, .inl (upd wa1 i (nw1 i)))), (o2, .inl (cI, 21, .inl nw1))]) 1 rfl (by decide) (by omega) dX2_passRow_91 rfl ?_
      refine J_iinc h (v := nI (i + 1)) (lv' := [(3, .int (nI (i + 1))), (0, .ref o0)]) dX2_passRow_92 1 rfl (inc_ok _ 1) (by decide) rfl ?_
      refine J_goto h 74 dX2_passRow_95 (by decide) ?_
      refine J.loc [1, 0] (lv' := [(0, .ref o0), (3, .int (nI (i + 1)))]) rfl ?_
      exact ih_74 (i + 1) (upd wa1 i (nw1 i)) nw1 (by first | exact hi |  assumption | omega | rfl) (by exact hn) (by exact upd_extN (g := fun v => nI (psS p0 p1 W 21 v)) hv (hn i (by omega))) (by omega)
set_option maxRecDepth 100000 in
set_option maxHeartbeats 4000000 in
theorem w_X2_passRowS_23 (X : Cx) {cI cE : ClassId} (h : Ok X cX2_passRow RX2 4 cI cE 2 0 0) (o0 : Nat) (o1 : Nat) (o2 : Nat) (wa : Nat → Int32) (nw : Nat → Int32) (ab : Int32) (be : Int32) (p0 : Int32) (p1 : Nat) (W : Nat → Nat) (hp1 : p1 ≤ 10) (hW : ∀ v, v < 21 → wa v = nI (W v)) (hW0 : W 0 = 0) (hR : ∀ (u : (Nat → Int32) × (Nat → Int32)), ((∀ v, v < 21 → u.1 v = nI (psS p0 p1 W 21 v)) ∧ (True)) → RetV X cX2_passRow 4 0 0 [(o0, .inr (2, [.ref o1, .ref o2, .int ab, .int be])), (o1, .inl (cI, 21, .inl u.1)), (o2, .inl (cI, 21, .inl u.2))]) : ∀ (n_23 : Nat) (i : Nat) (nw1 : Nat → Int32), (1 ≤ i ∧ i ≤ 21) → (∀ v, v < 21 → nw1 v = nI (psS p0 p1 W i v)) → 21 - i < n_23 → J X 4 0 0 23 [(0, .ref o0), (1, .int p0), (2, .int (nI p1)), (3, .int (nI i))] [] [(o0, .inr (2, [.ref o1, .ref o2, .int ab, .int be])), (o1, .inl (cI, 21, .inl wa)), (o2, .inl (cI, 21, .inl nw1))] := by
  intro n_23
  induction n_23 with
  | zero => intro i nw1 hi hn hn_; exact absurd hn_ (Nat.not_lt_zero _)
  | succ n_23 ih_23 =>
    intro i nw1 hi hn hn_23
    refine J_iload_n h (i := 3) dX2_passRow_23 rfl 3 rfl ?_
    refine J_bipush h (v := nI 20) dX2_passRow_24 (by decide) ?_
    refine N_icmp_gt h 72 dX2_passRow_26 (by decide) (by omega) (by omega) (fun c_26 => ?_) (fun c_26 => ?_)
    · skip
      refine J_iconst h (v := nI 0) dX2_passRow_72 (by decide) ?_
      refine J_istore_n h (i := 3) (lv' := [(3, .int (nI 0)), (0, .ref o0), (1, .int p0), (2, .int (nI p1))]) dX2_passRow_73 rfl (by decide) rfl ?_
      refine J.loc [1, 0] (lv' := [(0, .ref o0), (3, .int (nI 0))]) rfl ?_
      exact w_X2_passRowS_74 X h o0 o1 o2 wa nw ab be p0 p1 W hp1 hW hW0 hR  (21 - 0 + 1) 0 wa nw1 (by first | exact hi |  assumption | omega | rfl) (by intro v hv; rw [hn v hv, show i = 21 by omega]) (by intro v hv; omega) (by omega)
    · skip
      have hs1 := spd_le (k := nI 1) (v := i) (by omega)
      have hs2 := spd_le (k := p0) (v := i) (by omega)
      refine J_aload_n h (i := 0) dX2_passRow_29 rfl 0 rfl ?_
      refine J_iconst h (v := nI 1) dX2_passRow_30 (by decide) ?_
      refine J_iload_n h (i := 3) dX2_passRow_31 rfl 3 rfl ?_
      refine K_si h (wr := [(o0, .inr (2, [.ref o1, .ref o2, .int ab, .int be])), (o1, .inl (cI, 21, .inl wa)), (o2, .inl (cI, 21, .inl nw1))]) (c_X3_speedOver (xl X) (xD X) cI cE (nI 1) i (by first | exact hp1 |  assumption | omega | rfl)) yv_X3_speedOver nm_X2_58 (by decide) (by decide) rfl rfl rfl (Nat.le_of_ble_eq_true rfl) (Nat.le_refl _) (Nat.le_refl _) dX2_passRow_32 (fun r_32 u_32 p_32 => ?_)
      obtain ⟨rfl, -⟩ := p_32
      show J X 4 0 0 35 [(0, .ref o0), (1, .int p0), (2, .int (nI p1)), (3, .int (nI i))] [.int (nI (spd (nI 1) i)), .ref o0] [(o0, .inr (2, [.ref o1, .ref o2, .int ab, .int be])), (o1, .inl (cI, 21, .inl wa)), (o2, .inl (cI, 21, .inl nw1))]
      refine J_iload_n h (i := 2) dX2_passRow_35 rfl 2 rfl ?_
      refine J_aload_n h (i := 0) dX2_passRow_36 rfl 0 rfl ?_
      refine J_get h inX2 rfl 0 0 (by decide) rfl rfl nf_X2_9 dX2_passRow_37 ?_
      refine J_iload_n h (i := 3) dX2_passRow_40 rfl 3 rfl ?_
      refine N_iald h 1 rfl (by decide) (by omega) dX2_passRow_41 ?_
      refine J_imul h dX2_passRow_42 ?_
      refine J_eqs (st' := [.int (nI (p1 * W i)), .int (nI (spd (nI 1) i)), .ref o0]) (by rw [hW i (by omega), pk_mul]) ?_
      refine K_vv h (wr := []) (c_X2_addNext (xl X) (xD X) cI cE o0 o1 o2 wa nw1 ab be (spd (nI 1) i) (nI (p1 * W i)) (by first | assumption | omega | rfl)) yv_X2_addNext nm_X2_64 (by decide) (by decide) rfl rfl 0 rfl rfl rfl rfl (Nat.le_of_ble_eq_true rfl) (Nat.le_refl _) (Nat.le_refl _) dX2_passRow_43 (fun u_43 p_43 => ?_)
      show J X 4 0 0 46 [(0, .ref o0), (1, .int p0), (2, .int (nI p1)), (3, .int (nI i))] [] [(o0, .inr (2, [.ref o1, .ref o2, .int ab, .int be])), (o1, .inl (cI, 21, .inl wa)), (o2, .inl (cI, 21, .inl (upd nw1 (spd (nI 1) i) (nw1 (spd (nI 1) i) + (nI (p1 * W i))))))]
      refine J_aload_n h (i := 0) dX2_passRow_46 rfl 0 rfl ?_
      refine J_iload_n h (i := 1) dX2_passRow_47 rfl 1 rfl ?_
      refine J_iload_n h (i := 3) dX2_passRow_48 rfl 3 rfl ?_
      refine K_si h (wr := [(o0, .inr (2, [.ref o1, .ref o2, .int ab, .int be])), (o1, .inl (cI, 21, .inl wa)), (o2, .inl (cI, 21, .inl (upd nw1 (spd (nI 1) i) (nw1 (spd (nI 1) i) + (nI (p1 * W i))))))]) (c_X3_speedOver (xl X) (xD X) cI cE p0 i (by first | exact hp1 |  assumption | omega | rfl)) yv_X3_speedOver nm_X2_58 (by decide) (by decide) rfl rfl rfl (Nat.le_of_ble_eq_true rfl) (Nat.le_refl _) (Nat.le_refl _) dX2_passRow_49 (fun r_49 u_49 p_49 => ?_)
      obtain ⟨rfl, -⟩ := p_49
      show J X 4 0 0 52 [(0, .ref o0), (1, .int p0), (2, .int (nI p1)), (3, .int (nI i))] [.int (nI (spd p0 i)), .ref o0] [(o0, .inr (2, [.ref o1, .ref o2, .int ab, .int be])), (o1, .inl (cI, 21, .inl wa)), (o2, .inl (cI, 21, .inl (upd nw1 (spd (nI 1) i) (nw1 (spd (nI 1) i) + (nI (p1 * W i))))))]
      refine J_bipush h (v := nI 10) dX2_passRow_52 (by decide) ?_
      refine J_iload_n h (i := 2) dX2_passRow_54 rfl 2 rfl ?_
      refine N_isub h (by omega) dX2_passRow_55 ?_
      refine J_aload_n h (i := 0) dX2_passRow_56 rfl 0 rfl ?_
      refine J_get h inX2 rfl 0 0 (by decide) rfl rfl nf_X2_9 dX2_passRow_57 ?_
      refine J_iload_n h (i := 3) dX2_passRow_60 rfl 3 rfl ?_
      refine N_iald h 1 rfl (by decide) (by omega) dX2_passRow_61 ?_
      refine J_imul h dX2_passRow_62 ?_
      refine J_eqs (st' := [.int (nI ((10 - p1) * W i)), .int (nI (spd p0 i)), .ref o0]) (by rw [hW i (by omega), pk_mul]) ?_
      refine K_vv h (wr := []) (c_X2_addNext (xl X) (xD X) cI cE o0 o1 o2 wa (upd nw1 (spd (nI 1) i) (nw1 (spd (nI 1) i) + (nI (p1 * W i)))) ab be (spd p0 i) (nI ((10 - p1) * W i)) (by first | assumption | omega | rfl)) yv_X2_addNext nm_X2_64 (by decide) (by decide) rfl rfl 0 rfl rfl rfl rfl (Nat.le_of_ble_eq_true rfl) (Nat.le_refl _) (Nat.le_refl _) dX2_passRow_63 (fun u_63 p_63 => ?_)
      show J X 4 0 0 66 [(0, .ref o0), (1, .int p0), (2, .int (nI p1)), (3, .int (nI i))] [] [(o0, .inr (2, [.ref o1, .ref o2, .int ab, .int be])), (o1, .inl (cI, 21, .inl wa)), (o2, .inl (cI, 21, .inl (upd (upd nw1 (spd (nI 1) i) (nw1 (spd (nI 1) i) + (nI (p1 * W i)))) (spd p0 i) ((upd nw1 (spd (nI 1) i) (nw1 (spd (nI 1) i) + (nI (p1 * W i)))) (spd p0 i) + (nI ((10 - p1) * W i))))))]
      refine J_iinc h (v := nI (i + 1)) (lv' := [(3, .int (nI (i + 1))), (0, .ref o0), (1, .int p0), (2, .int (nI p1))]) dX2_passRow_66 3 rfl (inc_ok _ 1) (by decide) rfl ?_
      refine J_goto h 23 dX2_passRow_69 (by decide) ?_
      refine J.loc [1, 2, 3, 0] (lv' := [(0, .ref o0), (1, .int p0), (2, .int (nI p1)), (3, .int (nI (i + 1)))]) rfl ?_
      exact ih_23 (i + 1) (upd (upd nw1 (spd (nI 1) i) (nw1 (spd (nI 1) i) + (nI (p1 * W i)))) (spd p0 i) ((upd nw1 (spd (nI 1) i) (nw1 (spd (nI 1) i) + (nI (p1 * W i)))) (spd p0 i) + (nI ((10 - p1) * W i)))) (by first | exact hi |  assumption | omega | rfl) (by exact ps_step hn (by omega)) (by omega)
set_option maxRecDepth 100000 in
set_option maxHeartbeats 4000000 in
theorem w_X2_passRowS_2 (X : Cx) {cI cE : ClassId} (h : Ok X cX2_passRow RX2 4 cI cE 2 0 0) (o0 : Nat) (o1 : Nat) (o2 : Nat) (wa : Nat → Int32) (nw : Nat → Int32) (ab : Int32) (be : Int32) (p0 : Int32) (p1 : Nat) (W : Nat → Nat) (hp1 : p1 ≤ 10) (hW : ∀ v, v < 21 → wa v = nI (W v)) (hW0 : W 0 = 0) (hR : ∀ (u : (Nat → Int32) × (Nat → Int32)), ((∀ v, v < 21 → u.1 v = nI (psS p0 p1 W 21 v)) ∧ (True)) → RetV X cX2_passRow 4 0 0 [(o0, .inr (2, [.ref o1, .ref o2, .int ab, .int be])), (o1, .inl (cI, 21, .inl u.1)), (o2, .inl (cI, 21, .inl u.2))]) : ∀ (n_2 : Nat) (i : Nat) (nw1 : Nat → Int32), (i ≤ 21) → (∀ v, v < i → nw1 v = nI 0) → 21 - i < n_2 → J X 4 0 0 2 [(0, .ref o0), (1, .int p0), (2, .int (nI p1)), (3, .int (nI i))] [] [(o0, .inr (2, [.ref o1, .ref o2, .int ab, .int be])), (o1, .inl (cI, 21, .inl wa)), (o2, .inl (cI, 21, .inl nw1))] := by
  intro n_2
  induction n_2 with
  | zero => intro i nw1 hi hz hn_; exact absurd hn_ (Nat.not_lt_zero _)
  | succ n_2 ih_2 =>
    intro i nw1 hi hz hn_2
    refine J_iload_n h (i := 3) dX2_passRow_2 rfl 3 rfl ?_
    refine J_bipush h (v := nI 20) dX2_passRow_3 (by decide) ?_
    refine N_icmp_gt h 21 dX2_passRow_5 (by decide) (by omega) (by omega) (fun c_5 => ?_) (fun c_5 => ?_)
    · skip
      refine J_iconst h (v := nI 1) dX2_passRow_21 (by decide) ?_
      refine J_istore_n h (i := 3) (lv' := [(3, .int (nI 1)), (0, .ref o0), (1, .int p0), (2, .int (nI p1))]) dX2_passRow_22 rfl (by decide) rfl ?_
      refine J.loc [1, 2, 3, 0] (lv' := [(0, .ref o0), (1, .int p0), (2, .int (nI p1)), (3, .int (nI 1))]) rfl ?_
      exact w_X2_passRowS_23 X h o0 o1 o2 wa nw ab be p0 p1 W hp1 hW hW0 hR  (21 - 1 + 1) 1 nw1 (by first | exact hi |  assumption | omega | rfl) (by intro v hv; rw [hz v (by omega), psS_1 hW0]) (by omega)
    · skip
      refine J_aload_n h (i := 0) dX2_passRow_8 rfl 0 rfl ?_
      refine J_get h inX2 rfl 0 1 (by decide) rfl rfl nf_X2_15 dX2_passRow_9 ?_
      refine J_iload_n h (i := 3) dX2_passRow_12 rfl 3 rfl ?_
      refine J_iconst h (v := nI 0) dX2_passRow_13 (by decide) ?_
      refine N_iast h (ws' := [(o0, .inr (2, [.ref o1, .ref o2, .int ab, .int be])), (o1, .inl (cI, 21, .inl wa)), (o2, .inl (cI, 21, .inl (upd nw1 i (nI 0))))]) 2 rfl (by decide) (by omega) dX2_passRow_14 rfl ?_
      refine J_iinc h (v := nI (i + 1)) (lv' := [(3, .int (nI (i + 1))), (0, .ref o0), (1, .int p0), (2, .int (nI p1))]) dX2_passRow_15 3 rfl (inc_ok _ 1) (by decide) rfl ?_
      refine J_goto h 2 dX2_passRow_18 (by decide) ?_
      refine J.loc [1, 2, 3, 0] (lv' := [(0, .ref o0), (1, .int p0), (2, .int (nI p1)), (3, .int (nI (i + 1)))]) rfl ?_
      exact ih_2 (i + 1) (upd nw1 i (nI 0)) (by first | exact hi |  assumption | omega | rfl) (by exact upd_ext (g := fun _ => nI 0) hz) (by omega)
set_option maxRecDepth 100000 in
set_option maxHeartbeats 4000000 in
theorem w_X2_passRowS (X : Cx) {cI cE : ClassId} (h : Ok X cX2_passRow RX2 4 cI cE 2 0 0) (o0 : Nat) (o1 : Nat) (o2 : Nat) (wa : Nat → Int32) (nw : Nat → Int32) (ab : Int32) (be : Int32) (p0 : Int32) (p1 : Nat) (W : Nat → Nat) (hp1 : p1 ≤ 10) (hW : ∀ v, v < 21 → wa v = nI (W v)) (hW0 : W 0 = 0) (hR : ∀ (u : (Nat → Int32) × (Nat → Int32)), ((∀ v, v < 21 → u.1 v = nI (psS p0 p1 W 21 v)) ∧ (True)) → RetV X cX2_passRow 4 0 0 [(o0, .inr (2, [.ref o1, .ref o2, .int ab, .int be])), (o1, .inl (cI, 21, .inl u.1)), (o2, .inl (cI, 21, .inl u.2))]) : J X 4 0 0 0 [(0, .ref o0), (1, .int p0), (2, .int (nI p1))] [] [(o0, .inr (2, [.ref o1, .ref o2, .int ab, .int be])), (o1, .inl (cI, 21, .inl wa)), (o2, .inl (cI, 21, .inl nw))] := by
  refine J_iconst h (v := nI 0) dX2_passRow_0 (by decide) ?_
  refine J_istore_n h (i := 3) (lv' := [(3, .int (nI 0)), (0, .ref o0), (1, .int p0), (2, .int (nI p1))]) dX2_passRow_1 rfl (by decide) rfl ?_
  refine J.loc [1, 2, 3, 0] (lv' := [(0, .ref o0), (1, .int p0), (2, .int (nI p1)), (3, .int (nI 0))]) rfl ?_
  exact w_X2_passRowS_2 X h o0 o1 o2 wa nw ab be p0 p1 W hp1 hW hW0 hR  (21 - 0 + 1) 0 nw (by first | assumption | omega | rfl) (by intro v hv; omega) (by omega)
theorem c_X2_passRowS (l : Launch) (D : va_G) (cI cE : ClassId) (o0 : Nat) (o1 : Nat) (o2 : Nat) (wa : Nat → Int32) (nw : Nat → Int32) (ab : Int32) (be : Int32) (p0 : Int32) (p1 : Nat) (W : Nat → Nat) (hp1 : p1 ≤ 10) (hW : ∀ v, v < 21 → wa v = nI (W v)) (hW0 : W 0 = 0) : Cv l D cI cE yX2_passRow cX2_passRow 4 none 2 0 0 [.ref o0, .int p0, .int (nI p1)] [(o0, .inr (2, [.ref o1, .ref o2, .int ab, .int be])), (o1, .inl (cI, 21, .inl wa)), (o2, .inl (cI, 21, .inl nw))] (fun (u : (Nat → Int32) × (Nat → Int32)) => ((∀ v, v < 21 → u.1 v = nI (psS p0 p1 W 21 v)) ∧ (True))) (fun (u : (Nat → Int32) × (Nat → Int32)) => ([(o0, .inr (2, [.ref o1, .ref o2, .int ab, .int be])), (o1, .inl (cI, 21, .inl u.1)), (o2, .inl (cI, 21, .inl u.2))] : va_W)) :=
  Cv.of (by decide) (Nat.le_of_ble_eq_true rfl) (fun X h hR _ => w_X2_passRowS X h o0 o1 o2 wa nw ab be p0 p1 W hp1 hW hW0 hR)
set_option maxRecDepth 100000 in
set_option maxHeartbeats 4000000 in
theorem w_X2_allWaysS_4 (X : Cx) {cI cE : ClassId} (h : Ok X cX2_allWays RX2 3 cI cE 1 0 0) (o0 : Nat) (o1 : Nat) (o2 : Nat) (wa : Nat → Int32) (nw : Nat → Int32) (ab : Int32) (be : Int32) (W : Nat → Nat) (hW : ∀ v, v < 21 → wa v = nI (W v)) (hR : ∀ (r : Int32) (u : Unit), ((nI (sumP W 21) = r) ∧ (True)) → RetI X cX2_allWays 3 0 0 r [(o0, .inr (2, [.ref o1, .ref o2, .int ab, .int be])), (o1, .inl (cI, 21, .inl wa)), (o2, .inl (cI, 21, .inl nw))]) : ∀ (n_4 : Nat) (i : Nat), (i ≤ 21) → 21 - i < n_4 → J X 3 0 0 4 [(0, .ref o0), (1, .int (nI (sumP W i))), (2, .int (nI i))] [] [(o0, .inr (2, [.ref o1, .ref o2, .int ab, .int be])), (o1, .inl (cI, 21, .inl wa)), (o2, .inl (cI, 21, .inl nw))] := by
  intro n_4
  induction n_4 with
  | zero => intro i hi hn_; exact absurd hn_ (Nat.not_lt_zero _)
  | succ n_4 ih_4 =>
    intro i hi hn_4
    refine J_iload_n h (i := 2) dX2_allWays_4 rfl 2 rfl ?_
    refine J_bipush h (v := nI 20) dX2_allWays_5 (by decide) ?_
    refine N_icmp_gt h 24 dX2_allWays_7 (by decide) (by omega) (by omega) (fun c_7 => ?_) (fun c_7 => ?_)
    · skip
      refine J_iload_n h (i := 1) dX2_allWays_24 rfl 1 rfl ?_
      exact hR (nI (sumP W i)) () (⟨(by rw [show i = 21 by omega]), trivial⟩) 25 _ dX2_allWays_25
    · skip
      refine J_iload_n h (i := 1) dX2_allWays_10 rfl 1 rfl ?_
      refine J_aload_n h (i := 0) dX2_allWays_11 rfl 0 rfl ?_
      refine J_iload_n h (i := 2) dX2_allWays_12 rfl 2 rfl ?_
      refine K_vi h (wr := []) (c_X2_waysOf (xl X) (xD X) cI cE o0 o1 o2 wa nw ab be i (by first | assumption | omega | rfl)) yv_X2_waysOf nm_X2_45 (by decide) (by decide) rfl rfl 0 rfl rfl rfl rfl (Nat.le_of_ble_eq_true rfl) (Nat.le_refl _) (Nat.le_refl _) dX2_allWays_13 (fun r_13 u_13 p_13 => ?_)
      obtain ⟨rfl, -⟩ := p_13
      show J X 3 0 0 16 [(0, .ref o0), (1, .int (nI (sumP W i))), (2, .int (nI i))] [.int (wa i), .int (nI (sumP W i))] [(o0, .inr (2, [.ref o1, .ref o2, .int ab, .int be])), (o1, .inl (cI, 21, .inl wa)), (o2, .inl (cI, 21, .inl nw))]
      refine J_eqs (st' := [.int (nI (W i)), .int (nI (sumP W i))]) (by rw [hW i (by omega)]) ?_
      refine N_iadd h dX2_allWays_16 ?_
      refine J_eqs (st' := [.int (nI (sumP W (i + 1)))]) (by rfl) ?_
      refine J_istore_n h (i := 1) (lv' := [(1, .int (nI (sumP W (i + 1)))), (0, .ref o0), (2, .int (nI i))]) dX2_allWays_17 rfl (by decide) rfl ?_
      refine J_iinc h (v := nI (i + 1)) (lv' := [(2, .int (nI (i + 1))), (1, .int (nI (sumP W (i + 1)))), (0, .ref o0)]) dX2_allWays_18 2 rfl (inc_ok _ 1) (by decide) rfl ?_
      refine J_goto h 4 dX2_allWays_21 (by decide) ?_
      refine J.loc [2, 1, 0] (lv' := [(0, .ref o0), (1, .int (nI (sumP W (i + 1)))), (2, .int (nI (i + 1)))]) rfl ?_
      exact ih_4 (i + 1) (by first | exact hi |  assumption | omega | rfl) (by omega)
set_option maxRecDepth 100000 in
set_option maxHeartbeats 4000000 in
theorem w_X2_allWaysS (X : Cx) {cI cE : ClassId} (h : Ok X cX2_allWays RX2 3 cI cE 1 0 0) (o0 : Nat) (o1 : Nat) (o2 : Nat) (wa : Nat → Int32) (nw : Nat → Int32) (ab : Int32) (be : Int32) (W : Nat → Nat) (hW : ∀ v, v < 21 → wa v = nI (W v)) (hR : ∀ (r : Int32) (u : Unit), ((nI (sumP W 21) = r) ∧ (True)) → RetI X cX2_allWays 3 0 0 r [(o0, .inr (2, [.ref o1, .ref o2, .int ab, .int be])), (o1, .inl (cI, 21, .inl wa)), (o2, .inl (cI, 21, .inl nw))]) : J X 3 0 0 0 [(0, .ref o0)] [] [(o0, .inr (2, [.ref o1, .ref o2, .int ab, .int be])), (o1, .inl (cI, 21, .inl wa)), (o2, .inl (cI, 21, .inl nw))] := by
  refine J_iconst h (v := nI 0) dX2_allWays_0 (by decide) ?_
  refine J_istore_n h (i := 1) (lv' := [(1, .int (nI 0)), (0, .ref o0)]) dX2_allWays_1 rfl (by decide) rfl ?_
  refine J_eql (lv' := [(1, .int (nI (sumP W 0))), (0, .ref o0)]) (by rfl) ?_
  refine J_iconst h (v := nI 0) dX2_allWays_2 (by decide) ?_
  refine J_istore_n h (i := 2) (lv' := [(2, .int (nI 0)), (1, .int (nI (sumP W 0))), (0, .ref o0)]) dX2_allWays_3 rfl (by decide) rfl ?_
  refine J.loc [2, 1, 0] (lv' := [(0, .ref o0), (1, .int (nI (sumP W 0))), (2, .int (nI 0))]) rfl ?_
  exact w_X2_allWaysS_4 X h o0 o1 o2 wa nw ab be W hW hR  (21 - 0 + 1) 0 (by first | assumption | omega | rfl) (by omega)
theorem c_X2_allWaysS (l : Launch) (D : va_G) (cI cE : ClassId) (o0 : Nat) (o1 : Nat) (o2 : Nat) (wa : Nat → Int32) (nw : Nat → Int32) (ab : Int32) (be : Int32) (W : Nat → Nat) (hW : ∀ v, v < 21 → wa v = nI (W v)) : Ci l D cI cE yX2_allWays cX2_allWays 3 (some .int) 1 0 0 [.ref o0] [(o0, .inr (2, [.ref o1, .ref o2, .int ab, .int be])), (o1, .inl (cI, 21, .inl wa)), (o2, .inl (cI, 21, .inl nw))] (fun (r : Int32) (u : Unit) => ((nI (sumP W 21) = r) ∧ (True))) (fun (u : Unit) => ([(o0, .inr (2, [.ref o1, .ref o2, .int ab, .int be])), (o1, .inl (cI, 21, .inl wa)), (o2, .inl (cI, 21, .inl nw))] : va_W)) :=
  Ci.of (by decide) (Nat.le_of_ble_eq_true rfl) (fun _ _ _ => rfl) (fun X h hR => w_X2_allWaysS X h o0 o1 o2 wa nw ab be W hW hR)
set_option maxRecDepth 100000 in
set_option maxHeartbeats 4000000 in
theorem w_X2_commonDivisorS_7 (X : Cx) {cI cE : ClassId} (h : Ok X cX2_commonDivisor RX2 6 cI cE 0 0 0) (a : Nat) (b : Nat) (ha : a ≤ 100000000) (hb : b ≤ 100000000) (hR : ∀ (r : Int32) (u : Unit), ((nI (Nat.gcd a b) = r) ∧ (True)) → RetI X cX2_commonDivisor 6 0 0 r []) : ∀ (n_7 : Nat) (i : Nat) (h_ : Nat) (l_ : Nat), (i ≤ 64) → (h_ ≤ 100000000) → (l_ ≤ 100000000) → (EqN (Nat.gcd a b) (Nat.gcd h_ l_)) → ((i = 0 ∧ h_ = a ∧ l_ = b) ∨ EuP i h_ l_) → 64 - i < n_7 → J X 6 0 0 7 [(2, .int (nI h_)), (3, .int (nI l_)), (4, .int (nI i))] [] [] := by
  intro n_7
  induction n_7 with
  | zero => intro i h_ l_ hi hh hl hg hp hn_; exact absurd hn_ (Nat.not_lt_zero _)
  | succ n_7 ih_7 =>
    intro i h_ l_ hi hh hl hg hp hn_7
    refine J_iload h dX2_commonDivisor_7 2 rfl ?_
    refine J_bipush h (v := nI 64) dX2_commonDivisor_9 (by decide) ?_
    refine N_icmp_ge h 34 dX2_commonDivisor_11 (by decide) (by omega) (by omega) (fun c_11 => ?_) (fun c_11 => ?_)
    · skip
      refine J_iload_n h (i := 2) dX2_commonDivisor_34 rfl 0 rfl ?_
      exact hR (nI h_) () (⟨(by have e0 : l_ = 0 := (by first | assumption | (rcases hp with ⟨e1, _⟩ | hp; omega; exact eu_end (by rw [← show i = 64 by omega]; exact hp))); rw [hg.eq, e0, Nat.gcd_zero_right]), trivial⟩) 35 _ dX2_commonDivisor_35
    · skip
      refine J_iload_n h (i := 3) dX2_commonDivisor_14 rfl 1 rfl ?_
      refine N_if_eq h 34 dX2_commonDivisor_15 (by decide) (by omega) (fun c_15 => ?_) (fun c_15 => ?_)
      · skip
        refine J_iload_n h (i := 2) dX2_commonDivisor_34 rfl 0 rfl ?_
        exact hR (nI h_) () (⟨(by have e0 : l_ = 0 := (by first | assumption | (rcases hp with ⟨e1, _⟩ | hp; omega; exact eu_end (by rw [← show i = 64 by omega]; exact hp))); rw [hg.eq, e0, Nat.gcd_zero_right]), trivial⟩) 35 _ dX2_commonDivisor_35
      · skip
        refine J_iload_n h (i := 2) dX2_commonDivisor_18 rfl 0 rfl ?_
        refine J_iload_n h (i := 3) dX2_commonDivisor_19 rfl 1 rfl ?_
        refine N_irem h (by omega) (by omega) (by omega) dX2_commonDivisor_20 ?_
        refine J_istore h (lv' := [(5, .int (nI (h_ % l_))), (2, .int (nI h_)), (3, .int (nI l_)), (4, .int (nI i))]) dX2_commonDivisor_21 (by decide) rfl ?_
        refine J_iload_n h (i := 3) dX2_commonDivisor_23 rfl 2 rfl ?_
        refine J_istore_n h (i := 2) (lv' := [(2, .int (nI l_)), (5, .int (nI (h_ % l_))), (3, .int (nI l_)), (4, .int (nI i))]) dX2_commonDivisor_24 rfl (by decide) rfl ?_
        refine J_iload h dX2_commonDivisor_25 1 rfl ?_
        refine J_istore_n h (i := 3) (lv' := [(3, .int (nI (h_ % l_))), (2, .int (nI l_)), (5, .int (nI (h_ % l_))), (4, .int (nI i))]) dX2_commonDivisor_27 rfl (by decide) rfl ?_
        refine J_iinc h (v := nI (i + 1)) (lv' := [(4, .int (nI (i + 1))), (3, .int (nI (h_ % l_))), (2, .int (nI l_)), (5, .int (nI (h_ % l_)))]) dX2_commonDivisor_28 3 rfl (inc_ok _ 1) (by decide) rfl ?_
        refine J_goto h 7 dX2_commonDivisor_31 (by decide) ?_
        refine J.loc [2, 1, 0] (lv' := [(2, .int (nI l_)), (3, .int (nI (h_ % l_))), (4, .int (nI (i + 1)))]) rfl ?_
        exact ih_7 (i + 1) l_ (h_ % l_) (by first | exact hi |  assumption | omega | rfl) (by first | exact hh |  assumption | omega | rfl) (by have := Nat.mod_lt h_ (show l_ > 0 by omega); omega) (by exact .mk (gcd_go hg.eq c_15)) (by rcases hp with ⟨e1, e2, e3⟩ | hp; exact Or.inr (by rw [e1]; exact eu_first hh hl c_15); exact Or.inr (eu_next hp c_15)) (by omega)
set_option maxRecDepth 100000 in
set_option maxHeartbeats 4000000 in
theorem w_X2_commonDivisorS (X : Cx) {cI cE : ClassId} (h : Ok X cX2_commonDivisor RX2 6 cI cE 0 0 0) (a : Nat) (b : Nat) (ha : a ≤ 100000000) (hb : b ≤ 100000000) (hR : ∀ (r : Int32) (u : Unit), ((nI (Nat.gcd a b) = r) ∧ (True)) → RetI X cX2_commonDivisor 6 0 0 r []) : J X 6 0 0 0 [(0, .int (nI a)), (1, .int (nI b))] [] [] := by
  refine J_iload_n h (i := 0) dX2_commonDivisor_0 rfl 0 rfl ?_
  refine J_istore_n h (i := 2) (lv' := [(2, .int (nI a)), (0, .int (nI a)), (1, .int (nI b))]) dX2_commonDivisor_1 rfl (by decide) rfl ?_
  refine J_iload_n h (i := 1) dX2_commonDivisor_2 rfl 2 rfl ?_
  refine J_istore_n h (i := 3) (lv' := [(3, .int (nI b)), (2, .int (nI a)), (0, .int (nI a)), (1, .int (nI b))]) dX2_commonDivisor_3 rfl (by decide) rfl ?_
  refine J_iconst h (v := nI 0) dX2_commonDivisor_4 (by decide) ?_
  refine J_istore h (lv' := [(4, .int (nI 0)), (3, .int (nI b)), (2, .int (nI a)), (0, .int (nI a)), (1, .int (nI b))]) dX2_commonDivisor_5 (by decide) rfl ?_
  refine J.loc [2, 1, 0] (lv' := [(2, .int (nI a)), (3, .int (nI b)), (4, .int (nI 0))]) rfl ?_
  exact w_X2_commonDivisorS_7 X h a b ha hb hR  (64 - 0 + 1) 0 a b (by first | assumption | omega | rfl) (by first | assumption | omega | rfl) (by first | assumption | omega | rfl) (by exact .mk rfl) (by exact Or.inl ⟨rfl, rfl, rfl⟩) (by omega)
theorem c_X2_commonDivisorS (l : Launch) (D : va_G) (cI cE : ClassId) (a : Nat) (b : Nat) (ha : a ≤ 100000000) (hb : b ≤ 100000000) : Ci l D cI cE yX2_commonDivisor cX2_commonDivisor 6 (some .int) 0 0 0 [.int (nI a), .int (nI b)] [] (fun (r : Int32) (u : Unit) => ((nI (Nat.gcd a b) = r) ∧ (True))) (fun (u : Unit) => ([] : va_W)) :=
  Ci.of (by decide) (Nat.le_of_ble_eq_true rfl) (fun _ _ _ => rfl) (fun X h hR => w_X2_commonDivisorS X h a b ha hb hR)
set_option maxRecDepth 100000 in
set_option maxHeartbeats 4000000 in
theorem w_X2_setLowestS (X : Cx) {cI cE : ClassId} (h : Ok X cX2_setLowest RX2 4 cI cE 1 0 0) (o0 : Nat) (o1 : Nat) (o2 : Nat) (wa : Nat → Int32) (nw : Nat → Int32) (ab : Int32) (be : Int32) (a : Nat) (b : Nat) (ha : a ≤ 100000000) (hb : b ≤ 100000000) (hb0 : 0 < b) (hR : ∀ (u : (Int32) × (Int32)), ((u.1 = nI (a / Nat.gcd a b)) ∧ (u.2 = nI (b / Nat.gcd a b)) ∧ (True)) → RetV X cX2_setLowest 4 0 0 [(o0, .inr (2, [.ref o1, .ref o2, .int u.1, .int u.2])), (o1, .inl (cI, 21, .inl wa)), (o2, .inl (cI, 21, .inl nw))]) : J X 4 0 0 0 [(0, .ref o0), (1, .int (nI a)), (2, .int (nI b))] [] [(o0, .inr (2, [.ref o1, .ref o2, .int ab, .int be])), (o1, .inl (cI, 21, .inl wa)), (o2, .inl (cI, 21, .inl nw))] := by
  refine J_iload_n h (i := 1) dX2_setLowest_0 rfl 1 rfl ?_
  refine J_iload_n h (i := 2) dX2_setLowest_1 rfl 2 rfl ?_
  refine K_si h (wr := [(o0, .inr (2, [.ref o1, .ref o2, .int ab, .int be])), (o1, .inl (cI, 21, .inl wa)), (o2, .inl (cI, 21, .inl nw))]) (c_X2_commonDivisorS (xl X) (xD X) cI cE a b (by first | exact ha |  assumption | omega | rfl) (by first | exact hb |  assumption | omega | rfl)) yv_X2_commonDivisor nm_X2_67 (by decide) (by decide) rfl rfl rfl (Nat.le_of_ble_eq_true rfl) (Nat.le_refl _) (Nat.le_refl _) dX2_setLowest_2 (fun r_2 u_2 p_2 => ?_)
  obtain ⟨rfl, -⟩ := p_2
  show J X 4 0 0 5 [(0, .ref o0), (1, .int (nI a)), (2, .int (nI b))] [.int (nI (Nat.gcd a b))] [(o0, .inr (2, [.ref o1, .ref o2, .int ab, .int be])), (o1, .inl (cI, 21, .inl wa)), (o2, .inl (cI, 21, .inl nw))]
  obtain ⟨gg, hgg⟩ : ∃ z, z = Nat.gcd a b := ⟨_, rfl⟩
  have hg0 : 0 < gg := by rw [hgg]; exact Nat.gcd_pos_of_pos_right a hb0
  have hgl : gg ≤ b := by rw [hgg]; exact Nat.gcd_le_right a hb0
  refine J_eqs (st' := [.int (nI gg)]) (by rw [hgg]) ?_
  refine J_istore_n h (i := 3) (lv' := [(3, .int (nI gg)), (0, .ref o0), (1, .int (nI a)), (2, .int (nI b))]) dX2_setLowest_5 rfl (by decide) rfl ?_
  refine J_iload_n h (i := 3) dX2_setLowest_6 rfl 0 rfl ?_
  refine N_if_gt h 11 dX2_setLowest_7 (by decide) (by omega) (fun c_7 => ?_) (fun c_7 => absurd c_7 (by omega))
  refine J_aload_n h (i := 0) dX2_setLowest_11 rfl 1 rfl ?_
  refine J_iload_n h (i := 1) dX2_setLowest_12 rfl 2 rfl ?_
  refine J_iload_n h (i := 3) dX2_setLowest_13 rfl 0 rfl ?_
  refine N_idiv h (by omega) (by omega) (by omega) dX2_setLowest_14 ?_
  refine J_put h (ws' := [(o0, .inr (2, [.ref o1, .ref o2, .int (nI (a / gg)), .int be])), (o1, .inl (cI, 21, .inl wa)), (o2, .inl (cI, 21, .inl nw))]) inX2 tyX2 tyX2_ok nmX2 rfl 0 2 (by decide) rfl nf_X2_18 rfl rfl rfl rfl (Nat.le_of_ble_eq_true rfl) dX2_setLowest_15 rfl ?_
  refine J_aload_n h (i := 0) dX2_setLowest_18 rfl 1 rfl ?_
  refine J_iload_n h (i := 2) dX2_setLowest_19 rfl 3 rfl ?_
  refine J_iload_n h (i := 3) dX2_setLowest_20 rfl 0 rfl ?_
  refine N_idiv h (by omega) (by omega) (by omega) dX2_setLowest_21 ?_
  refine J_put h (ws' := [(o0, .inr (2, [.ref o1, .ref o2, .int (nI (a / gg)), .int (nI (b / gg))])), (o1, .inl (cI, 21, .inl wa)), (o2, .inl (cI, 21, .inl nw))]) inX2 tyX2 tyX2_ok nmX2 rfl 0 3 (by decide) rfl nf_X2_22 rfl rfl rfl rfl (Nat.le_of_ble_eq_true rfl) dX2_setLowest_22 rfl ?_
  exact hR (nI (a / gg), nI (b / gg)) (⟨(by rw [hgg]), (by rw [hgg]), trivial⟩) 25 _ dX2_setLowest_25
theorem c_X2_setLowestS (l : Launch) (D : va_G) (cI cE : ClassId) (o0 : Nat) (o1 : Nat) (o2 : Nat) (wa : Nat → Int32) (nw : Nat → Int32) (ab : Int32) (be : Int32) (a : Nat) (b : Nat) (ha : a ≤ 100000000) (hb : b ≤ 100000000) (hb0 : 0 < b) : Cv l D cI cE yX2_setLowest cX2_setLowest 4 none 1 0 0 [.ref o0, .int (nI a), .int (nI b)] [(o0, .inr (2, [.ref o1, .ref o2, .int ab, .int be])), (o1, .inl (cI, 21, .inl wa)), (o2, .inl (cI, 21, .inl nw))] (fun (u : (Int32) × (Int32)) => ((u.1 = nI (a / Nat.gcd a b)) ∧ (u.2 = nI (b / Nat.gcd a b)) ∧ (True))) (fun (u : (Int32) × (Int32)) => ([(o0, .inr (2, [.ref o1, .ref o2, .int u.1, .int u.2])), (o1, .inl (cI, 21, .inl wa)), (o2, .inl (cI, 21, .inl nw))] : va_W)) :=
  Cv.of (by decide) (Nat.le_of_ble_eq_true rfl) (fun X h hR _ => w_X2_setLowestS X h o0 o1 o2 wa nw ab be a b ha hb hb0 hR)
set_option maxRecDepth 100000 in
set_option maxHeartbeats 4000000 in
theorem w_X2_findS_11 (X : Cx) {cI cE : ClassId} (h : Ok X cX2_find RX2 9 cI cE 3 0 0) (o0 : Nat) (o1 : Nat) (o2 : Nat) (wa : Nat → Int32) (nw : Nat → Int32) (ab : Int32) (be : Int32) (a0 : Nat) (a1 : Nat) (a2 : Nat) (th : Nat → Int32) (ow : Nat → Int32) (co : Nat) (ro : Nat) (sl : Int32) (x : Nat) (w : Nat) (c : Nat) (t : Nat) (hrc : ro * co ≤ 48) (hco : co ≤ 6) (hro : ro ≤ 8) (hx : x < co) (hw : w ≤ 20) (hw1 : 1 ≤ w) (hc : c ≤ 99) (ht : t ≤ 10) (hR : ∀ (u : (Nat → Int32) × (Nat → Int32) × (Int32) × (Int32)), ((∀ part : Int32, (if part.toInt = 0 then u.2.2.1 else u.2.2.2) = lowN (lkN th co ro x w c t) (pw10 ro) part) ∧ (True)) → RetV X cX2_find 9 0 0 [(o0, .inr (2, [.ref o1, .ref o2, .int u.2.2.1, .int u.2.2.2])), (o1, .inl (cI, 21, .inl u.1)), (o2, .inl (cI, 21, .inl u.2.1)), (a0, .inr (0, [.ref a1, .ref a2, .int (nI co), .int (nI ro), .int sl])), (a1, .inl (cI, 48, .inl th)), (a2, .inl (cI, 48, .inl ow))]) : ∀ (n_11 : Nat) (r : Nat) (wa1 : Nat → Int32) (nw1 : Nat → Int32), (r ≤ ro) → (∀ v, v < 21 → wa1 v = nI (wyR th co x w t r v)) → (∀ q, q < r → c ≠ q * co + x) → ro - r < n_11 → J X 9 0 0 11 [(0, .ref o0), (1, .ref a0), (2, .int (nI x)), (4, .int (nI c)), (5, .int (nI t)), (6, .int (nI (pw10 r))), (7, .int (nI r))] [] [(o0, .inr (2, [.ref o1, .ref o2, .int ab, .int be])), (o1, .inl (cI, 21, .inl wa1)), (o2, .inl (cI, 21, .inl nw1)), (a0, .inr (0, [.ref a1, .ref a2, .int (nI co), .int (nI ro), .int sl])), (a1, .inl (cI, 48, .inl th)), (a2, .inl (cI, 48, .inl ow))] := by
  intro n_11
  induction n_11 with
  | zero => intro r wa1 nw1 hr hwy hne hn_; exact absurd hn_ (Nat.not_lt_zero _)
  | succ n_11 ih_11 =>
    intro r wa1 nw1 hr hwy hne hn_11
    have hrx : r < ro → r * co + x < ro * co := fun q => by have := Nat.mul_le_mul_right co (show r + 1 ≤ ro by omega); rw [Nat.succ_mul] at this; omega
    have hp10 := pw10_in r (by omega)
    refine J_iload h dX2_find_11 6 rfl ?_
    refine J_aload_n h (i := 1) dX2_find_13 rfl 1 rfl ?_
    refine J_get h inX0 rfl 3 3 (by decide) rfl rfl nf_X2_29 dX2_find_14 ?_
    refine N_icmp_ge h 88 dX2_find_17 (by decide) (by omega) (by omega) (fun c_17 => ?_) (fun c_17 => ?_)
    · skip
      have hrr : r = ro := by omega
      refine J_aload_n h (i := 0) dX2_find_88 rfl 0 rfl ?_
      refine J_iload h dX2_find_89 3 rfl ?_
      refine J_bipush h (v := nI 99) dX2_find_91 (by decide) ?_
      refine N_icmp_ne h 103 dX2_find_93 (by decide) (by omega) (by omega) (fun c_93 => ?_) (fun c_93 => ?_)
      · skip
        refine J_iconst h (v := nI 0) dX2_find_103 (by decide) ?_
        refine J_iload h dX2_find_104 5 rfl ?_
        refine K_vv h (wr := [(a0, .inr (0, [.ref a1, .ref a2, .int (nI co), .int (nI ro), .int sl])), (a1, .inl (cI, 48, .inl th)), (a2, .inl (cI, 48, .inl ow))]) (c_X2_setLowestS (xl X) (xD X) cI cE o0 o1 o2 wa1 nw1 ab be 0 (pw10 r) (by first | assumption | omega | rfl) (by first | assumption | omega | rfl) (by first | assumption | omega | rfl)) yv_X2_setLowest nm_X2_48 (by decide) (by decide) rfl rfl 0 rfl rfl rfl rfl (Nat.le_of_ble_eq_true rfl) (Nat.le_refl _) (Nat.le_refl _) dX2_find_106 (fun u_106 p_106 => ?_)
        obtain ⟨ab2_106, be2_106⟩ := u_106
        try dsimp only at p_106
        obtain ⟨f0_106, f1_106, -⟩ := p_106
        show J X 9 0 0 109 [(0, .ref o0), (1, .ref a0), (2, .int (nI x)), (4, .int (nI c)), (5, .int (nI t)), (6, .int (nI (pw10 r))), (7, .int (nI r))] [] [(o0, .inr (2, [.ref o1, .ref o2, .int ab2_106, .int be2_106])), (o1, .inl (cI, 21, .inl wa1)), (o2, .inl (cI, 21, .inl nw1)), (a0, .inr (0, [.ref a1, .ref a2, .int (nI co), .int (nI ro), .int sl])), (a1, .inl (cI, 48, .inl th)), (a2, .inl (cI, 48, .inl ow))]
        exact hR (wa1, nw1, ab2_106, be2_106) (⟨(by first | (rw [hs0] at f0_106 f1_106; rw [show c = 99 by omega]; rw [hrr] at f0_106 f1_106; exact lik_sea hw hx hrc hro f0_106 f1_106) | (rw [hrr] at f0_106 f1_106; exact lik_no (by omega) (fun q hq => hne q (by omega)) f0_106 f1_106)), trivial⟩) 109 _ dX2_find_109
      · skip
        refine J_aload_n h (i := 0) dX2_find_96 rfl 0 rfl ?_
        refine K_vi h (wr := [(a0, .inr (0, [.ref a1, .ref a2, .int (nI co), .int (nI ro), .int sl])), (a1, .inl (cI, 48, .inl th)), (a2, .inl (cI, 48, .inl ow))]) (c_X2_allWaysS (xl X) (xD X) cI cE o0 o1 o2 wa1 nw1 ab be (wyR th co x w t r) (by exact hwy)) yv_X2_allWays nm_X2_54 (by decide) (by decide) rfl rfl 0 rfl rfl rfl rfl (Nat.le_of_ble_eq_true rfl) (Nat.le_refl _) (Nat.le_refl _) dX2_find_97 (fun r_97 u_97 p_97 => ?_)
        obtain ⟨rfl, -⟩ := p_97
        show J X 9 0 0 100 [(0, .ref o0), (1, .ref a0), (2, .int (nI x)), (4, .int (nI c)), (5, .int (nI t)), (6, .int (nI (pw10 r))), (7, .int (nI r))] [.int (nI (sumP (wyR th co x w t r) 21)), .ref o0] [(o0, .inr (2, [.ref o1, .ref o2, .int ab, .int be])), (o1, .inl (cI, 21, .inl wa1)), (o2, .inl (cI, 21, .inl nw1)), (a0, .inr (0, [.ref a1, .ref a2, .int (nI co), .int (nI ro), .int sl])), (a1, .inl (cI, 48, .inl th)), (a2, .inl (cI, 48, .inl ow))]
        obtain ⟨s0, hs0⟩ : ∃ z, z = sumP (wyR th co x w t r) 21 := ⟨_, rfl⟩
        have hs1 : s0 ≤ pw10 r := by rw [hs0]; exact wy_tot ht hw r
        refine J_eqs (st' := [.int (nI s0), .ref o0]) (by rw [hs0]) ?_
        refine J_goto h 104 dX2_find_100 (by decide) ?_
        refine J_iload h dX2_find_104 5 rfl ?_
        refine K_vv h (wr := [(a0, .inr (0, [.ref a1, .ref a2, .int (nI co), .int (nI ro), .int sl])), (a1, .inl (cI, 48, .inl th)), (a2, .inl (cI, 48, .inl ow))]) (c_X2_setLowestS (xl X) (xD X) cI cE o0 o1 o2 wa1 nw1 ab be s0 (pw10 r) (by first | assumption | omega | rfl) (by first | assumption | omega | rfl) (by first | assumption | omega | rfl)) yv_X2_setLowest nm_X2_48 (by decide) (by decide) rfl rfl 0 rfl rfl rfl rfl (Nat.le_of_ble_eq_true rfl) (Nat.le_refl _) (Nat.le_refl _) dX2_find_106 (fun u_106 p_106 => ?_)
        obtain ⟨ab2_106, be2_106⟩ := u_106
        try dsimp only at p_106
        obtain ⟨f0_106, f1_106, -⟩ := p_106
        show J X 9 0 0 109 [(0, .ref o0), (1, .ref a0), (2, .int (nI x)), (4, .int (nI c)), (5, .int (nI t)), (6, .int (nI (pw10 r))), (7, .int (nI r))] [] [(o0, .inr (2, [.ref o1, .ref o2, .int ab2_106, .int be2_106])), (o1, .inl (cI, 21, .inl wa1)), (o2, .inl (cI, 21, .inl nw1)), (a0, .inr (0, [.ref a1, .ref a2, .int (nI co), .int (nI ro), .int sl])), (a1, .inl (cI, 48, .inl th)), (a2, .inl (cI, 48, .inl ow))]
        exact hR (wa1, nw1, ab2_106, be2_106) (⟨(by first | (rw [hs0] at f0_106 f1_106; rw [show c = 99 by omega]; rw [hrr] at f0_106 f1_106; exact lik_sea hw hx hrc hro f0_106 f1_106) | (rw [hrr] at f0_106 f1_106; exact lik_no (by omega) (fun q hq => hne q (by omega)) f0_106 f1_106)), trivial⟩) 109 _ dX2_find_109
    · skip
      refine J_iload h dX2_find_20 6 rfl ?_
      refine J_bipush h (v := nI 8) dX2_find_22 (by decide) ?_
      refine N_icmp_ge h 88 dX2_find_24 (by decide) (by omega) (by omega) (fun c_24 => absurd c_24 (by omega)) (fun c_24 => ?_)
      refine J_iload h dX2_find_27 6 rfl ?_
      refine J_aload_n h (i := 1) dX2_find_29 rfl 1 rfl ?_
      refine J_get h inX0 rfl 3 2 (by decide) rfl rfl nf_X2_34 dX2_find_30 ?_
      refine N_imul h dX2_find_33 ?_
      refine J_iload_n h (i := 2) dX2_find_34 rfl 2 rfl ?_
      refine N_iadd h dX2_find_35 ?_
      refine J_istore h (lv' := [(8, .int (nI ((r * co) + x))), (0, .ref o0), (1, .ref a0), (2, .int (nI x)), (4, .int (nI c)), (5, .int (nI t)), (6, .int (nI (pw10 r))), (7, .int (nI r))]) dX2_find_36 (by decide) rfl ?_
      refine J_aload_n h (i := 0) dX2_find_38 rfl 1 rfl ?_
      refine J_aload_n h (i := 1) dX2_find_39 rfl 2 rfl ?_
      refine J_iload h dX2_find_40 0 rfl ?_
      have hrx1 := hrx (by omega)
      refine J.wld [3, 4, 5, 0, 1, 2] (ws' := [(a0, .inr (0, [.ref a1, .ref a2, .int (nI co), .int (nI ro), .int sl])), (a1, .inl (cI, 48, .inl th)), (a2, .inl (cI, 48, .inl ow)), (o0, .inr (2, [.ref o1, .ref o2, .int ab, .int be])), (o1, .inl (cI, 21, .inl wa1)), (o2, .inl (cI, 21, .inl nw1))]) rfl rfl ?_
      refine K_vi h (wr := [(o0, .inr (2, [.ref o1, .ref o2, .int ab, .int be])), (o1, .inl (cI, 21, .inl wa1)), (o2, .inl (cI, 21, .inl nw1))]) (c_X0_thingOn (xl X) (xD X) cI cE a0 a1 a2 th ow co ro sl ((r * co) + x) (by first | exact hrc |  assumption | omega | rfl) (by first | assumption | omega | rfl)) yv_X0_thingOn nm_X2_37 (by decide) (by decide) rfl rfl 0 rfl rfl rfl rfl (Nat.le_of_ble_eq_true rfl) (Nat.le_refl _) (Nat.le_refl _) dX2_find_42 (fun r_42 u_42 p_42 => ?_)
      obtain ⟨rfl, -⟩ := p_42
      show J X 9 0 0 45 [(8, .int (nI ((r * co) + x))), (0, .ref o0), (1, .ref a0), (2, .int (nI x)), (4, .int (nI c)), (5, .int (nI t)), (6, .int (nI (pw10 r))), (7, .int (nI r))] [.int (th ((r * co) + x)), .ref o0] [(a0, .inr (0, [.ref a1, .ref a2, .int (nI co), .int (nI ro), .int sl])), (a1, .inl (cI, 48, .inl th)), (a2, .inl (cI, 48, .inl ow)), (o0, .inr (2, [.ref o1, .ref o2, .int ab, .int be])), (o1, .inl (cI, 21, .inl wa1)), (o2, .inl (cI, 21, .inl nw1))]
      refine J_iload h dX2_find_45 5 rfl ?_
      refine J.wld [3, 4, 5, 0, 1, 2] (ws' := [(o0, .inr (2, [.ref o1, .ref o2, .int ab, .int be])), (o1, .inl (cI, 21, .inl wa1)), (o2, .inl (cI, 21, .inl nw1)), (a0, .inr (0, [.ref a1, .ref a2, .int (nI co), .int (nI ro), .int sl])), (a1, .inl (cI, 48, .inl th)), (a2, .inl (cI, 48, .inl ow))]) rfl rfl ?_
      refine K_vv h (wr := [(a0, .inr (0, [.ref a1, .ref a2, .int (nI co), .int (nI ro), .int sl])), (a1, .inl (cI, 48, .inl th)), (a2, .inl (cI, 48, .inl ow))]) (c_X2_passRowS (xl X) (xD X) cI cE o0 o1 o2 wa1 nw1 ab be (th ((r * co) + x)) t (wyR th co x w t r) (by first | assumption | omega | rfl) (by exact hwy) (by exact wy_0 hw1 r)) yv_X2_passRow nm_X2_41 (by decide) (by decide) rfl rfl 0 rfl rfl rfl rfl (Nat.le_of_ble_eq_true rfl) (Nat.le_refl _) (Nat.le_refl _) dX2_find_47 (fun u_47 p_47 => ?_)
      obtain ⟨wa2_47, nw2_47⟩ := u_47
      try dsimp only at p_47
      obtain ⟨f0_47, -⟩ := p_47
      show J X 9 0 0 50 [(8, .int (nI ((r * co) + x))), (0, .ref o0), (1, .ref a0), (2, .int (nI x)), (4, .int (nI c)), (5, .int (nI t)), (6, .int (nI (pw10 r))), (7, .int (nI r))] [] [(o0, .inr (2, [.ref o1, .ref o2, .int ab, .int be])), (o1, .inl (cI, 21, .inl wa2_47)), (o2, .inl (cI, 21, .inl nw2_47)), (a0, .inr (0, [.ref a1, .ref a2, .int (nI co), .int (nI ro), .int sl])), (a1, .inl (cI, 48, .inl th)), (a2, .inl (cI, 48, .inl ow))]
      refine J_iload h dX2_find_50 6 rfl ?_
      refine J_bipush h (v := nI 10) dX2_find_52 (by decide) ?_
      refine N_imul h dX2_find_54 ?_
      refine J_eqs (st' := [.int (nI (pw10 (r + 1)))]) (by rfl) ?_
      have hp11 := pw10_in (r + 1) (by omega)
      refine J_istore h (lv' := [(6, .int (nI (pw10 (r + 1)))), (8, .int (nI ((r * co) + x))), (0, .ref o0), (1, .ref a0), (2, .int (nI x)), (4, .int (nI c)), (5, .int (nI t)), (7, .int (nI r))]) dX2_find_55 (by decide) rfl ?_
      refine J_iload h dX2_find_57 1 rfl ?_
      refine J_iload h dX2_find_59 5 rfl ?_
      refine N_icmp_ne h 76 dX2_find_61 (by decide) (by omega) (by omega) (fun c_61 => ?_) (fun c_61 => ?_)
      · skip
        refine J_aload_n h (i := 0) dX2_find_76 rfl 2 rfl ?_
        refine J_iconst h (v := nI 0) dX2_find_77 (by decide) ?_
        refine J_iconst h (v := nI 0) dX2_find_78 (by decide) ?_
        refine K_vv h (wr := [(a0, .inr (0, [.ref a1, .ref a2, .int (nI co), .int (nI ro), .int sl])), (a1, .inl (cI, 48, .inl th)), (a2, .inl (cI, 48, .inl ow))]) (c_X2_putWays (xl X) (xD X) cI cE o0 o1 o2 wa2_47 nw2_47 ab be 0 (nI 0) (by first | assumption | omega | rfl)) yv_X2_putWays nm_X2_51 (by decide) (by decide) rfl rfl 0 rfl rfl rfl rfl (Nat.le_of_ble_eq_true rfl) (Nat.le_refl _) (Nat.le_refl _) dX2_find_79 (fun u_79 p_79 => ?_)
        show J X 9 0 0 82 [(6, .int (nI (pw10 (r + 1)))), (8, .int (nI ((r * co) + x))), (0, .ref o0), (1, .ref a0), (2, .int (nI x)), (4, .int (nI c)), (5, .int (nI t)), (7, .int (nI r))] [] [(o0, .inr (2, [.ref o1, .ref o2, .int ab, .int be])), (o1, .inl (cI, 21, .inl (upd wa2_47 0 (nI 0)))), (o2, .inl (cI, 21, .inl nw2_47)), (a0, .inr (0, [.ref a1, .ref a2, .int (nI co), .int (nI ro), .int sl])), (a1, .inl (cI, 48, .inl th)), (a2, .inl (cI, 48, .inl ow))]
        refine J_iinc h (v := nI (r + 1)) (lv' := [(7, .int (nI (r + 1))), (6, .int (nI (pw10 (r + 1)))), (8, .int (nI ((r * co) + x))), (0, .ref o0), (1, .ref a0), (2, .int (nI x)), (4, .int (nI c)), (5, .int (nI t))]) dX2_find_82 7 rfl (inc_ok _ 1) (by decide) rfl ?_
        refine J_goto h 11 dX2_find_85 (by decide) ?_
        refine J.loc [3, 4, 5, 6, 7, 1, 0] (lv' := [(0, .ref o0), (1, .ref a0), (2, .int (nI x)), (4, .int (nI c)), (5, .int (nI t)), (6, .int (nI (pw10 (r + 1)))), (7, .int (nI (r + 1)))]) rfl ?_
        exact ih_11 (r + 1) (upd wa2_47 0 (nI 0)) nw2_47 (by first | exact hr |  assumption | omega | rfl) (by exact wy_next f0_47) (by exact lt_s hne (fun e => c_61 e.symm)) (by omega)
      · skip
        refine J_aload_n h (i := 0) dX2_find_64 rfl 2 rfl ?_
        refine J_aload_n h (i := 0) dX2_find_65 rfl 2 rfl ?_
        refine J_iconst h (v := nI 0) dX2_find_66 (by decide) ?_
        refine K_vi h (wr := [(a0, .inr (0, [.ref a1, .ref a2, .int (nI co), .int (nI ro), .int sl])), (a1, .inl (cI, 48, .inl th)), (a2, .inl (cI, 48, .inl ow))]) (c_X2_waysOf (xl X) (xD X) cI cE o0 o1 o2 wa2_47 nw2_47 ab be 0 (by first | assumption | omega | rfl)) yv_X2_waysOf nm_X2_45 (by decide) (by decide) rfl rfl 0 rfl rfl rfl rfl (Nat.le_of_ble_eq_true rfl) (Nat.le_refl _) (Nat.le_refl _) dX2_find_67 (fun r_67 u_67 p_67 => ?_)
        obtain ⟨rfl, -⟩ := p_67
        show J X 9 0 0 70 [(6, .int (nI (pw10 (r + 1)))), (8, .int (nI ((r * co) + x))), (0, .ref o0), (1, .ref a0), (2, .int (nI x)), (4, .int (nI c)), (5, .int (nI t)), (7, .int (nI r))] [.int (wa2_47 0), .ref o0] [(o0, .inr (2, [.ref o1, .ref o2, .int ab, .int be])), (o1, .inl (cI, 21, .inl wa2_47)), (o2, .inl (cI, 21, .inl nw2_47)), (a0, .inr (0, [.ref a1, .ref a2, .int (nI co), .int (nI ro), .int sl])), (a1, .inl (cI, 48, .inl th)), (a2, .inl (cI, 48, .inl ow))]
        obtain ⟨s0, hs0⟩ : ∃ z, z = psS (th (r * co + x)) t (wyR th co x w t r) 21 0 := ⟨_, rfl⟩
        have hs1 : s0 ≤ pw10 (r + 1) := by rw [hs0]; exact ps_le ht hw r 0 (by decide)
        refine J_eqs (st' := [.int (nI s0), .ref o0]) (by rw [f0_47 0 (by decide), hs0]) ?_
        refine J_iload h dX2_find_70 0 rfl ?_
        refine K_vv h (wr := [(a0, .inr (0, [.ref a1, .ref a2, .int (nI co), .int (nI ro), .int sl])), (a1, .inl (cI, 48, .inl th)), (a2, .inl (cI, 48, .inl ow))]) (c_X2_setLowestS (xl X) (xD X) cI cE o0 o1 o2 wa2_47 nw2_47 ab be s0 (pw10 (r + 1)) (by first | assumption | omega | rfl) (by first | assumption | omega | rfl) (by first | assumption | omega | rfl)) yv_X2_setLowest nm_X2_48 (by decide) (by decide) rfl rfl 0 rfl rfl rfl rfl (Nat.le_of_ble_eq_true rfl) (Nat.le_refl _) (Nat.le_refl _) dX2_find_72 (fun u_72 p_72 => ?_)
        obtain ⟨ab2_72, be2_72⟩ := u_72
        try dsimp only at p_72
        obtain ⟨f0_72, f1_72, -⟩ := p_72
        show J X 9 0 0 75 [(6, .int (nI (pw10 (r + 1)))), (8, .int (nI ((r * co) + x))), (0, .ref o0), (1, .ref a0), (2, .int (nI x)), (4, .int (nI c)), (5, .int (nI t)), (7, .int (nI r))] [] [(o0, .inr (2, [.ref o1, .ref o2, .int ab2_72, .int be2_72])), (o1, .inl (cI, 21, .inl wa2_47)), (o2, .inl (cI, 21, .inl nw2_47)), (a0, .inr (0, [.ref a1, .ref a2, .int (nI co), .int (nI ro), .int sl])), (a1, .inl (cI, 48, .inl th)), (a2, .inl (cI, 48, .inl ow))]
        exact hR (wa2_47, nw2_47, ab2_72, be2_72) (⟨(by rw [hs0] at f0_72 f1_72; rw [← show r * co + x = c from c_61]; exact lik_row hw ht hx hrc hro (by omega) f0_72 f1_72), trivial⟩) 75 _ dX2_find_75
set_option maxRecDepth 100000 in
set_option maxHeartbeats 4000000 in
theorem w_X2_findS (X : Cx) {cI cE : ClassId} (h : Ok X cX2_find RX2 9 cI cE 3 0 0) (o0 : Nat) (o1 : Nat) (o2 : Nat) (wa : Nat → Int32) (nw : Nat → Int32) (ab : Int32) (be : Int32) (a0 : Nat) (a1 : Nat) (a2 : Nat) (th : Nat → Int32) (ow : Nat → Int32) (co : Nat) (ro : Nat) (sl : Int32) (x : Nat) (w : Nat) (c : Nat) (t : Nat) (hrc : ro * co ≤ 48) (hco : co ≤ 6) (hro : ro ≤ 8) (hx : x < co) (hw : w ≤ 20) (hw1 : 1 ≤ w) (hc : c ≤ 99) (ht : t ≤ 10) (hR : ∀ (u : (Nat → Int32) × (Nat → Int32) × (Int32) × (Int32)), ((∀ part : Int32, (if part.toInt = 0 then u.2.2.1 else u.2.2.2) = lowN (lkN th co ro x w c t) (pw10 ro) part) ∧ (True)) → RetV X cX2_find 9 0 0 [(o0, .inr (2, [.ref o1, .ref o2, .int u.2.2.1, .int u.2.2.2])), (o1, .inl (cI, 21, .inl u.1)), (o2, .inl (cI, 21, .inl u.2.1)), (a0, .inr (0, [.ref a1, .ref a2, .int (nI co), .int (nI ro), .int sl])), (a1, .inl (cI, 48, .inl th)), (a2, .inl (cI, 48, .inl ow))]) : J X 9 0 0 0 [(0, .ref o0), (1, .ref a0), (2, .int (nI x)), (3, .int (nI w)), (4, .int (nI c)), (5, .int (nI t))] [] [(o0, .inr (2, [.ref o1, .ref o2, .int ab, .int be])), (o1, .inl (cI, 21, .inl wa)), (o2, .inl (cI, 21, .inl nw)), (a0, .inr (0, [.ref a1, .ref a2, .int (nI co), .int (nI ro), .int sl])), (a1, .inl (cI, 48, .inl th)), (a2, .inl (cI, 48, .inl ow))] := by
  refine J_aload_n h (i := 0) dX2_find_0 rfl 0 rfl ?_
  refine J_iload_n h (i := 3) dX2_find_1 rfl 3 rfl ?_
  refine K_vv h (wr := [(a0, .inr (0, [.ref a1, .ref a2, .int (nI co), .int (nI ro), .int sl])), (a1, .inl (cI, 48, .inl th)), (a2, .inl (cI, 48, .inl ow))]) (c_X2_startS (xl X) (xD X) cI cE o0 o1 o2 wa nw ab be w (by first | assumption | omega | rfl)) yv_X2_start nm_X2_25 (by decide) (by decide) rfl rfl 0 rfl rfl rfl rfl (Nat.le_of_ble_eq_true rfl) (Nat.le_refl _) (Nat.le_refl _) dX2_find_2 (fun u_2 p_2 => ?_)
  obtain ⟨wa2_2, rfl⟩ : ∃ z, z = u_2 := ⟨_, rfl⟩
  obtain ⟨f0_2, -⟩ := p_2
  show J X 9 0 0 5 [(0, .ref o0), (1, .ref a0), (2, .int (nI x)), (3, .int (nI w)), (4, .int (nI c)), (5, .int (nI t))] [] [(o0, .inr (2, [.ref o1, .ref o2, .int ab, .int be])), (o1, .inl (cI, 21, .inl wa2_2)), (o2, .inl (cI, 21, .inl nw)), (a0, .inr (0, [.ref a1, .ref a2, .int (nI co), .int (nI ro), .int sl])), (a1, .inl (cI, 48, .inl th)), (a2, .inl (cI, 48, .inl ow))]
  refine J_iconst h (v := nI 1) dX2_find_5 (by decide) ?_
  refine J_istore h (lv' := [(6, .int (nI 1)), (0, .ref o0), (1, .ref a0), (2, .int (nI x)), (3, .int (nI w)), (4, .int (nI c)), (5, .int (nI t))]) dX2_find_6 (by decide) rfl ?_
  refine J_eql (lv' := [(6, .int (nI (pw10 0))), (0, .ref o0), (1, .ref a0), (2, .int (nI x)), (3, .int (nI w)), (4, .int (nI c)), (5, .int (nI t))]) (by rfl) ?_
  refine J_iconst h (v := nI 0) dX2_find_8 (by decide) ?_
  refine J_istore h (lv' := [(7, .int (nI 0)), (6, .int (nI (pw10 0))), (0, .ref o0), (1, .ref a0), (2, .int (nI x)), (3, .int (nI w)), (4, .int (nI c)), (5, .int (nI t))]) dX2_find_9 (by decide) rfl ?_
  refine J.loc [2, 3, 4, 6, 7, 1, 0] (lv' := [(0, .ref o0), (1, .ref a0), (2, .int (nI x)), (4, .int (nI c)), (5, .int (nI t)), (6, .int (nI (pw10 0))), (7, .int (nI 0))]) rfl ?_
  exact w_X2_findS_11 X h o0 o1 o2 wa nw ab be a0 a1 a2 th ow co ro sl x w c t hrc hco hro hx hw hw1 hc ht hR  (ro - 0 + 1) 0 wa2_2 nw (by first | assumption | omega | rfl) (by exact f0_2) (by intro q hq; omega) (by omega)
theorem c_X2_findS (l : Launch) (D : va_G) (cI cE : ClassId) (o0 : Nat) (o1 : Nat) (o2 : Nat) (wa : Nat → Int32) (nw : Nat → Int32) (ab : Int32) (be : Int32) (a0 : Nat) (a1 : Nat) (a2 : Nat) (th : Nat → Int32) (ow : Nat → Int32) (co : Nat) (ro : Nat) (sl : Int32) (x : Nat) (w : Nat) (c : Nat) (t : Nat) (hrc : ro * co ≤ 48) (hco : co ≤ 6) (hro : ro ≤ 8) (hx : x < co) (hw : w ≤ 20) (hw1 : 1 ≤ w) (hc : c ≤ 99) (ht : t ≤ 10) : Cv l D cI cE yX2_find cX2_find 9 none 3 0 0 [.ref o0, .ref a0, .int (nI x), .int (nI w), .int (nI c), .int (nI t)] [(o0, .inr (2, [.ref o1, .ref o2, .int ab, .int be])), (o1, .inl (cI, 21, .inl wa)), (o2, .inl (cI, 21, .inl nw)), (a0, .inr (0, [.ref a1, .ref a2, .int (nI co), .int (nI ro), .int sl])), (a1, .inl (cI, 48, .inl th)), (a2, .inl (cI, 48, .inl ow))] (fun (u : (Nat → Int32) × (Nat → Int32) × (Int32) × (Int32)) => ((∀ part : Int32, (if part.toInt = 0 then u.2.2.1 else u.2.2.2) = lowN (lkN th co ro x w c t) (pw10 ro) part) ∧ (True))) (fun (u : (Nat → Int32) × (Nat → Int32) × (Int32) × (Int32)) => ([(o0, .inr (2, [.ref o1, .ref o2, .int u.2.2.1, .int u.2.2.2])), (o1, .inl (cI, 21, .inl u.1)), (o2, .inl (cI, 21, .inl u.2.1)), (a0, .inr (0, [.ref a1, .ref a2, .int (nI co), .int (nI ro), .int sl])), (a1, .inl (cI, 48, .inl th)), (a2, .inl (cI, 48, .inl ow))] : va_W)) :=
  Cv.of (by decide) (Nat.le_of_ble_eq_true rfl) (fun X h hR _ => w_X2_findS X h o0 o1 o2 wa nw ab be a0 a1 a2 th ow co ro sl x w c t hrc hco hro hx hw hw1 hc ht hR)
set_option maxRecDepth 100000 in
set_option maxHeartbeats 4000000 in
theorem w_X8_likelyS (X : Cx) {cI cE : ClassId} (h : Ok X cX8_likely RX8 7 cI cE 4 0 0) (z0 : Nat) (g0 : Nat) (a0 : Nat) (f0 : Nat) (s0 : Nat) (k0 : Nat) (v0 : Nat) (d0 : Nat) (y0 : Nat) (m0 : Nat) (o0 : Nat) (a1 : Nat) (a2 : Nat) (th : Nat → Int32) (ow : Nat → Int32) (co : Nat) (ro : Nat) (sl : Int32) (o1 : Nat) (o2 : Nat) (wa : Nat → Int32) (nw : Nat → Int32) (ab : Int32) (be : Int32) (p0 : Int32) (p1 : Int32) (p2 : Int32) (p3 : Int32) (p4 : Int32) (hrc : ro * co ≤ 48) (hco : co ≤ 6) (hro : ro ≤ 8) (hR : ∀ (r : Int32) (u : (Nat → Int32) × (Nat → Int32) × (Int32) × (Int32)), ((fLikely th co ro p0 p1 p2 p3 p4 = r) ∧ (True)) → RetI X cX8_likely 7 0 0 r [(z0, .inr (8, [.ref g0, .ref a0, .ref f0, .ref s0, .ref k0, .ref v0, .ref d0, .ref y0, .ref m0, .ref o0])), (a0, .inr (0, [.ref a1, .ref a2, .int (nI co), .int (nI ro), .int sl])), (a1, .inl (cI, 48, .inl th)), (a2, .inl (cI, 48, .inl ow)), (o0, .inr (2, [.ref o1, .ref o2, .int u.2.2.1, .int u.2.2.2])), (o1, .inl (cI, 21, .inl u.1)), (o2, .inl (cI, 21, .inl u.2.1))]) : J X 7 0 0 0 [(0, .ref z0), (1, .int p0), (2, .int p1), (3, .int p2), (4, .int p3), (5, .int p4)] [] [(z0, .inr (8, [.ref g0, .ref a0, .ref f0, .ref s0, .ref k0, .ref v0, .ref d0, .ref y0, .ref m0, .ref o0])), (a0, .inr (0, [.ref a1, .ref a2, .int (nI co), .int (nI ro), .int sl])), (a1, .inl (cI, 48, .inl th)), (a2, .inl (cI, 48, .inl ow)), (o0, .inr (2, [.ref o1, .ref o2, .int ab, .int be])), (o1, .inl (cI, 21, .inl wa)), (o2, .inl (cI, 21, .inl nw))] := by
  refine J_aload_n h (i := 0) dX8_likely_0 rfl 0 rfl ?_
  refine J_iload_n h (i := 1) dX8_likely_1 rfl 1 rfl ?_
  refine J_iload_n h (i := 2) dX8_likely_2 rfl 2 rfl ?_
  refine J_iconst h (v := nI 0) dX8_likely_3 (by decide) ?_
  refine K_vi h (wr := [(o0, .inr (2, [.ref o1, .ref o2, .int ab, .int be])), (o1, .inl (cI, 21, .inl wa)), (o2, .inl (cI, 21, .inl nw))]) (c_X8_isRide (xl X) (xD X) cI cE z0 g0 a0 f0 s0 k0 v0 d0 y0 m0 o0 a1 a2 th ow co ro sl p0 p1 (nI 0) (by first | exact hco |  assumption | omega | rfl)) yv_X8_isRide nm_X8_130 (by decide) (by decide) rfl rfl 0 rfl rfl rfl rfl (Nat.le_of_ble_eq_true rfl) (Nat.le_refl _) (Nat.le_refl _) dX8_likely_4 (fun r_4 u_4 p_4 => ?_)
  rcases p_4 with p_4 | p_4
  · obtain ⟨jx_4, jw_4, jh_4, rfl, f0_4, f1_4, f2_4, f3_4, f4_4, rfl, rfl, e2_4, -⟩ := p_4
    show J X 7 0 0 7 [(0, .ref z0), (1, .int (nI jx_4)), (2, .int (nI jw_4)), (3, .int p2), (4, .int p3), (5, .int p4)] [.int (nI 1)] [(z0, .inr (8, [.ref g0, .ref a0, .ref f0, .ref s0, .ref k0, .ref v0, .ref d0, .ref y0, .ref m0, .ref o0])), (a0, .inr (0, [.ref a1, .ref a2, .int (nI co), .int (nI ro), .int sl])), (a1, .inl (cI, 48, .inl th)), (a2, .inl (cI, 48, .inl ow)), (o0, .inr (2, [.ref o1, .ref o2, .int ab, .int be])), (o1, .inl (cI, 21, .inl wa)), (o2, .inl (cI, 21, .inl nw))]
    refine J_if_eq h 30 dX8_likely_7 (by decide) (fun z => absurd z (by decide)) (fun _ => ?_)
    refine J_aload_n h (i := 0) dX8_likely_10 rfl 0 rfl ?_
    refine J_iload_n h (i := 3) dX8_likely_11 rfl 3 rfl ?_
    refine K_vi h (wr := [(o0, .inr (2, [.ref o1, .ref o2, .int ab, .int be])), (o1, .inl (cI, 21, .inl wa)), (o2, .inl (cI, 21, .inl nw))]) (c_X8_isEnd (xl X) (xD X) cI cE z0 g0 a0 f0 s0 k0 v0 d0 y0 m0 o0 a1 a2 th ow co ro sl p2 (by first | exact hrc |  assumption | omega | rfl)) yv_X8_isEnd nm_X8_215 (by decide) (by decide) rfl rfl 0 rfl rfl rfl rfl (Nat.le_of_ble_eq_true rfl) (Nat.le_refl _) (Nat.le_refl _) dX8_likely_12 (fun r_12 u_12 p_12 => ?_)
    rcases p_12 with p_12 | p_12
    · obtain ⟨jc_12, rfl, f0_12, f1_12, rfl, -⟩ := p_12
      show J X 7 0 0 15 [(0, .ref z0), (1, .int (nI jx_4)), (2, .int (nI jw_4)), (3, .int (nI jc_12)), (4, .int p3), (5, .int p4)] [.int (nI 1)] [(z0, .inr (8, [.ref g0, .ref a0, .ref f0, .ref s0, .ref k0, .ref v0, .ref d0, .ref y0, .ref m0, .ref o0])), (a0, .inr (0, [.ref a1, .ref a2, .int (nI co), .int (nI ro), .int sl])), (a1, .inl (cI, 48, .inl th)), (a2, .inl (cI, 48, .inl ow)), (o0, .inr (2, [.ref o1, .ref o2, .int ab, .int be])), (o1, .inl (cI, 21, .inl wa)), (o2, .inl (cI, 21, .inl nw))]
      refine J_if_eq h 30 dX8_likely_15 (by decide) (fun z => absurd z (by decide)) (fun _ => ?_)
      refine J_iload h dX8_likely_18 5 rfl ?_
      refine K_si h (wr := [(z0, .inr (8, [.ref g0, .ref a0, .ref f0, .ref s0, .ref k0, .ref v0, .ref d0, .ref y0, .ref m0, .ref o0])), (a0, .inr (0, [.ref a1, .ref a2, .int (nI co), .int (nI ro), .int sl])), (a1, .inl (cI, 48, .inl th)), (a2, .inl (cI, 48, .inl ow)), (o0, .inr (2, [.ref o1, .ref o2, .int ab, .int be])), (o1, .inl (cI, 21, .inl wa)), (o2, .inl (cI, 21, .inl nw))]) (c_X8_isFlag (xl X) (xD X) cI cE p4 ) yv_X8_isFlag nm_X8_117 (by decide) (by decide) rfl rfl rfl (Nat.le_of_ble_eq_true rfl) (Nat.le_refl _) (Nat.le_refl _) dX8_likely_20 (fun r_20 u_20 p_20 => ?_)
      rcases p_20 with p_20 | p_20
      · obtain ⟨rfl, f0_20, -⟩ := p_20
        show J X 7 0 0 23 [(0, .ref z0), (1, .int (nI jx_4)), (2, .int (nI jw_4)), (3, .int (nI jc_12)), (4, .int p3), (5, .int p4)] [.int (nI 1)] [(z0, .inr (8, [.ref g0, .ref a0, .ref f0, .ref s0, .ref k0, .ref v0, .ref d0, .ref y0, .ref m0, .ref o0])), (a0, .inr (0, [.ref a1, .ref a2, .int (nI co), .int (nI ro), .int sl])), (a1, .inl (cI, 48, .inl th)), (a2, .inl (cI, 48, .inl ow)), (o0, .inr (2, [.ref o1, .ref o2, .int ab, .int be])), (o1, .inl (cI, 21, .inl wa)), (o2, .inl (cI, 21, .inl nw))]
        refine J_if_eq h 30 dX8_likely_23 (by decide) (fun z => absurd z (by decide)) (fun _ => ?_)
        refine J_iconst h (v := nI 1) dX8_likely_26 (by decide) ?_
        refine J_goto h 31 dX8_likely_27 (by decide) ?_
        refine J_istore h (lv' := [(6, .int (nI 1)), (0, .ref z0), (1, .int (nI jx_4)), (2, .int (nI jw_4)), (3, .int (nI jc_12)), (4, .int p3), (5, .int p4)]) dX8_likely_31 (by decide) rfl ?_
        refine J_iload h dX8_likely_33 0 rfl ?_
        refine J_if_eq h 50 dX8_likely_35 (by decide) (fun z => absurd z (by decide)) (fun _ => ?_)
        refine J_iload h dX8_likely_38 5 rfl ?_
        refine T_if_lt h (A := (p3).toInt) 50 dX8_likely_40 (by decide) (rfl) (fun c_40 => ?_) (fun c_40 => ?_)
        · skip
          refine J_iconst h (v := (-1)) dX8_likely_50 (by decide) ?_
          exact hR ((-1)) (wa, nw, ab, be) (⟨(by (try dsimp only); exact fLik_no (fun q => by have q1 := q.1; have q2 := q.2.1; have q3 := q.2.2.1; have q4 := q.2.2.2; first | exact absurd q1 (by assumption) | exact absurd q2 (by assumption) | exact absurd q4 (by assumption) | omega)), trivial⟩) 51 _ dX8_likely_51
        · skip
          refine J_iload h dX8_likely_43 5 rfl ?_
          refine J_bipush h (v := nI 10) dX8_likely_45 (by decide) ?_
          refine T_icmp_le h (A := (p3).toInt) (B := 10) 52 dX8_likely_47 (by decide) (rfl) (nI_toInt (by omega)) (fun c_47 => ?_) (fun c_47 => ?_)
          · skip
            obtain ⟨jt, hjt, rfl⟩ := toNI (x := p3) (n := 11) (by omega) (by omega)
            refine J_aload_n h (i := 0) dX8_likely_52 rfl 1 rfl ?_
            refine J_get h inX8 rfl 0 9 (by decide) rfl rfl nf_X8_69 dX8_likely_53 ?_
            refine J_aload_n h (i := 0) dX8_likely_56 rfl 1 rfl ?_
            refine J_get h inX8 rfl 0 1 (by decide) rfl rfl nf_X8_19 dX8_likely_57 ?_
            refine J_iload_n h (i := 1) dX8_likely_60 rfl 2 rfl ?_
            refine J_iload_n h (i := 2) dX8_likely_61 rfl 3 rfl ?_
            refine J_iload_n h (i := 3) dX8_likely_62 rfl 4 rfl ?_
            refine J_iload h dX8_likely_63 5 rfl ?_
            refine J.wld [4, 5, 6, 1, 2, 3, 0] (ws' := [(o0, .inr (2, [.ref o1, .ref o2, .int ab, .int be])), (o1, .inl (cI, 21, .inl wa)), (o2, .inl (cI, 21, .inl nw)), (a0, .inr (0, [.ref a1, .ref a2, .int (nI co), .int (nI ro), .int sl])), (a1, .inl (cI, 48, .inl th)), (a2, .inl (cI, 48, .inl ow)), (z0, .inr (8, [.ref g0, .ref a0, .ref f0, .ref s0, .ref k0, .ref v0, .ref d0, .ref y0, .ref m0, .ref o0]))]) rfl rfl ?_
            refine K_vv h (wr := [(z0, .inr (8, [.ref g0, .ref a0, .ref f0, .ref s0, .ref k0, .ref v0, .ref d0, .ref y0, .ref m0, .ref o0]))]) (c_X2_findS (xl X) (xD X) cI cE o0 o1 o2 wa nw ab be a0 a1 a2 th ow co ro sl jx_4 jw_4 jc_12 jt (by first | exact hrc |  assumption | omega | rfl) (by first | exact hco |  assumption | omega | rfl) (by first | exact hro |  assumption | omega | rfl) (by first | assumption | omega | rfl) (by first | assumption | omega | rfl) (by first | assumption | omega | rfl) (by first | assumption | omega | rfl) (by first | assumption | omega | rfl)) yv_X2_find nm_X8_229 (by decide) (by decide) rfl rfl 0 rfl rfl rfl rfl (Nat.le_of_ble_eq_true rfl) (Nat.le_refl _) (Nat.le_refl _) dX8_likely_65 (fun u_65 p_65 => ?_)
            obtain ⟨wa2_65, nw2_65, ab2_65, be2_65⟩ := u_65
            try dsimp only at p_65
            obtain ⟨f0_65, -⟩ := p_65
            show J X 7 0 0 68 [(6, .int (nI 1)), (0, .ref z0), (1, .int (nI jx_4)), (2, .int (nI jw_4)), (3, .int (nI jc_12)), (4, .int (nI jt)), (5, .int p4)] [] [(o0, .inr (2, [.ref o1, .ref o2, .int ab2_65, .int be2_65])), (o1, .inl (cI, 21, .inl wa2_65)), (o2, .inl (cI, 21, .inl nw2_65)), (a0, .inr (0, [.ref a1, .ref a2, .int (nI co), .int (nI ro), .int sl])), (a1, .inl (cI, 48, .inl th)), (a2, .inl (cI, 48, .inl ow)), (z0, .inr (8, [.ref g0, .ref a0, .ref f0, .ref s0, .ref k0, .ref v0, .ref d0, .ref y0, .ref m0, .ref o0]))]
            refine J_iload h dX8_likely_68 6 rfl ?_
            refine T_if_ne h (A := (p4).toInt) 83 dX8_likely_70 (by decide) (rfl) (fun c_70 => ?_) (fun c_70 => ?_)
            · skip
              refine J_aload_n h (i := 0) dX8_likely_83 rfl 1 rfl ?_
              refine J_get h inX8 rfl 6 9 (by decide) rfl rfl nf_X8_69 dX8_likely_84 ?_
              refine J_get h inX2 rfl 0 3 (by decide) rfl rfl nf_X8_236 dX8_likely_87 ?_
              refine J.wld [6, 3, 4, 5, 0, 1, 2] (ws' := [(z0, .inr (8, [.ref g0, .ref a0, .ref f0, .ref s0, .ref k0, .ref v0, .ref d0, .ref y0, .ref m0, .ref o0])), (a0, .inr (0, [.ref a1, .ref a2, .int (nI co), .int (nI ro), .int sl])), (a1, .inl (cI, 48, .inl th)), (a2, .inl (cI, 48, .inl ow)), (o0, .inr (2, [.ref o1, .ref o2, .int ab2_65, .int be2_65])), (o1, .inl (cI, 21, .inl wa2_65)), (o2, .inl (cI, 21, .inl nw2_65))]) rfl rfl ?_
              exact hR be2_65 (wa2_65, nw2_65, ab2_65, be2_65) (⟨(by (try dsimp only); first | exact (fLik_low (by assumption) (by assumption) (by omega) (by assumption) (by omega) (by omega) (by omega)).trans ((f0_65 p4).symm.trans (if_pos (by omega))) | exact (fLik_low (by assumption) (by assumption) (by omega) (by assumption) (by omega) (by omega) (by omega)).trans ((f0_65 p4).symm.trans (if_neg (by omega)))), trivial⟩) 90 _ dX8_likely_90
            · skip
              refine J_aload_n h (i := 0) dX8_likely_73 rfl 1 rfl ?_
              refine J_get h inX8 rfl 6 9 (by decide) rfl rfl nf_X8_69 dX8_likely_74 ?_
              refine J_get h inX2 rfl 0 2 (by decide) rfl rfl nf_X8_233 dX8_likely_77 ?_
              refine J_goto h 90 dX8_likely_80 (by decide) ?_
              refine J.wld [6, 3, 4, 5, 0, 1, 2] (ws' := [(z0, .inr (8, [.ref g0, .ref a0, .ref f0, .ref s0, .ref k0, .ref v0, .ref d0, .ref y0, .ref m0, .ref o0])), (a0, .inr (0, [.ref a1, .ref a2, .int (nI co), .int (nI ro), .int sl])), (a1, .inl (cI, 48, .inl th)), (a2, .inl (cI, 48, .inl ow)), (o0, .inr (2, [.ref o1, .ref o2, .int ab2_65, .int be2_65])), (o1, .inl (cI, 21, .inl wa2_65)), (o2, .inl (cI, 21, .inl nw2_65))]) rfl rfl ?_
              exact hR ab2_65 (wa2_65, nw2_65, ab2_65, be2_65) (⟨(by (try dsimp only); first | exact (fLik_low (by assumption) (by assumption) (by omega) (by assumption) (by omega) (by omega) (by omega)).trans ((f0_65 p4).symm.trans (if_pos (by omega))) | exact (fLik_low (by assumption) (by assumption) (by omega) (by assumption) (by omega) (by omega) (by omega)).trans ((f0_65 p4).symm.trans (if_neg (by omega)))), trivial⟩) 90 _ dX8_likely_90
          · skip
            refine J_iconst h (v := (-1)) dX8_likely_50 (by decide) ?_
            exact hR ((-1)) (wa, nw, ab, be) (⟨(by (try dsimp only); exact fLik_no (fun q => by have q1 := q.1; have q2 := q.2.1; have q3 := q.2.2.1; have q4 := q.2.2.2; first | exact absurd q1 (by assumption) | exact absurd q2 (by assumption) | exact absurd q4 (by assumption) | omega)), trivial⟩) 51 _ dX8_likely_51
      · obtain ⟨rfl, f0_20, -⟩ := p_20
        show J X 7 0 0 23 [(0, .ref z0), (1, .int (nI jx_4)), (2, .int (nI jw_4)), (3, .int (nI jc_12)), (4, .int p3), (5, .int p4)] [.int (nI 0)] [(z0, .inr (8, [.ref g0, .ref a0, .ref f0, .ref s0, .ref k0, .ref v0, .ref d0, .ref y0, .ref m0, .ref o0])), (a0, .inr (0, [.ref a1, .ref a2, .int (nI co), .int (nI ro), .int sl])), (a1, .inl (cI, 48, .inl th)), (a2, .inl (cI, 48, .inl ow)), (o0, .inr (2, [.ref o1, .ref o2, .int ab, .int be])), (o1, .inl (cI, 21, .inl wa)), (o2, .inl (cI, 21, .inl nw))]
        refine J_if_eq h 30 dX8_likely_23 (by decide) (fun _ => ?_) (fun z => absurd z (by decide))
        refine J_iconst h (v := nI 0) dX8_likely_30 (by decide) ?_
        refine J_istore h (lv' := [(6, .int (nI 0)), (0, .ref z0), (1, .int (nI jx_4)), (2, .int (nI jw_4)), (3, .int (nI jc_12)), (4, .int p3), (5, .int p4)]) dX8_likely_31 (by decide) rfl ?_
        refine J_iload h dX8_likely_33 0 rfl ?_
        refine J_if_eq h 50 dX8_likely_35 (by decide) (fun _ => ?_) (fun z => absurd z (by decide))
        refine J_iconst h (v := (-1)) dX8_likely_50 (by decide) ?_
        exact hR ((-1)) (wa, nw, ab, be) (⟨(by (try dsimp only); exact fLik_no (fun q => by have q1 := q.1; have q2 := q.2.1; have q3 := q.2.2.1; have q4 := q.2.2.2; first | exact absurd q1 (by assumption) | exact absurd q2 (by assumption) | exact absurd q4 (by assumption) | omega)), trivial⟩) 51 _ dX8_likely_51
    · obtain ⟨rfl, f0_12, -⟩ := p_12
      show J X 7 0 0 15 [(0, .ref z0), (1, .int (nI jx_4)), (2, .int (nI jw_4)), (3, .int p2), (4, .int p3), (5, .int p4)] [.int (nI 0)] [(z0, .inr (8, [.ref g0, .ref a0, .ref f0, .ref s0, .ref k0, .ref v0, .ref d0, .ref y0, .ref m0, .ref o0])), (a0, .inr (0, [.ref a1, .ref a2, .int (nI co), .int (nI ro), .int sl])), (a1, .inl (cI, 48, .inl th)), (a2, .inl (cI, 48, .inl ow)), (o0, .inr (2, [.ref o1, .ref o2, .int ab, .int be])), (o1, .inl (cI, 21, .inl wa)), (o2, .inl (cI, 21, .inl nw))]
      refine J_if_eq h 30 dX8_likely_15 (by decide) (fun _ => ?_) (fun z => absurd z (by decide))
      refine J_iconst h (v := nI 0) dX8_likely_30 (by decide) ?_
      refine J_istore h (lv' := [(6, .int (nI 0)), (0, .ref z0), (1, .int (nI jx_4)), (2, .int (nI jw_4)), (3, .int p2), (4, .int p3), (5, .int p4)]) dX8_likely_31 (by decide) rfl ?_
      refine J_iload h dX8_likely_33 0 rfl ?_
      refine J_if_eq h 50 dX8_likely_35 (by decide) (fun _ => ?_) (fun z => absurd z (by decide))
      refine J_iconst h (v := (-1)) dX8_likely_50 (by decide) ?_
      exact hR ((-1)) (wa, nw, ab, be) (⟨(by (try dsimp only); exact fLik_no (fun q => by have q1 := q.1; have q2 := q.2.1; have q3 := q.2.2.1; have q4 := q.2.2.2; first | exact absurd q1 (by assumption) | exact absurd q2 (by assumption) | exact absurd q4 (by assumption) | omega)), trivial⟩) 51 _ dX8_likely_51
  · obtain ⟨rfl, f0_4, -⟩ := p_4
    show J X 7 0 0 7 [(0, .ref z0), (1, .int p0), (2, .int p1), (3, .int p2), (4, .int p3), (5, .int p4)] [.int (nI 0)] [(z0, .inr (8, [.ref g0, .ref a0, .ref f0, .ref s0, .ref k0, .ref v0, .ref d0, .ref y0, .ref m0, .ref o0])), (a0, .inr (0, [.ref a1, .ref a2, .int (nI co), .int (nI ro), .int sl])), (a1, .inl (cI, 48, .inl th)), (a2, .inl (cI, 48, .inl ow)), (o0, .inr (2, [.ref o1, .ref o2, .int ab, .int be])), (o1, .inl (cI, 21, .inl wa)), (o2, .inl (cI, 21, .inl nw))]
    refine J_if_eq h 30 dX8_likely_7 (by decide) (fun _ => ?_) (fun z => absurd z (by decide))
    refine J_iconst h (v := nI 0) dX8_likely_30 (by decide) ?_
    refine J_istore h (lv' := [(6, .int (nI 0)), (0, .ref z0), (1, .int p0), (2, .int p1), (3, .int p2), (4, .int p3), (5, .int p4)]) dX8_likely_31 (by decide) rfl ?_
    refine J_iload h dX8_likely_33 0 rfl ?_
    refine J_if_eq h 50 dX8_likely_35 (by decide) (fun _ => ?_) (fun z => absurd z (by decide))
    refine J_iconst h (v := (-1)) dX8_likely_50 (by decide) ?_
    exact hR ((-1)) (wa, nw, ab, be) (⟨(by (try dsimp only); exact fLik_no (fun q => by have q1 := q.1; have q2 := q.2.1; have q3 := q.2.2.1; have q4 := q.2.2.2; first | exact absurd q1 (by assumption) | exact absurd q2 (by assumption) | exact absurd q4 (by assumption) | omega)), trivial⟩) 51 _ dX8_likely_51
theorem c_X8_likelyS (l : Launch) (D : va_G) (cI cE : ClassId) (z0 : Nat) (g0 : Nat) (a0 : Nat) (f0 : Nat) (s0 : Nat) (k0 : Nat) (v0 : Nat) (d0 : Nat) (y0 : Nat) (m0 : Nat) (o0 : Nat) (a1 : Nat) (a2 : Nat) (th : Nat → Int32) (ow : Nat → Int32) (co : Nat) (ro : Nat) (sl : Int32) (o1 : Nat) (o2 : Nat) (wa : Nat → Int32) (nw : Nat → Int32) (ab : Int32) (be : Int32) (p0 : Int32) (p1 : Int32) (p2 : Int32) (p3 : Int32) (p4 : Int32) (hrc : ro * co ≤ 48) (hco : co ≤ 6) (hro : ro ≤ 8) : Ci l D cI cE yX8_likely cX8_likely 7 (some .int) 4 0 0 [.ref z0, .int p0, .int p1, .int p2, .int p3, .int p4] [(z0, .inr (8, [.ref g0, .ref a0, .ref f0, .ref s0, .ref k0, .ref v0, .ref d0, .ref y0, .ref m0, .ref o0])), (a0, .inr (0, [.ref a1, .ref a2, .int (nI co), .int (nI ro), .int sl])), (a1, .inl (cI, 48, .inl th)), (a2, .inl (cI, 48, .inl ow)), (o0, .inr (2, [.ref o1, .ref o2, .int ab, .int be])), (o1, .inl (cI, 21, .inl wa)), (o2, .inl (cI, 21, .inl nw))] (fun (r : Int32) (u : (Nat → Int32) × (Nat → Int32) × (Int32) × (Int32)) => ((fLikely th co ro p0 p1 p2 p3 p4 = r) ∧ (True))) (fun (u : (Nat → Int32) × (Nat → Int32) × (Int32) × (Int32)) => ([(z0, .inr (8, [.ref g0, .ref a0, .ref f0, .ref s0, .ref k0, .ref v0, .ref d0, .ref y0, .ref m0, .ref o0])), (a0, .inr (0, [.ref a1, .ref a2, .int (nI co), .int (nI ro), .int sl])), (a1, .inl (cI, 48, .inl th)), (a2, .inl (cI, 48, .inl ow)), (o0, .inr (2, [.ref o1, .ref o2, .int u.2.2.1, .int u.2.2.2])), (o1, .inl (cI, 21, .inl u.1)), (o2, .inl (cI, 21, .inl u.2.1))] : va_W)) :=
  Ci.of (by decide) (Nat.le_of_ble_eq_true rfl) (fun _ _ _ => rfl) (fun X h hR => w_X8_likelyS X h z0 g0 a0 f0 s0 k0 v0 d0 y0 m0 o0 a1 a2 th ow co ro sl o1 o2 wa nw ab be p0 p1 p2 p3 p4 hrc hco hro hR)
