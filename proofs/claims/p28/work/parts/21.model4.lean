set_option maxRecDepth 100000 in
set_option maxHeartbeats 4000000 in
theorem w_X9_hasN (X : Cx) {cI cE : ClassId} (h : Ok X cX9_has RX9 2 cI cE 0 0 0) (p0 : Nat) (p1 : Nat) (hp0 : p0 < 256) (hp1 : p1 < 8) (hR : ∀ (r : Int32) (u : Unit), ((nI 1 = r) ∧ (bitN p0 p1 = 1) ∧ (True)) ∨ ((nI 0 = r) ∧ (bitN p0 p1 = 0) ∧ (True)) → RetI X cX9_has 2 0 0 r []) : J X 2 0 0 0 [(0, .int (nI p0)), (1, .int (nI p1))] [] [] := by
  refine J_iload_n h (i := 0) dX9_has_0 rfl 0 rfl ?_
  refine J_iload_n h (i := 1) dX9_has_1 rfl 1 rfl ?_
  refine J_ishr h dX9_has_2 ?_
  refine J_iconst h (v := nI 1) dX9_has_3 (by decide) ?_
  refine J_iand h dX9_has_4 ?_
  refine J_eqs (st' := [.int (nI (bitN p0 p1))]) (by rw [has_bit p0 hp0 p1 hp1]) ?_
  have hbl := bitN_le p0 p1
  refine J_iconst h (v := nI 1) dX9_has_5 (by decide) ?_
  refine N_icmp_ne h 13 dX9_has_6 (by decide) (by omega) (by omega) (fun c_6 => ?_) (fun c_6 => ?_)
  · skip
    refine J_iconst h (v := nI 0) dX9_has_13 (by decide) ?_
    exact hR (nI 0) () (Or.inr (⟨rfl, (by first | assumption | omega | rfl), trivial⟩)) 14 _ dX9_has_14
  · skip
    refine J_iconst h (v := nI 1) dX9_has_9 (by decide) ?_
    refine J_goto h 14 dX9_has_10 (by decide) ?_
    exact hR (nI 1) () (Or.inl ⟨rfl, (by first | assumption | omega | rfl), trivial⟩) 14 _ dX9_has_14
theorem c_X9_hasN (l : Launch) (D : va_G) (cI cE : ClassId) (p0 : Nat) (p1 : Nat) (hp0 : p0 < 256) (hp1 : p1 < 8) : Ci l D cI cE yX9_has cX9_has 2 (some .boolean) 0 0 0 [.int (nI p0), .int (nI p1)] [] (fun (r : Int32) (u : Unit) => ((nI 1 = r) ∧ (bitN p0 p1 = 1) ∧ (True)) ∨ ((nI 0 = r) ∧ (bitN p0 p1 = 0) ∧ (True))) (fun (u : Unit) => ([] : va_W)) :=
  Ci.of (by decide) (Nat.le_of_ble_eq_true rfl) (fun r u hp => by rcases hp with ⟨hp, _⟩ | ⟨hp, _⟩ <;> (rw [← hp]; rfl)) (fun X h hR => w_X9_hasN X h p0 p1 hp0 hp1 hR)
set_option maxRecDepth 100000 in
set_option maxHeartbeats 4000000 in
theorem w_X9_common_6 (X : Cx) {cI cE : ClassId} (h : Ok X cX9_common RX9 10 cI cE 0 0 0) (a : Nat) (b : Nat) (ha : a < 2 ^ 63) (hb : b < 2 ^ 63) (hR : ∀ (r : Int64) (u : Unit), ((lN (Nat.gcd a b) = r) ∧ (True)) → RetL X cX9_common 10 0 0 r []) : ∀ (n_6 : Nat) (x : Nat) (y : Nat), (x < 2 ^ 63) → (y < 2 ^ 63) → (EqN (Nat.gcd a b) (Nat.gcd x y)) → y < n_6 → J X 10 0 0 6 [(4, .long (lN x)), (6, .long (lN y))] [] [] := by
  intro n_6
  induction n_6 with
  | zero => intro x y hx hy hg hn_; exact absurd hn_ (Nat.not_lt_zero _)
  | succ n_6 ih_6 =>
    intro x y hx hy hg hn_6
    refine J_lload h dX9_common_6 1 rfl ?_
    refine J_lconst h (v := 0) dX9_common_8 rfl ?_
    refine J_lcmp h dX9_common_9 ?_
    refine J_if_eq h 31 dX9_common_10 (by decide) (fun c_10 => ?_) (fun c_10 => ?_)
    · skip
      refine J_lload h dX9_common_31 0 rfl ?_
      exact hR (lN x) () (⟨(by have e0 := (lcmp0 hy).mp c_10; rw [hg.eq, e0, Nat.gcd_zero_right]), trivial⟩) 33 _ dX9_common_33
    · skip
      have hy0 : y ≠ 0 := fun q => c_10 ((lcmp0 hy).mpr q)
      refine J_lload h dX9_common_13 0 rfl ?_
      refine J_lload h dX9_common_15 1 rfl ?_
      refine J_lrem h dX9_common_17 (by exact lN_ne0 (by omega) hy) ?_
      refine J_eqs (st' := [.long (lN (x % y))]) (by rw [pk_lRem hx (by omega) hy]) ?_
      refine J_lstore h (lv' := [(8, .long (lN (x % y))), (4, .long (lN x)), (6, .long (lN y))]) dX9_common_18 (by decide) rfl ?_
      refine J_lload h dX9_common_20 2 rfl ?_
      refine J_lstore h (lv' := [(4, .long (lN y)), (8, .long (lN (x % y))), (6, .long (lN y))]) dX9_common_22 (by decide) rfl ?_
      refine J_lload h dX9_common_24 1 rfl ?_
      refine J_lstore h (lv' := [(6, .long (lN (x % y))), (4, .long (lN y)), (8, .long (lN (x % y)))]) dX9_common_26 (by decide) rfl ?_
      refine J_goto h 6 dX9_common_28 (by decide) ?_
      refine J.loc [1, 0] (lv' := [(4, .long (lN y)), (6, .long (lN (x % y)))]) rfl ?_
      exact ih_6 y (x % y) (by first | exact hx |  assumption | omega | rfl) (by exact Nat.lt_trans (Nat.mod_lt x (by omega)) hy) (by exact .mk (gcd_go hg.eq hy0)) (by have hml := Nat.mod_lt x (show y > 0 by omega); omega)
set_option maxRecDepth 100000 in
set_option maxHeartbeats 4000000 in
theorem w_X9_common (X : Cx) {cI cE : ClassId} (h : Ok X cX9_common RX9 10 cI cE 0 0 0) (a : Nat) (b : Nat) (ha : a < 2 ^ 63) (hb : b < 2 ^ 63) (hR : ∀ (r : Int64) (u : Unit), ((lN (Nat.gcd a b) = r) ∧ (True)) → RetL X cX9_common 10 0 0 r []) : J X 10 0 0 0 [(0, .long (lN a)), (2, .long (lN b))] [] [] := by
  refine J_lload_n h (i := 0) dX9_common_0 rfl 0 rfl ?_
  refine J_lstore h (lv' := [(4, .long (lN a)), (0, .long (lN a)), (2, .long (lN b))]) dX9_common_1 (by decide) rfl ?_
  refine J_lload_n h (i := 2) dX9_common_3 rfl 2 rfl ?_
  refine J_lstore h (lv' := [(6, .long (lN b)), (4, .long (lN a)), (0, .long (lN a)), (2, .long (lN b))]) dX9_common_4 (by decide) rfl ?_
  refine J.loc [1, 0] (lv' := [(4, .long (lN a)), (6, .long (lN b))]) rfl ?_
  exact w_X9_common_6 X h a b ha hb hR  (b + 1) a b (by first | assumption | omega | rfl) (by first | assumption | omega | rfl) (by exact .mk rfl) (by omega)
theorem c_X9_common (l : Launch) (D : va_G) (cI cE : ClassId) (a : Nat) (b : Nat) (ha : a < 2 ^ 63) (hb : b < 2 ^ 63) : Cl l D cI cE yX9_common cX9_common 10 (some .long) 0 0 0 [.long (lN a), .long (lN b)] [] (fun (r : Int64) (u : Unit) => ((lN (Nat.gcd a b) = r) ∧ (True))) (fun (u : Unit) => ([] : va_W)) :=
  Cl.of (by decide) (Nat.le_of_ble_eq_true rfl) (fun X h hR => w_X9_common X h a b ha hb hR)
theorem yv_X9_common : YS yX9_common cX9_common 10 (some .long) 2 := ⟨ns_X9_common, ni_X9, nk_X9_common, by decide +kernel⟩
set_option maxRecDepth 100000 in
set_option maxHeartbeats 4000000 in
theorem w_X9_endBy_6 (X : Cx) {cI cE : ClassId} (h : Ok X cX9_endBy RX9 6 cI cE 1 0 0) (q0 : Nat) (q3 : Nat) (q4 : Nat) (q6 : Nat) (q7 : Nat) (q8 : Nat) (q9 : Nat) (q14 : Nat) (q15 : Nat) (q17 : Nat) (q18 : Nat) (q19 : Nat) (q23 : Nat) (q24 : Nat) (q25 : Nat) (ro : Nat) (co : Nat) (sl : Int32) (sn : Int32) (ts : Int32) (ra : Int32) (rr : Int32) (rw : Int32) (rn : Int32) (um : Int32) (bs : Int32) (bh : Int32) (km : Int32) (th : Nat → Int32) (cth : Nat → Int32) (x : Nat) (w : Nat) (ice : Nat) (hrc : ro * co ≤ 48) (hco : co ≤ 6) (hro : ro ≤ 8) (hx : x < co) (hw : w ≤ 20) (hice : ice < 256) (hth : relT (ro * co) th cth) (hR : ∀ (r : Int32) (u : Unit), ((nI (eby cth co ro x ice w) = r) ∧ (True)) → RetI X cX9_endBy 6 0 0 r [(q0, .inr (9, [.int (nI ro), .int (nI co), .int sl, .ref q3, .ref q4, .int sn, .ref q6, .ref q7, .ref q8, .ref q9, .int ts, .int ra, .int rr, .int rw, .ref q14, .ref q15, .int rn, .ref q17, .ref q18, .ref q19, .int um, .int bs, .int bh, .ref q23, .ref q24, .ref q25, .int km])), (q3, .inl (cI, 48, .inl th))]) : ∀ (n_6 : Nat) (k : Nat) (v : Nat), (k ≤ ro) → (v = evs cth co x ice w k) → (∀ i, i < k → evs cth co x ice w (i + 1) ≠ 0) → ro - k < n_6 → J X 6 0 0 6 [(0, .ref q0), (1, .int (nI x)), (3, .int (nI ice)), (4, .int (nI v)), (5, .int (nI k))] [] [(q0, .inr (9, [.int (nI ro), .int (nI co), .int sl, .ref q3, .ref q4, .int sn, .ref q6, .ref q7, .ref q8, .ref q9, .int ts, .int ra, .int rr, .int rw, .ref q14, .ref q15, .int rn, .ref q17, .ref q18, .ref q19, .int um, .int bs, .int bh, .ref q23, .ref q24, .ref q25, .int km])), (q3, .inl (cI, 48, .inl th))] := by
  intro n_6
  induction n_6 with
  | zero => intro k v hk hv hnot hn_; exact absurd hn_ (Nat.not_lt_zero _)
  | succ n_6 ih_6 =>
    intro k v hk hv hnot hn_6
    have hvl := evs_le cth co x ice hw k
    rw [← hv] at hvl
    have hkc : k < ro → k * co + x < ro * co := fun q => by have := Nat.mul_le_mul_right co (show k + 1 ≤ ro by omega); rw [Nat.succ_mul] at this; omega
    refine J_iload h dX9_endBy_6 4 rfl ?_
    refine J_aload_n h (i := 0) dX9_endBy_8 rfl 0 rfl ?_
    refine J_get h inX9 rfl 0 0 (by decide) rfl rfl nf_X9_60 dX9_endBy_9 ?_
    refine N_icmp_ge h 70 dX9_endBy_12 (by decide) (by omega) (by omega) (fun c_12 => ?_) (fun c_12 => ?_)
    · skip
      refine J_bipush h (v := nI 99) dX9_endBy_70 (by decide) ?_
      exact hR (nI 99) () (⟨(by rw [eby_sea (fun i hi => hnot i (by omega))]), trivial⟩) 72 _ dX9_endBy_72
    · skip
      refine J_iload_n h (i := 3) dX9_endBy_15 rfl 2 rfl ?_
      refine J_iload h dX9_endBy_16 4 rfl ?_
      refine K_si h (wr := [(q0, .inr (9, [.int (nI ro), .int (nI co), .int sl, .ref q3, .ref q4, .int sn, .ref q6, .ref q7, .ref q8, .ref q9, .int ts, .int ra, .int rr, .int rw, .ref q14, .ref q15, .int rn, .ref q17, .ref q18, .ref q19, .int um, .int bs, .int bh, .ref q23, .ref q24, .ref q25, .int km])), (q3, .inl (cI, 48, .inl th))]) (c_X9_hasN (xl X) (xD X) cI cE ice k (by first | assumption | omega | rfl) (by first | assumption | omega | rfl)) yv_X9_has nm_X9_194 (by decide) (by decide) rfl rfl rfl (Nat.le_of_ble_eq_true rfl) (Nat.le_refl _) (Nat.le_refl _) dX9_endBy_18 (fun r_18 u_18 p_18 => ?_)
      rcases p_18 with p_18 | p_18
      · obtain ⟨rfl, f0_18, -⟩ := p_18
        show J X 6 0 0 21 [(0, .ref q0), (1, .int (nI x)), (3, .int (nI ice)), (4, .int (nI v)), (5, .int (nI k))] [.int (nI 1)] [(q0, .inr (9, [.int (nI ro), .int (nI co), .int sl, .ref q3, .ref q4, .int sn, .ref q6, .ref q7, .ref q8, .ref q9, .int ts, .int ra, .int rr, .int rw, .ref q14, .ref q15, .int rn, .ref q17, .ref q18, .ref q19, .int um, .int bs, .int bh, .ref q23, .ref q24, .ref q25, .int km])), (q3, .inl (cI, 48, .inl th))]
        refine J_if_eq h 28 dX9_endBy_21 (by decide) (fun z => absurd z (by decide)) (fun _ => ?_)
        refine J_iconst h (v := nI 1) dX9_endBy_24 (by decide) ?_
        refine J_goto h 42 dX9_endBy_25 (by decide) ?_
        refine J_iload h dX9_endBy_42 3 rfl ?_
        refine K_si h (wr := [(q0, .inr (9, [.int (nI ro), .int (nI co), .int sl, .ref q3, .ref q4, .int sn, .ref q6, .ref q7, .ref q8, .ref q9, .int ts, .int ra, .int rr, .int rw, .ref q14, .ref q15, .int rn, .ref q17, .ref q18, .ref q19, .int um, .int bs, .int bh, .ref q23, .ref q24, .ref q25, .int km])), (q3, .inl (cI, 48, .inl th))]) (c_X9_slower (xl X) (xD X) cI cE (nI 1) v (by first | (exact ⟨by decide, by decide⟩) | (rw [(hth _ hkl).1]; exact (hth _ hkl).2)) (by first | assumption | omega | rfl)) yv_X9_slower nm_X9_127 (by decide) (by decide) rfl rfl rfl (Nat.le_of_ble_eq_true rfl) (Nat.le_refl _) (Nat.le_refl _) dX9_endBy_44 (fun r_44 u_44 p_44 => ?_)
        obtain ⟨rfl, -⟩ := p_44
        show J X 6 0 0 47 [(0, .ref q0), (1, .int (nI x)), (3, .int (nI ice)), (4, .int (nI v)), (5, .int (nI k))] [.int (nI (spd (nI 1) v))] [(q0, .inr (9, [.int (nI ro), .int (nI co), .int sl, .ref q3, .ref q4, .int sn, .ref q6, .ref q7, .ref q8, .ref q9, .int ts, .int ra, .int rr, .int rw, .ref q14, .ref q15, .int rn, .ref q17, .ref q18, .ref q19, .int um, .int bs, .int bh, .ref q23, .ref q24, .ref q25, .int km])), (q3, .inl (cI, 48, .inl th))]
        have hv1 : spd (nI 1) v = evs cth co x ice w (k + 1) := by rw [evs_s, ← hv]; first | (rw [if_pos f0_18]; done) | (rw [if_neg (by omega), (hth _ hkl).1]; done)
        have hsl : spd (nI 1) v ≤ 20 := spd_le hvl
        refine J_istore h (lv' := [(4, .int (nI (spd (nI 1) v))), (0, .ref q0), (1, .int (nI x)), (3, .int (nI ice)), (5, .int (nI k))]) dX9_endBy_47 (by decide) rfl ?_
        refine J_iload h dX9_endBy_49 0 rfl ?_
        refine N_if_ne h 64 dX9_endBy_51 (by decide) (by omega) (fun c_51 => ?_) (fun c_51 => ?_)
        · skip
          refine J_iinc h (v := nI (k + 1)) (lv' := [(5, .int (nI (k + 1))), (4, .int (nI (spd (nI 1) v))), (0, .ref q0), (1, .int (nI x)), (3, .int (nI ice))]) dX9_endBy_64 4 rfl (inc_ok _ 1) (by decide) rfl ?_
          refine J_goto h 6 dX9_endBy_67 (by decide) ?_
          refine J.loc [2, 3, 4, 1, 0] (lv' := [(0, .ref q0), (1, .int (nI x)), (3, .int (nI ice)), (4, .int (nI (spd (nI 1) v))), (5, .int (nI (k + 1)))]) rfl ?_
          exact ih_6 (k + 1) (spd (nI 1) v) (by first | exact hk |  assumption | omega | rfl) (by exact hv1) (by exact lt_s hnot (by rw [← hv1]; omega)) (by omega)
        · skip
          refine J_aload_n h (i := 0) dX9_endBy_54 rfl 1 rfl ?_
          refine J_get h inX9 rfl 0 1 (by decide) rfl rfl nf_X9_52 dX9_endBy_55 ?_
          refine J_iload h dX9_endBy_58 4 rfl ?_
          refine N_imul h dX9_endBy_60 ?_
          refine J_iload_n h (i := 1) dX9_endBy_61 rfl 2 rfl ?_
          refine N_iadd h dX9_endBy_62 ?_
          refine J_eqs (st' := [.int (nI (k * co + x))]) (by rw [Nat.mul_comm co k]) ?_
          exact hR (nI (k * co + x)) () (⟨(by rw [eby_stop hnot (by rw [← hv1]; exact c_51) (by omega)]), trivial⟩) 63 _ dX9_endBy_63
      · obtain ⟨rfl, f0_18, -⟩ := p_18
        show J X 6 0 0 21 [(0, .ref q0), (1, .int (nI x)), (3, .int (nI ice)), (4, .int (nI v)), (5, .int (nI k))] [.int (nI 0)] [(q0, .inr (9, [.int (nI ro), .int (nI co), .int sl, .ref q3, .ref q4, .int sn, .ref q6, .ref q7, .ref q8, .ref q9, .int ts, .int ra, .int rr, .int rw, .ref q14, .ref q15, .int rn, .ref q17, .ref q18, .ref q19, .int um, .int bs, .int bh, .ref q23, .ref q24, .ref q25, .int km])), (q3, .inl (cI, 48, .inl th))]
        refine J_if_eq h 28 dX9_endBy_21 (by decide) (fun _ => ?_) (fun z => absurd z (by decide))
        refine J_aload_n h (i := 0) dX9_endBy_28 rfl 0 rfl ?_
        refine J_get h inX9 rfl 0 3 (by decide) rfl rfl nf_X9_7 dX9_endBy_29 ?_
        refine J_aload_n h (i := 0) dX9_endBy_32 rfl 0 rfl ?_
        refine J_get h inX9 rfl 0 1 (by decide) rfl rfl nf_X9_52 dX9_endBy_33 ?_
        refine J_iload h dX9_endBy_36 4 rfl ?_
        refine N_imul h dX9_endBy_38 ?_
        refine J_iload_n h (i := 1) dX9_endBy_39 rfl 1 rfl ?_
        refine N_iadd h dX9_endBy_40 ?_
        refine J_eqs (st' := [.int (nI (k * co + x)), .ref q3]) (by rw [Nat.mul_comm co k]) ?_
        have hkl := hkc (by omega)
        refine N_iald h 1 rfl (by decide) (by omega) dX9_endBy_41 ?_
        refine J_iload h dX9_endBy_42 3 rfl ?_
        refine K_si h (wr := [(q0, .inr (9, [.int (nI ro), .int (nI co), .int sl, .ref q3, .ref q4, .int sn, .ref q6, .ref q7, .ref q8, .ref q9, .int ts, .int ra, .int rr, .int rw, .ref q14, .ref q15, .int rn, .ref q17, .ref q18, .ref q19, .int um, .int bs, .int bh, .ref q23, .ref q24, .ref q25, .int km])), (q3, .inl (cI, 48, .inl th))]) (c_X9_slower (xl X) (xD X) cI cE (th (k * co + x)) v (by first | (exact ⟨by decide, by decide⟩) | (rw [(hth _ hkl).1]; exact (hth _ hkl).2)) (by first | assumption | omega | rfl)) yv_X9_slower nm_X9_127 (by decide) (by decide) rfl rfl rfl (Nat.le_of_ble_eq_true rfl) (Nat.le_refl _) (Nat.le_refl _) dX9_endBy_44 (fun r_44 u_44 p_44 => ?_)
        obtain ⟨rfl, -⟩ := p_44
        show J X 6 0 0 47 [(0, .ref q0), (1, .int (nI x)), (3, .int (nI ice)), (4, .int (nI v)), (5, .int (nI k))] [.int (nI (spd (th (k * co + x)) v))] [(q0, .inr (9, [.int (nI ro), .int (nI co), .int sl, .ref q3, .ref q4, .int sn, .ref q6, .ref q7, .ref q8, .ref q9, .int ts, .int ra, .int rr, .int rw, .ref q14, .ref q15, .int rn, .ref q17, .ref q18, .ref q19, .int um, .int bs, .int bh, .ref q23, .ref q24, .ref q25, .int km])), (q3, .inl (cI, 48, .inl th))]
        have hv1 : spd (th (k * co + x)) v = evs cth co x ice w (k + 1) := by rw [evs_s, ← hv]; first | (rw [if_pos f0_18]; done) | (rw [if_neg (by omega), (hth _ hkl).1]; done)
        have hsl : spd (th (k * co + x)) v ≤ 20 := spd_le hvl
        refine J_istore h (lv' := [(4, .int (nI (spd (th (k * co + x)) v))), (0, .ref q0), (1, .int (nI x)), (3, .int (nI ice)), (5, .int (nI k))]) dX9_endBy_47 (by decide) rfl ?_
        refine J_iload h dX9_endBy_49 0 rfl ?_
        refine N_if_ne h 64 dX9_endBy_51 (by decide) (by omega) (fun c_51 => ?_) (fun c_51 => ?_)
        · skip
          refine J_iinc h (v := nI (k + 1)) (lv' := [(5, .int (nI (k + 1))), (4, .int (nI (spd (th (k * co + x)) v))), (0, .ref q0), (1, .int (nI x)), (3, .int (nI ice))]) dX9_endBy_64 4 rfl (inc_ok _ 1) (by decide) rfl ?_
          refine J_goto h 6 dX9_endBy_67 (by decide) ?_
          refine J.loc [2, 3, 4, 1, 0] (lv' := [(0, .ref q0), (1, .int (nI x)), (3, .int (nI ice)), (4, .int (nI (spd (th (k * co + x)) v))), (5, .int (nI (k + 1)))]) rfl ?_
          exact ih_6 (k + 1) (spd (th (k * co + x)) v) (by first | exact hk |  assumption | omega | rfl) (by exact hv1) (by exact lt_s hnot (by rw [← hv1]; omega)) (by omega)
        · skip
          refine J_aload_n h (i := 0) dX9_endBy_54 rfl 1 rfl ?_
          refine J_get h inX9 rfl 0 1 (by decide) rfl rfl nf_X9_52 dX9_endBy_55 ?_
          refine J_iload h dX9_endBy_58 4 rfl ?_
          refine N_imul h dX9_endBy_60 ?_
          refine J_iload_n h (i := 1) dX9_endBy_61 rfl 2 rfl ?_
          refine N_iadd h dX9_endBy_62 ?_
          refine J_eqs (st' := [.int (nI (k * co + x))]) (by rw [Nat.mul_comm co k]) ?_
          exact hR (nI (k * co + x)) () (⟨(by rw [eby_stop hnot (by rw [← hv1]; exact c_51) (by omega)]), trivial⟩) 63 _ dX9_endBy_63
set_option maxRecDepth 100000 in
set_option maxHeartbeats 4000000 in
theorem w_X9_endBy (X : Cx) {cI cE : ClassId} (h : Ok X cX9_endBy RX9 6 cI cE 1 0 0) (q0 : Nat) (q3 : Nat) (q4 : Nat) (q6 : Nat) (q7 : Nat) (q8 : Nat) (q9 : Nat) (q14 : Nat) (q15 : Nat) (q17 : Nat) (q18 : Nat) (q19 : Nat) (q23 : Nat) (q24 : Nat) (q25 : Nat) (ro : Nat) (co : Nat) (sl : Int32) (sn : Int32) (ts : Int32) (ra : Int32) (rr : Int32) (rw : Int32) (rn : Int32) (um : Int32) (bs : Int32) (bh : Int32) (km : Int32) (th : Nat → Int32) (cth : Nat → Int32) (x : Nat) (w : Nat) (ice : Nat) (hrc : ro * co ≤ 48) (hco : co ≤ 6) (hro : ro ≤ 8) (hx : x < co) (hw : w ≤ 20) (hice : ice < 256) (hth : relT (ro * co) th cth) (hR : ∀ (r : Int32) (u : Unit), ((nI (eby cth co ro x ice w) = r) ∧ (True)) → RetI X cX9_endBy 6 0 0 r [(q0, .inr (9, [.int (nI ro), .int (nI co), .int sl, .ref q3, .ref q4, .int sn, .ref q6, .ref q7, .ref q8, .ref q9, .int ts, .int ra, .int rr, .int rw, .ref q14, .ref q15, .int rn, .ref q17, .ref q18, .ref q19, .int um, .int bs, .int bh, .ref q23, .ref q24, .ref q25, .int km])), (q3, .inl (cI, 48, .inl th))]) : J X 6 0 0 0 [(0, .ref q0), (1, .int (nI x)), (2, .int (nI w)), (3, .int (nI ice))] [] [(q0, .inr (9, [.int (nI ro), .int (nI co), .int sl, .ref q3, .ref q4, .int sn, .ref q6, .ref q7, .ref q8, .ref q9, .int ts, .int ra, .int rr, .int rw, .ref q14, .ref q15, .int rn, .ref q17, .ref q18, .ref q19, .int um, .int bs, .int bh, .ref q23, .ref q24, .ref q25, .int km])), (q3, .inl (cI, 48, .inl th))] := by
  refine J_iload_n h (i := 2) dX9_endBy_0 rfl 2 rfl ?_
  refine J_istore h (lv' := [(4, .int (nI w)), (0, .ref q0), (1, .int (nI x)), (2, .int (nI w)), (3, .int (nI ice))]) dX9_endBy_1 (by decide) rfl ?_
  refine J_iconst h (v := nI 0) dX9_endBy_3 (by decide) ?_
  refine J_istore h (lv' := [(5, .int (nI 0)), (4, .int (nI w)), (0, .ref q0), (1, .int (nI x)), (2, .int (nI w)), (3, .int (nI ice))]) dX9_endBy_4 (by decide) rfl ?_
  refine J.loc [2, 3, 5, 1, 0] (lv' := [(0, .ref q0), (1, .int (nI x)), (3, .int (nI ice)), (4, .int (nI w)), (5, .int (nI 0))]) rfl ?_
  exact w_X9_endBy_6 X h q0 q3 q4 q6 q7 q8 q9 q14 q15 q17 q18 q19 q23 q24 q25 ro co sl sn ts ra rr rw rn um bs bh km th cth x w ice hrc hco hro hx hw hice hth hR  (ro - 0 + 1) 0 w (by first | assumption | omega | rfl) (by rfl) (by intro i hi; omega) (by omega)
theorem c_X9_endBy (l : Launch) (D : va_G) (cI cE : ClassId) (q0 : Nat) (q3 : Nat) (q4 : Nat) (q6 : Nat) (q7 : Nat) (q8 : Nat) (q9 : Nat) (q14 : Nat) (q15 : Nat) (q17 : Nat) (q18 : Nat) (q19 : Nat) (q23 : Nat) (q24 : Nat) (q25 : Nat) (ro : Nat) (co : Nat) (sl : Int32) (sn : Int32) (ts : Int32) (ra : Int32) (rr : Int32) (rw : Int32) (rn : Int32) (um : Int32) (bs : Int32) (bh : Int32) (km : Int32) (th : Nat → Int32) (cth : Nat → Int32) (x : Nat) (w : Nat) (ice : Nat) (hrc : ro * co ≤ 48) (hco : co ≤ 6) (hro : ro ≤ 8) (hx : x < co) (hw : w ≤ 20) (hice : ice < 256) (hth : relT (ro * co) th cth) : Ci l D cI cE yX9_endBy cX9_endBy 6 (some .int) 1 0 0 [.ref q0, .int (nI x), .int (nI w), .int (nI ice)] [(q0, .inr (9, [.int (nI ro), .int (nI co), .int sl, .ref q3, .ref q4, .int sn, .ref q6, .ref q7, .ref q8, .ref q9, .int ts, .int ra, .int rr, .int rw, .ref q14, .ref q15, .int rn, .ref q17, .ref q18, .ref q19, .int um, .int bs, .int bh, .ref q23, .ref q24, .ref q25, .int km])), (q3, .inl (cI, 48, .inl th))] (fun (r : Int32) (u : Unit) => ((nI (eby cth co ro x ice w) = r) ∧ (True))) (fun (u : Unit) => ([(q0, .inr (9, [.int (nI ro), .int (nI co), .int sl, .ref q3, .ref q4, .int sn, .ref q6, .ref q7, .ref q8, .ref q9, .int ts, .int ra, .int rr, .int rw, .ref q14, .ref q15, .int rn, .ref q17, .ref q18, .ref q19, .int um, .int bs, .int bh, .ref q23, .ref q24, .ref q25, .int km])), (q3, .inl (cI, 48, .inl th))] : va_W)) :=
  Ci.of (by decide) (Nat.le_of_ble_eq_true rfl) (fun _ _ _ => rfl) (fun X h hR => w_X9_endBy X h q0 q3 q4 q6 q7 q8 q9 q14 q15 q17 q18 q19 q23 q24 q25 ro co sl sn ts ra rr rw rn um bs bh km th cth x w ice hrc hco hro hx hw hice hth hR)
theorem yv_X9_endBy : YV yX9_endBy cX9_endBy 6 (some .int) 3 := ⟨no_X9_endBy, nv_X9_endBy, ni_X9, nk_X9_endBy, by decide +kernel⟩
set_option maxRecDepth 100000 in
set_option maxHeartbeats 4000000 in
theorem w_X9_likely_93 (X : Cx) {cI cE : ClassId} (h : Ok X cX9_likely RX9 14 cI cE 3 0 0) (q0 : Nat) (q3 : Nat) (q4 : Nat) (q6 : Nat) (q7 : Nat) (q8 : Nat) (q9 : Nat) (q14 : Nat) (q15 : Nat) (q17 : Nat) (q18 : Nat) (q19 : Nat) (q23 : Nat) (q24 : Nat) (q25 : Nat) (ro : Nat) (co : Nat) (sl : Int32) (sn : Int32) (ts : Int32) (ra : Int32) (rr : Int32) (rw : Int32) (rn : Int32) (um : Int32) (bs : Int32) (bh : Int32) (km : Int32) (th : Nat → Int32) (mo : Nat → Int32) (cth : Nat → Int32) (cow : Nat → Int32) (p0 : Int32) (p1 : Int32) (p2 : Int32) (p3 : Int32) (p4 : Int32) (hrc : ro * co ≤ 48) (hco : co ≤ 6) (hro : ro ≤ 8) (hrel : rel (ro * co) th mo cth cow) (hR : ∀ (r : Int32) (u : Unit), ((fLikely cth co ro p0 p1 p2 p3 p4 = r) ∧ (True)) → RetI X cX9_likely 14 0 0 r [(q0, .inr (9, [.int (nI ro), .int (nI co), .int sl, .ref q3, .ref q4, .int sn, .ref q6, .ref q7, .ref q8, .ref q9, .int ts, .int ra, .int rr, .int rw, .ref q14, .ref q15, .int rn, .ref q17, .ref q18, .ref q19, .int um, .int bs, .int bh, .ref q23, .ref q24, .ref q25, .int km])), (q3, .inl (cI, 48, .inl th)), (q4, .inl (cI, 48, .inl mo))]) (n_76 : Nat) (ih_76 : ∀ (ice : Nat) (jx : Nat) (jw : Nat) (jc : Nat) (jt : Nat), (ice ≤ pw2 ro) → (jx < co) → (jw ≤ 20) → (jc < 100) → (jt ≤ 10) → (vRide co (nI jx) (nI jw) (nI 0)) → (vEnd (ro * co) (nI jc)) → (vFlag p4) → (p0 = nI jx) → (p1 = nI jw) → (p2 = nI jc) → (p3 = nI jt) → pw2 ro - ice < n_76 → J X 14 0 0 76 [(0, .ref q0), (1, .int (nI jx)), (2, .int (nI jw)), (3, .int (nI jc)), (4, .int (nI jt)), (5, .int p4), (6, .long (lN (lkS cth co ro jx jw jc jt ice))), (8, .long (lN (pw10 ro))), (10, .int (nI ice))] [] [(q0, .inr (9, [.int (nI ro), .int (nI co), .int sl, .ref q3, .ref q4, .int sn, .ref q6, .ref q7, .ref q8, .ref q9, .int ts, .int ra, .int rr, .int rw, .ref q14, .ref q15, .int rn, .ref q17, .ref q18, .ref q19, .int um, .int bs, .int bh, .ref q23, .ref q24, .ref q25, .int km])), (q3, .inl (cI, 48, .inl th)), (q4, .inl (cI, 48, .inl mo))]) : ∀ (n_93 : Nat) (ice : Nat) (k : Nat) (jx : Nat) (jw : Nat) (jc : Nat) (jt : Nat), (ice < pw2 ro) → (k ≤ ro) → (jx < co) → (jw ≤ 20) → (jc < 100) → (jt ≤ 10) → (vRide co (nI jx) (nI jw) (nI 0)) → (vEnd (ro * co) (nI jc)) → (vFlag p4) → (p0 = nI jx) → (p1 = nI jw) → (p2 = nI jc) → (p3 = nI jt) → (pw2 ro - ice < n_76 + 1) → ro - k < n_93 → J X 14 0 0 93 [(0, .ref q0), (1, .int (nI jx)), (2, .int (nI jw)), (3, .int (nI jc)), (4, .int (nI jt)), (5, .int p4), (6, .long (lN (lkS cth co ro jx jw jc jt ice))), (8, .long (lN (pw10 ro))), (10, .int (nI ice)), (11, .long (lN (lkW jt ice k))), (13, .int (nI k))] [] [(q0, .inr (9, [.int (nI ro), .int (nI co), .int sl, .ref q3, .ref q4, .int sn, .ref q6, .ref q7, .ref q8, .ref q9, .int ts, .int ra, .int rr, .int rw, .ref q14, .ref q15, .int rn, .ref q17, .ref q18, .ref q19, .int um, .int bs, .int bh, .ref q23, .ref q24, .ref q25, .int km])), (q3, .inl (cI, 48, .inl th)), (q4, .inl (cI, 48, .inl mo))] := by
  intro n_93
  induction n_93 with
  | zero => intro ice k jx jw jc jt hice hk hjx hjw hjc hjt hv1 hv2 hv4 e0 e1 e2 e3 hm hn_; exact absurd hn_ (Nat.not_lt_zero _)
  | succ n_93 ih_93 =>
    intro ice k jx jw jc jt hice hk hjx hjw hjc hjt hv1 hv2 hv4 e0 e1 e2 e3 hm hn_93
    have hp2 := pw2_in ro (by omega)
    refine J_iload h dX9_likely_93 10 rfl ?_
    refine J_aload_n h (i := 0) dX9_likely_95 rfl 0 rfl ?_
    refine J_get h inX9 rfl 0 0 (by decide) rfl rfl nf_X9_60 dX9_likely_96 ?_
    refine N_icmp_ge h 135 dX9_likely_99 (by decide) (by omega) (by omega) (fun c_99 => ?_) (fun c_99 => ?_)
    · skip
      have hkr : k = ro := by omega
      have hel := eby_lt cth (ro := ro) (ice := ice) (w := jw) hrc hjx
      refine J_lload h dX9_likely_135 6 rfl ?_
      refine J_aload_n h (i := 0) dX9_likely_137 rfl 0 rfl ?_
      refine J_iload_n h (i := 1) dX9_likely_138 rfl 1 rfl ?_
      refine J_iload_n h (i := 2) dX9_likely_139 rfl 2 rfl ?_
      refine J_iload h dX9_likely_140 8 rfl ?_
      refine K_vi h (wr := [(q4, .inl (cI, 48, .inl mo))]) (c_X9_endBy (xl X) (xD X) cI cE q0 q3 q4 q6 q7 q8 q9 q14 q15 q17 q18 q19 q23 q24 q25 ro co sl sn ts ra rr rw rn um bs bh km th cth jx jw ice (by first | exact hrc |  assumption | omega | rfl) (by first | exact hco |  assumption | omega | rfl) (by first | exact hro |  assumption | omega | rfl) (by first | assumption | omega | rfl) (by first | assumption | omega | rfl) (by first | exact hice |  assumption | omega | rfl) (by exact rel_T hrel)) yv_X9_endBy nm_X9_199 (by decide) (by decide) rfl rfl 0 rfl rfl rfl rfl (Nat.le_of_ble_eq_true rfl) (Nat.le_refl _) (Nat.le_refl _) dX9_likely_142 (fun r_142 u_142 p_142 => ?_)
      obtain ⟨rfl, -⟩ := p_142
      show J X 14 0 0 145 [(0, .ref q0), (1, .int (nI jx)), (2, .int (nI jw)), (3, .int (nI jc)), (4, .int (nI jt)), (5, .int p4), (6, .long (lN (lkS cth co ro jx jw jc jt ice))), (8, .long (lN (pw10 ro))), (10, .int (nI ice)), (11, .long (lN (lkW jt ice k))), (13, .int (nI k))] [.int (nI (eby cth co ro jx ice jw)), .long (lN (lkS cth co ro jx jw jc jt ice))] [(q0, .inr (9, [.int (nI ro), .int (nI co), .int sl, .ref q3, .ref q4, .int sn, .ref q6, .ref q7, .ref q8, .ref q9, .int ts, .int ra, .int rr, .int rw, .ref q14, .ref q15, .int rn, .ref q17, .ref q18, .ref q19, .int um, .int bs, .int bh, .ref q23, .ref q24, .ref q25, .int km])), (q3, .inl (cI, 48, .inl th)), (q4, .inl (cI, 48, .inl mo))]
      refine J_iload_n h (i := 3) dX9_likely_145 rfl 3 rfl ?_
      refine N_icmp_ne h 154 dX9_likely_146 (by decide) (by omega) (by omega) (fun c_146 => ?_) (fun c_146 => ?_)
      · skip
        refine J_lconst h (v := 0) dX9_likely_154 rfl ?_
        refine J_ladd h dX9_likely_155 ?_
        refine J_eqs (st' := [.long (lN (lkS cth co ro jx jw jc jt (ice + 1)))]) (by first | (rw [lN_add, lkS_s, if_pos c_146, hkr]; done) | (rw [lkS_s, if_neg c_146, Nat.add_zero, Int64.add_zero]; done)) ?_
        refine J_lstore h (lv' := [(6, .long (lN (lkS cth co ro jx jw jc jt (ice + 1)))), (0, .ref q0), (1, .int (nI jx)), (2, .int (nI jw)), (3, .int (nI jc)), (4, .int (nI jt)), (5, .int p4), (8, .long (lN (pw10 ro))), (10, .int (nI ice)), (11, .long (lN (lkW jt ice k))), (13, .int (nI k))]) dX9_likely_156 (by decide) rfl ?_
        refine J_iinc h (v := nI (ice + 1)) (lv' := [(10, .int (nI (ice + 1))), (6, .long (lN (lkS cth co ro jx jw jc jt (ice + 1)))), (0, .ref q0), (1, .int (nI jx)), (2, .int (nI jw)), (3, .int (nI jc)), (4, .int (nI jt)), (5, .int p4), (8, .long (lN (pw10 ro))), (11, .long (lN (lkW jt ice k))), (13, .int (nI k))]) dX9_likely_158 8 rfl (inc_ok _ 1) (by decide) rfl ?_
        refine J_goto h 76 dX9_likely_161 (by decide) ?_
        refine J.loc [2, 3, 4, 5, 6, 7, 1, 8, 0] (lv' := [(0, .ref q0), (1, .int (nI jx)), (2, .int (nI jw)), (3, .int (nI jc)), (4, .int (nI jt)), (5, .int p4), (6, .long (lN (lkS cth co ro jx jw jc jt (ice + 1)))), (8, .long (lN (pw10 ro))), (10, .int (nI (ice + 1)))]) rfl ?_
        exact ih_76 (ice + 1) jx jw jc jt (by first | exact hice |  assumption | omega | rfl) (by first | exact hjx |  assumption | omega | rfl) (by first | exact hjw |  assumption | omega | rfl) (by first | exact hjc |  assumption | omega | rfl) (by first | exact hjt |  assumption | omega | rfl) (by first | exact hv1 |  assumption | omega | rfl) (by first | exact hv2 |  assumption | omega | rfl) (by first | exact hv4 |  assumption | omega | rfl) (by first | exact e0 |  assumption | omega | rfl) (by first | exact e1 |  assumption | omega | rfl) (by first | exact e2 |  assumption | omega | rfl) (by first | exact e3 |  assumption | omega | rfl) (by omega)
      · skip
        refine J_lload h dX9_likely_149 9 rfl ?_
        refine J_goto h 155 dX9_likely_151 (by decide) ?_
        refine J_ladd h dX9_likely_155 ?_
        refine J_eqs (st' := [.long (lN (lkS cth co ro jx jw jc jt (ice + 1)))]) (by first | (rw [lN_add, lkS_s, if_pos c_146, hkr]; done) | (rw [lkS_s, if_neg c_146, Nat.add_zero, Int64.add_zero]; done)) ?_
        refine J_lstore h (lv' := [(6, .long (lN (lkS cth co ro jx jw jc jt (ice + 1)))), (0, .ref q0), (1, .int (nI jx)), (2, .int (nI jw)), (3, .int (nI jc)), (4, .int (nI jt)), (5, .int p4), (8, .long (lN (pw10 ro))), (10, .int (nI ice)), (11, .long (lN (lkW jt ice k))), (13, .int (nI k))]) dX9_likely_156 (by decide) rfl ?_
        refine J_iinc h (v := nI (ice + 1)) (lv' := [(10, .int (nI (ice + 1))), (6, .long (lN (lkS cth co ro jx jw jc jt (ice + 1)))), (0, .ref q0), (1, .int (nI jx)), (2, .int (nI jw)), (3, .int (nI jc)), (4, .int (nI jt)), (5, .int p4), (8, .long (lN (pw10 ro))), (11, .long (lN (lkW jt ice k))), (13, .int (nI k))]) dX9_likely_158 8 rfl (inc_ok _ 1) (by decide) rfl ?_
        refine J_goto h 76 dX9_likely_161 (by decide) ?_
        refine J.loc [2, 3, 4, 5, 6, 7, 1, 8, 0] (lv' := [(0, .ref q0), (1, .int (nI jx)), (2, .int (nI jw)), (3, .int (nI jc)), (4, .int (nI jt)), (5, .int p4), (6, .long (lN (lkS cth co ro jx jw jc jt (ice + 1)))), (8, .long (lN (pw10 ro))), (10, .int (nI (ice + 1)))]) rfl ?_
        exact ih_76 (ice + 1) jx jw jc jt (by first | exact hice |  assumption | omega | rfl) (by first | exact hjx |  assumption | omega | rfl) (by first | exact hjw |  assumption | omega | rfl) (by first | exact hjc |  assumption | omega | rfl) (by first | exact hjt |  assumption | omega | rfl) (by first | exact hv1 |  assumption | omega | rfl) (by first | exact hv2 |  assumption | omega | rfl) (by first | exact hv4 |  assumption | omega | rfl) (by first | exact e0 |  assumption | omega | rfl) (by first | exact e1 |  assumption | omega | rfl) (by first | exact e2 |  assumption | omega | rfl) (by first | exact e3 |  assumption | omega | rfl) (by omega)
    · skip
      refine J_lload h dX9_likely_102 9 rfl ?_
      refine J_iload h dX9_likely_104 8 rfl ?_
      refine J_iload h dX9_likely_106 10 rfl ?_
      refine K_si h (wr := [(q0, .inr (9, [.int (nI ro), .int (nI co), .int sl, .ref q3, .ref q4, .int sn, .ref q6, .ref q7, .ref q8, .ref q9, .int ts, .int ra, .int rr, .int rw, .ref q14, .ref q15, .int rn, .ref q17, .ref q18, .ref q19, .int um, .int bs, .int bh, .ref q23, .ref q24, .ref q25, .int km])), (q3, .inl (cI, 48, .inl th)), (q4, .inl (cI, 48, .inl mo))]) (c_X9_hasN (xl X) (xD X) cI cE ice k (by first | assumption | omega | rfl) (by first | assumption | omega | rfl)) yv_X9_has nm_X9_194 (by decide) (by decide) rfl rfl rfl (Nat.le_of_ble_eq_true rfl) (Nat.le_refl _) (Nat.le_refl _) dX9_likely_108 (fun r_108 u_108 p_108 => ?_)
      rcases p_108 with p_108 | p_108
      · obtain ⟨rfl, f0_108, -⟩ := p_108
        show J X 14 0 0 111 [(0, .ref q0), (1, .int (nI jx)), (2, .int (nI jw)), (3, .int (nI jc)), (4, .int (nI jt)), (5, .int p4), (6, .long (lN (lkS cth co ro jx jw jc jt ice))), (8, .long (lN (pw10 ro))), (10, .int (nI ice)), (11, .long (lN (lkW jt ice k))), (13, .int (nI k))] [.int (nI 1), .long (lN (lkW jt ice k))] [(q0, .inr (9, [.int (nI ro), .int (nI co), .int sl, .ref q3, .ref q4, .int sn, .ref q6, .ref q7, .ref q8, .ref q9, .int ts, .int ra, .int rr, .int rw, .ref q14, .ref q15, .int rn, .ref q17, .ref q18, .ref q19, .int um, .int bs, .int bh, .ref q23, .ref q24, .ref q25, .int km])), (q3, .inl (cI, 48, .inl th)), (q4, .inl (cI, 48, .inl mo))]
        refine J_if_eq h 120 dX9_likely_111 (by decide) (fun z => absurd z (by decide)) (fun _ => ?_)
        refine J_iload h dX9_likely_114 4 rfl ?_
        refine J_i2l h dX9_likely_116 ?_
        refine J_goto h 126 dX9_likely_117 (by decide) ?_
        refine J_lmul h dX9_likely_126 ?_
        refine J_eqs (st' := [.long (lN (lkW jt ice (k + 1)))]) (by first | (rw [shl_t hjt f0_108]; done) | (rw [shl_f hjt f0_108]; done)) ?_
        refine J_lstore h (lv' := [(11, .long (lN (lkW jt ice (k + 1)))), (0, .ref q0), (1, .int (nI jx)), (2, .int (nI jw)), (3, .int (nI jc)), (4, .int (nI jt)), (5, .int p4), (6, .long (lN (lkS cth co ro jx jw jc jt ice))), (8, .long (lN (pw10 ro))), (10, .int (nI ice)), (13, .int (nI k))]) dX9_likely_127 (by decide) rfl ?_
        refine J_iinc h (v := nI (k + 1)) (lv' := [(13, .int (nI (k + 1))), (11, .long (lN (lkW jt ice (k + 1)))), (0, .ref q0), (1, .int (nI jx)), (2, .int (nI jw)), (3, .int (nI jc)), (4, .int (nI jt)), (5, .int p4), (6, .long (lN (lkS cth co ro jx jw jc jt ice))), (8, .long (lN (pw10 ro))), (10, .int (nI ice))]) dX9_likely_129 10 rfl (inc_ok _ 1) (by decide) rfl ?_
        refine J_goto h 93 dX9_likely_132 (by decide) ?_
        refine J.loc [2, 3, 4, 5, 6, 7, 8, 9, 10, 1, 0] (lv' := [(0, .ref q0), (1, .int (nI jx)), (2, .int (nI jw)), (3, .int (nI jc)), (4, .int (nI jt)), (5, .int p4), (6, .long (lN (lkS cth co ro jx jw jc jt ice))), (8, .long (lN (pw10 ro))), (10, .int (nI ice)), (11, .long (lN (lkW jt ice (k + 1)))), (13, .int (nI (k + 1)))]) rfl ?_
        exact ih_93 ice (k + 1) jx jw jc jt (by first | exact hice |  assumption | omega | rfl) (by first | exact hk |  assumption | omega | rfl) (by first | exact hjx |  assumption | omega | rfl) (by first | exact hjw |  assumption | omega | rfl) (by first | exact hjc |  assumption | omega | rfl) (by first | exact hjt |  assumption | omega | rfl) (by first | exact hv1 |  assumption | omega | rfl) (by first | exact hv2 |  assumption | omega | rfl) (by first | exact hv4 |  assumption | omega | rfl) (by first | exact e0 |  assumption | omega | rfl) (by first | exact e1 |  assumption | omega | rfl) (by first | exact e2 |  assumption | omega | rfl) (by first | exact e3 |  assumption | omega | rfl) (by first | exact hm |  assumption | omega | rfl) (by omega)
      · obtain ⟨rfl, f0_108, -⟩ := p_108
        show J X 14 0 0 111 [(0, .ref q0), (1, .int (nI jx)), (2, .int (nI jw)), (3, .int (nI jc)), (4, .int (nI jt)), (5, .int p4), (6, .long (lN (lkS cth co ro jx jw jc jt ice))), (8, .long (lN (pw10 ro))), (10, .int (nI ice)), (11, .long (lN (lkW jt ice k))), (13, .int (nI k))] [.int (nI 0), .long (lN (lkW jt ice k))] [(q0, .inr (9, [.int (nI ro), .int (nI co), .int sl, .ref q3, .ref q4, .int sn, .ref q6, .ref q7, .ref q8, .ref q9, .int ts, .int ra, .int rr, .int rw, .ref q14, .ref q15, .int rn, .ref q17, .ref q18, .ref q19, .int um, .int bs, .int bh, .ref q23, .ref q24, .ref q25, .int km])), (q3, .inl (cI, 48, .inl th)), (q4, .inl (cI, 48, .inl mo))]
        refine J_if_eq h 120 dX9_likely_111 (by decide) (fun _ => ?_) (fun z => absurd z (by decide))
        refine J_bipush h (v := nI 10) dX9_likely_120 (by decide) ?_
        refine J_iload h dX9_likely_122 4 rfl ?_
        refine N_isub h (by omega) dX9_likely_124 ?_
        refine J_i2l h dX9_likely_125 ?_
        refine J_lmul h dX9_likely_126 ?_
        refine J_eqs (st' := [.long (lN (lkW jt ice (k + 1)))]) (by first | (rw [shl_t hjt f0_108]; done) | (rw [shl_f hjt f0_108]; done)) ?_
        refine J_lstore h (lv' := [(11, .long (lN (lkW jt ice (k + 1)))), (0, .ref q0), (1, .int (nI jx)), (2, .int (nI jw)), (3, .int (nI jc)), (4, .int (nI jt)), (5, .int p4), (6, .long (lN (lkS cth co ro jx jw jc jt ice))), (8, .long (lN (pw10 ro))), (10, .int (nI ice)), (13, .int (nI k))]) dX9_likely_127 (by decide) rfl ?_
        refine J_iinc h (v := nI (k + 1)) (lv' := [(13, .int (nI (k + 1))), (11, .long (lN (lkW jt ice (k + 1)))), (0, .ref q0), (1, .int (nI jx)), (2, .int (nI jw)), (3, .int (nI jc)), (4, .int (nI jt)), (5, .int p4), (6, .long (lN (lkS cth co ro jx jw jc jt ice))), (8, .long (lN (pw10 ro))), (10, .int (nI ice))]) dX9_likely_129 10 rfl (inc_ok _ 1) (by decide) rfl ?_
        refine J_goto h 93 dX9_likely_132 (by decide) ?_
        refine J.loc [2, 3, 4, 5, 6, 7, 8, 9, 10, 1, 0] (lv' := [(0, .ref q0), (1, .int (nI jx)), (2, .int (nI jw)), (3, .int (nI jc)), (4, .int (nI jt)), (5, .int p4), (6, .long (lN (lkS cth co ro jx jw jc jt ice))), (8, .long (lN (pw10 ro))), (10, .int (nI ice)), (11, .long (lN (lkW jt ice (k + 1)))), (13, .int (nI (k + 1)))]) rfl ?_
        exact ih_93 ice (k + 1) jx jw jc jt (by first | exact hice |  assumption | omega | rfl) (by first | exact hk |  assumption | omega | rfl) (by first | exact hjx |  assumption | omega | rfl) (by first | exact hjw |  assumption | omega | rfl) (by first | exact hjc |  assumption | omega | rfl) (by first | exact hjt |  assumption | omega | rfl) (by first | exact hv1 |  assumption | omega | rfl) (by first | exact hv2 |  assumption | omega | rfl) (by first | exact hv4 |  assumption | omega | rfl) (by first | exact e0 |  assumption | omega | rfl) (by first | exact e1 |  assumption | omega | rfl) (by first | exact e2 |  assumption | omega | rfl) (by first | exact e3 |  assumption | omega | rfl) (by first | exact hm |  assumption | omega | rfl) (by omega)
set_option maxRecDepth 100000 in
set_option maxHeartbeats 4000000 in
theorem w_X9_likely_76 (X : Cx) {cI cE : ClassId} (h : Ok X cX9_likely RX9 14 cI cE 3 0 0) (q0 : Nat) (q3 : Nat) (q4 : Nat) (q6 : Nat) (q7 : Nat) (q8 : Nat) (q9 : Nat) (q14 : Nat) (q15 : Nat) (q17 : Nat) (q18 : Nat) (q19 : Nat) (q23 : Nat) (q24 : Nat) (q25 : Nat) (ro : Nat) (co : Nat) (sl : Int32) (sn : Int32) (ts : Int32) (ra : Int32) (rr : Int32) (rw : Int32) (rn : Int32) (um : Int32) (bs : Int32) (bh : Int32) (km : Int32) (th : Nat → Int32) (mo : Nat → Int32) (cth : Nat → Int32) (cow : Nat → Int32) (p0 : Int32) (p1 : Int32) (p2 : Int32) (p3 : Int32) (p4 : Int32) (hrc : ro * co ≤ 48) (hco : co ≤ 6) (hro : ro ≤ 8) (hrel : rel (ro * co) th mo cth cow) (hR : ∀ (r : Int32) (u : Unit), ((fLikely cth co ro p0 p1 p2 p3 p4 = r) ∧ (True)) → RetI X cX9_likely 14 0 0 r [(q0, .inr (9, [.int (nI ro), .int (nI co), .int sl, .ref q3, .ref q4, .int sn, .ref q6, .ref q7, .ref q8, .ref q9, .int ts, .int ra, .int rr, .int rw, .ref q14, .ref q15, .int rn, .ref q17, .ref q18, .ref q19, .int um, .int bs, .int bh, .ref q23, .ref q24, .ref q25, .int km])), (q3, .inl (cI, 48, .inl th)), (q4, .inl (cI, 48, .inl mo))]) : ∀ (n_76 : Nat) (ice : Nat) (jx : Nat) (jw : Nat) (jc : Nat) (jt : Nat), (ice ≤ pw2 ro) → (jx < co) → (jw ≤ 20) → (jc < 100) → (jt ≤ 10) → (vRide co (nI jx) (nI jw) (nI 0)) → (vEnd (ro * co) (nI jc)) → (vFlag p4) → (p0 = nI jx) → (p1 = nI jw) → (p2 = nI jc) → (p3 = nI jt) → pw2 ro - ice < n_76 → J X 14 0 0 76 [(0, .ref q0), (1, .int (nI jx)), (2, .int (nI jw)), (3, .int (nI jc)), (4, .int (nI jt)), (5, .int p4), (6, .long (lN (lkS cth co ro jx jw jc jt ice))), (8, .long (lN (pw10 ro))), (10, .int (nI ice))] [] [(q0, .inr (9, [.int (nI ro), .int (nI co), .int sl, .ref q3, .ref q4, .int sn, .ref q6, .ref q7, .ref q8, .ref q9, .int ts, .int ra, .int rr, .int rw, .ref q14, .ref q15, .int rn, .ref q17, .ref q18, .ref q19, .int um, .int bs, .int bh, .ref q23, .ref q24, .ref q25, .int km])), (q3, .inl (cI, 48, .inl th)), (q4, .inl (cI, 48, .inl mo))] := by
  intro n_76
  induction n_76 with
  | zero => intro ice jx jw jc jt hice hjx hjw hjc hjt hv1 hv2 hv4 e0 e1 e2 e3 hn_; exact absurd hn_ (Nat.not_lt_zero _)
  | succ n_76 ih_76 =>
    intro ice jx jw jc jt hice hjx hjw hjc hjt hv1 hv2 hv4 e0 e1 e2 e3 hn_76
    have hp2 := pw2_in ro (by omega)
    refine J_iload h dX9_likely_76 8 rfl ?_
    refine J_iconst h (v := nI 1) dX9_likely_78 (by decide) ?_
    refine J_aload_n h (i := 0) dX9_likely_79 rfl 0 rfl ?_
    refine J_get h inX9 rfl 0 0 (by decide) rfl rfl nf_X9_60 dX9_likely_80 ?_
    refine J_ishl h dX9_likely_83 ?_
    refine J_eqs (st' := [.int (nI (pw2 ro)), .int (nI ice)]) (by rw [pw2_shl ro (by omega)]) ?_
    refine N_icmp_ge h 164 dX9_likely_84 (by decide) (by omega) (by omega) (fun c_84 => ?_) (fun c_84 => ?_)
    · skip
      have hp10 := pw10_in ro (by omega)
      have hie : ice = pw2 ro := by omega
      have hsl := lkS_le cth (co := co) (ro := ro) (x := jx) (w := jw) (c := jc) hjt hro ice
      obtain ⟨sm, hsm⟩ : ∃ z, z = lkS cth co ro jx jw jc jt ice := ⟨_, rfl⟩
      rw [← hsm] at hsl
      refine J_eql (lv' := [(0, .ref q0), (1, .int (nI jx)), (2, .int (nI jw)), (3, .int (nI jc)), (4, .int (nI jt)), (5, .int p4), (6, .long (lN sm)), (8, .long (lN (pw10 ro))), (10, .int (nI ice))]) (by rw [hsm]) ?_
      have hg0 := Nat.gcd_pos_of_pos_right sm (show 0 < pw10 ro by omega)
      have hgl := Nat.gcd_le_right sm (show 0 < pw10 ro by omega)
      obtain ⟨gg, hgg⟩ : ∃ z, z = Nat.gcd sm (pw10 ro) := ⟨_, rfl⟩
      rw [← hgg] at hg0 hgl
      refine J_lload h dX9_likely_164 6 rfl ?_
      refine J_lload h dX9_likely_166 7 rfl ?_
      refine K_sl h (wr := [(q0, .inr (9, [.int (nI ro), .int (nI co), .int sl, .ref q3, .ref q4, .int sn, .ref q6, .ref q7, .ref q8, .ref q9, .int ts, .int ra, .int rr, .int rw, .ref q14, .ref q15, .int rn, .ref q17, .ref q18, .ref q19, .int um, .int bs, .int bh, .ref q23, .ref q24, .ref q25, .int km])), (q3, .inl (cI, 48, .inl th)), (q4, .inl (cI, 48, .inl mo))]) (c_X9_common (xl X) (xD X) cI cE sm (pw10 ro) (by omega) (by omega)) yv_X9_common nm_X9_202 (by decide) (by decide) rfl rfl rfl (Nat.le_of_ble_eq_true rfl) (Nat.le_refl _) (Nat.le_refl _) dX9_likely_168 (fun r_168 u_168 p_168 => ?_)
      obtain ⟨rfl, -⟩ := p_168
      show J X 14 0 0 171 [(0, .ref q0), (1, .int (nI jx)), (2, .int (nI jw)), (3, .int (nI jc)), (4, .int (nI jt)), (5, .int p4), (6, .long (lN sm)), (8, .long (lN (pw10 ro))), (10, .int (nI ice))] [.long (lN (Nat.gcd sm (pw10 ro)))] [(q0, .inr (9, [.int (nI ro), .int (nI co), .int sl, .ref q3, .ref q4, .int sn, .ref q6, .ref q7, .ref q8, .ref q9, .int ts, .int ra, .int rr, .int rw, .ref q14, .ref q15, .int rn, .ref q17, .ref q18, .ref q19, .int um, .int bs, .int bh, .ref q23, .ref q24, .ref q25, .int km])), (q3, .inl (cI, 48, .inl th)), (q4, .inl (cI, 48, .inl mo))]
      refine J_eqs (st' := [.long (lN gg)]) (by rw [hgg]) ?_
      refine J_lstore h (lv' := [(10, .long (lN gg)), (0, .ref q0), (1, .int (nI jx)), (2, .int (nI jw)), (3, .int (nI jc)), (4, .int (nI jt)), (5, .int p4), (6, .long (lN sm)), (8, .long (lN (pw10 ro)))]) dX9_likely_171 (by decide) rfl ?_
      refine J_iload h dX9_likely_173 6 rfl ?_
      refine T_if_ne h (A := (p4).toInt) 186 dX9_likely_175 (by decide) (rfl) (fun c_175 => ?_) (fun c_175 => ?_)
      · skip
        refine J_lload h dX9_likely_186 8 rfl ?_
        refine J_lload h dX9_likely_188 0 rfl ?_
        refine J_ldiv h dX9_likely_190 (by exact lN_ne0 hg0 (by omega)) ?_
        refine J_eqs (st' := [.long (lN (pw10 ro / gg))]) (by rw [pk_lDiv (by omega) hg0 (by omega)]) ?_
        refine J_l2i h dX9_likely_191 ?_
        refine J_eqs (st' := [.int (nI (pw10 ro / gg))]) (by rw [lN_i]) ?_
        exact hR (nI (pw10 ro / gg)) () (⟨(by rw [e0, e1, e2, e3]; first | exact (fLik_yes hv1 hv2 hjt hv4 (by omega) (by omega) (by omega) (by rw [hsm, hie]; rfl) hgg).trans (if_pos (by omega)) | exact (fLik_yes hv1 hv2 hjt hv4 (by omega) (by omega) (by omega) (by rw [hsm, hie]; rfl) hgg).trans (if_neg (by omega))), trivial⟩) 192 _ dX9_likely_192
      · skip
        refine J_lload h dX9_likely_178 7 rfl ?_
        refine J_lload h dX9_likely_180 0 rfl ?_
        refine J_ldiv h dX9_likely_182 (by exact lN_ne0 hg0 (by omega)) ?_
        refine J_eqs (st' := [.long (lN (sm / gg))]) (by rw [pk_lDiv (by omega) hg0 (by omega)]) ?_
        refine J_goto h 191 dX9_likely_183 (by decide) ?_
        refine J_l2i h dX9_likely_191 ?_
        refine J_eqs (st' := [.int (nI (sm / gg))]) (by rw [lN_i]) ?_
        exact hR (nI (sm / gg)) () (⟨(by rw [e0, e1, e2, e3]; first | exact (fLik_yes hv1 hv2 hjt hv4 (by omega) (by omega) (by omega) (by rw [hsm, hie]; rfl) hgg).trans (if_pos (by omega)) | exact (fLik_yes hv1 hv2 hjt hv4 (by omega) (by omega) (by omega) (by rw [hsm, hie]; rfl) hgg).trans (if_neg (by omega))), trivial⟩) 192 _ dX9_likely_192
    · skip
      refine J_lconst h (v := 1) dX9_likely_87 rfl ?_
      refine J_lstore h (lv' := [(11, .long 1), (0, .ref q0), (1, .int (nI jx)), (2, .int (nI jw)), (3, .int (nI jc)), (4, .int (nI jt)), (5, .int p4), (6, .long (lN (lkS cth co ro jx jw jc jt ice))), (8, .long (lN (pw10 ro))), (10, .int (nI ice))]) dX9_likely_88 (by decide) rfl ?_
      refine J_eql (lv' := [(11, .long (lN (lkW jt ice 0))), (0, .ref q0), (1, .int (nI jx)), (2, .int (nI jw)), (3, .int (nI jc)), (4, .int (nI jt)), (5, .int p4), (6, .long (lN (lkS cth co ro jx jw jc jt ice))), (8, .long (lN (pw10 ro))), (10, .int (nI ice))]) (by rfl) ?_
      refine J_iconst h (v := nI 0) dX9_likely_90 (by decide) ?_
      refine J_istore h (lv' := [(13, .int (nI 0)), (11, .long (lN (lkW jt ice 0))), (0, .ref q0), (1, .int (nI jx)), (2, .int (nI jw)), (3, .int (nI jc)), (4, .int (nI jt)), (5, .int p4), (6, .long (lN (lkS cth co ro jx jw jc jt ice))), (8, .long (lN (pw10 ro))), (10, .int (nI ice))]) dX9_likely_91 (by decide) rfl ?_
      refine J.loc [2, 3, 4, 5, 6, 7, 8, 9, 10, 1, 0] (lv' := [(0, .ref q0), (1, .int (nI jx)), (2, .int (nI jw)), (3, .int (nI jc)), (4, .int (nI jt)), (5, .int p4), (6, .long (lN (lkS cth co ro jx jw jc jt ice))), (8, .long (lN (pw10 ro))), (10, .int (nI ice)), (11, .long (lN (lkW jt ice 0))), (13, .int (nI 0))]) rfl ?_
      exact w_X9_likely_93 X h q0 q3 q4 q6 q7 q8 q9 q14 q15 q17 q18 q19 q23 q24 q25 ro co sl sn ts ra rr rw rn um bs bh km th mo cth cow p0 p1 p2 p3 p4 hrc hco hro hrel hR n_76 ih_76 (ro - 0 + 1) ice 0 jx jw jc jt (by first | exact hice |  assumption | omega | rfl) (by first | assumption | omega | rfl) (by first | exact hjx |  assumption | omega | rfl) (by first | exact hjw |  assumption | omega | rfl) (by first | exact hjc |  assumption | omega | rfl) (by first | exact hjt |  assumption | omega | rfl) (by first | exact hv1 |  assumption | omega | rfl) (by first | exact hv2 |  assumption | omega | rfl) (by first | exact hv4 |  assumption | omega | rfl) (by first | exact e0 |  assumption | omega | rfl) (by first | exact e1 |  assumption | omega | rfl) (by first | exact e2 |  assumption | omega | rfl) (by first | exact e3 |  assumption | omega | rfl) (by first | assumption | omega | rfl) (by omega)
set_option maxRecDepth 100000 in
set_option maxHeartbeats 4000000 in
theorem w_X9_likely_50 (X : Cx) {cI cE : ClassId} (h : Ok X cX9_likely RX9 14 cI cE 3 0 0) (q0 : Nat) (q3 : Nat) (q4 : Nat) (q6 : Nat) (q7 : Nat) (q8 : Nat) (q9 : Nat) (q14 : Nat) (q15 : Nat) (q17 : Nat) (q18 : Nat) (q19 : Nat) (q23 : Nat) (q24 : Nat) (q25 : Nat) (ro : Nat) (co : Nat) (sl : Int32) (sn : Int32) (ts : Int32) (ra : Int32) (rr : Int32) (rw : Int32) (rn : Int32) (um : Int32) (bs : Int32) (bh : Int32) (km : Int32) (th : Nat → Int32) (mo : Nat → Int32) (cth : Nat → Int32) (cow : Nat → Int32) (p0 : Int32) (p1 : Int32) (p2 : Int32) (p3 : Int32) (p4 : Int32) (hrc : ro * co ≤ 48) (hco : co ≤ 6) (hro : ro ≤ 8) (hrel : rel (ro * co) th mo cth cow) (hR : ∀ (r : Int32) (u : Unit), ((fLikely cth co ro p0 p1 p2 p3 p4 = r) ∧ (True)) → RetI X cX9_likely 14 0 0 r [(q0, .inr (9, [.int (nI ro), .int (nI co), .int sl, .ref q3, .ref q4, .int sn, .ref q6, .ref q7, .ref q8, .ref q9, .int ts, .int ra, .int rr, .int rw, .ref q14, .ref q15, .int rn, .ref q17, .ref q18, .ref q19, .int um, .int bs, .int bh, .ref q23, .ref q24, .ref q25, .int km])), (q3, .inl (cI, 48, .inl th)), (q4, .inl (cI, 48, .inl mo))]) : ∀ (n_50 : Nat) (k : Nat) (jx : Nat) (jw : Nat) (jc : Nat) (jt : Nat), (k ≤ ro) → (jx < co) → (jw ≤ 20) → (jc < 100) → (jt ≤ 10) → (vRide co (nI jx) (nI jw) (nI 0)) → (vEnd (ro * co) (nI jc)) → (vFlag p4) → (p0 = nI jx) → (p1 = nI jw) → (p2 = nI jc) → (p3 = nI jt) → ro - k < n_50 → J X 14 0 0 50 [(0, .ref q0), (1, .int (nI jx)), (2, .int (nI jw)), (3, .int (nI jc)), (4, .int (nI jt)), (5, .int p4), (6, .long 0), (8, .long (lN (pw10 k))), (10, .int (nI k))] [] [(q0, .inr (9, [.int (nI ro), .int (nI co), .int sl, .ref q3, .ref q4, .int sn, .ref q6, .ref q7, .ref q8, .ref q9, .int ts, .int ra, .int rr, .int rw, .ref q14, .ref q15, .int rn, .ref q17, .ref q18, .ref q19, .int um, .int bs, .int bh, .ref q23, .ref q24, .ref q25, .int km])), (q3, .inl (cI, 48, .inl th)), (q4, .inl (cI, 48, .inl mo))] := by
  intro n_50
  induction n_50 with
  | zero => intro k jx jw jc jt hk hjx hjw hjc hjt hv1 hv2 hv4 e0 e1 e2 e3 hn_; exact absurd hn_ (Nat.not_lt_zero _)
  | succ n_50 ih_50 =>
    intro k jx jw jc jt hk hjx hjw hjc hjt hv1 hv2 hv4 e0 e1 e2 e3 hn_50
    refine J_iload h dX9_likely_50 8 rfl ?_
    refine J_aload_n h (i := 0) dX9_likely_52 rfl 0 rfl ?_
    refine J_get h inX9 rfl 0 0 (by decide) rfl rfl nf_X9_60 dX9_likely_53 ?_
    refine N_icmp_ge h 73 dX9_likely_56 (by decide) (by omega) (by omega) (fun c_56 => ?_) (fun c_56 => ?_)
    · skip
      refine J_eql (lv' := [(0, .ref q0), (1, .int (nI jx)), (2, .int (nI jw)), (3, .int (nI jc)), (4, .int (nI jt)), (5, .int p4), (6, .long (lN (lkS cth co ro jx jw jc jt 0))), (8, .long (lN (pw10 k))), (10, .int (nI k))]) (by rfl) ?_
      refine J_eql (lv' := [(0, .ref q0), (1, .int (nI jx)), (2, .int (nI jw)), (3, .int (nI jc)), (4, .int (nI jt)), (5, .int p4), (6, .long (lN (lkS cth co ro jx jw jc jt 0))), (8, .long (lN (pw10 ro))), (10, .int (nI k))]) (by rw [show k = ro by omega]) ?_
      refine J_iconst h (v := nI 0) dX9_likely_73 (by decide) ?_
      refine J_istore h (lv' := [(10, .int (nI 0)), (0, .ref q0), (1, .int (nI jx)), (2, .int (nI jw)), (3, .int (nI jc)), (4, .int (nI jt)), (5, .int p4), (6, .long (lN (lkS cth co ro jx jw jc jt 0))), (8, .long (lN (pw10 ro)))]) dX9_likely_74 (by decide) rfl ?_
      refine J.loc [1, 2, 3, 4, 5, 6, 7, 8, 0] (lv' := [(0, .ref q0), (1, .int (nI jx)), (2, .int (nI jw)), (3, .int (nI jc)), (4, .int (nI jt)), (5, .int p4), (6, .long (lN (lkS cth co ro jx jw jc jt 0))), (8, .long (lN (pw10 ro))), (10, .int (nI 0))]) rfl ?_
      exact w_X9_likely_76 X h q0 q3 q4 q6 q7 q8 q9 q14 q15 q17 q18 q19 q23 q24 q25 ro co sl sn ts ra rr rw rn um bs bh km th mo cth cow p0 p1 p2 p3 p4 hrc hco hro hrel hR  (pw2 ro - 0 + 1) 0 jx jw jc jt (by first | assumption | omega | rfl) (by first | exact hjx |  assumption | omega | rfl) (by first | exact hjw |  assumption | omega | rfl) (by first | exact hjc |  assumption | omega | rfl) (by first | exact hjt |  assumption | omega | rfl) (by first | exact hv1 |  assumption | omega | rfl) (by first | exact hv2 |  assumption | omega | rfl) (by first | exact hv4 |  assumption | omega | rfl) (by first | exact e0 |  assumption | omega | rfl) (by first | exact e1 |  assumption | omega | rfl) (by first | exact e2 |  assumption | omega | rfl) (by first | exact e3 |  assumption | omega | rfl) (by omega)
    · skip
      refine J_lload h dX9_likely_59 7 rfl ?_
      refine J_ldc2 h nl_X9_197 dX9_likely_61 ?_
      refine J_lmul h dX9_likely_64 ?_
      refine J_eqs (st' := [.long (lN (pw10 (k + 1)))]) (by rw [pw10_s]) ?_
      refine J_lstore h (lv' := [(8, .long (lN (pw10 (k + 1)))), (0, .ref q0), (1, .int (nI jx)), (2, .int (nI jw)), (3, .int (nI jc)), (4, .int (nI jt)), (5, .int p4), (6, .long 0), (10, .int (nI k))]) dX9_likely_65 (by decide) rfl ?_
      refine J_iinc h (v := nI (k + 1)) (lv' := [(10, .int (nI (k + 1))), (8, .long (lN (pw10 (k + 1)))), (0, .ref q0), (1, .int (nI jx)), (2, .int (nI jw)), (3, .int (nI jc)), (4, .int (nI jt)), (5, .int p4), (6, .long 0)]) dX9_likely_67 8 rfl (inc_ok _ 1) (by decide) rfl ?_
      refine J_goto h 50 dX9_likely_70 (by decide) ?_
      refine J.loc [2, 3, 4, 5, 6, 7, 8, 1, 0] (lv' := [(0, .ref q0), (1, .int (nI jx)), (2, .int (nI jw)), (3, .int (nI jc)), (4, .int (nI jt)), (5, .int p4), (6, .long 0), (8, .long (lN (pw10 (k + 1)))), (10, .int (nI (k + 1)))]) rfl ?_
      exact ih_50 (k + 1) jx jw jc jt (by first | exact hk |  assumption | omega | rfl) (by first | exact hjx |  assumption | omega | rfl) (by first | exact hjw |  assumption | omega | rfl) (by first | exact hjc |  assumption | omega | rfl) (by first | exact hjt |  assumption | omega | rfl) (by first | exact hv1 |  assumption | omega | rfl) (by first | exact hv2 |  assumption | omega | rfl) (by first | exact hv4 |  assumption | omega | rfl) (by first | exact e0 |  assumption | omega | rfl) (by first | exact e1 |  assumption | omega | rfl) (by first | exact e2 |  assumption | omega | rfl) (by first | exact e3 |  assumption | omega | rfl) (by omega)
set_option maxRecDepth 100000 in
set_option maxHeartbeats 4000000 in
theorem w_X9_likely (X : Cx) {cI cE : ClassId} (h : Ok X cX9_likely RX9 14 cI cE 3 0 0) (q0 : Nat) (q3 : Nat) (q4 : Nat) (q6 : Nat) (q7 : Nat) (q8 : Nat) (q9 : Nat) (q14 : Nat) (q15 : Nat) (q17 : Nat) (q18 : Nat) (q19 : Nat) (q23 : Nat) (q24 : Nat) (q25 : Nat) (ro : Nat) (co : Nat) (sl : Int32) (sn : Int32) (ts : Int32) (ra : Int32) (rr : Int32) (rw : Int32) (rn : Int32) (um : Int32) (bs : Int32) (bh : Int32) (km : Int32) (th : Nat → Int32) (mo : Nat → Int32) (cth : Nat → Int32) (cow : Nat → Int32) (p0 : Int32) (p1 : Int32) (p2 : Int32) (p3 : Int32) (p4 : Int32) (hrc : ro * co ≤ 48) (hco : co ≤ 6) (hro : ro ≤ 8) (hrel : rel (ro * co) th mo cth cow) (hR : ∀ (r : Int32) (u : Unit), ((fLikely cth co ro p0 p1 p2 p3 p4 = r) ∧ (True)) → RetI X cX9_likely 14 0 0 r [(q0, .inr (9, [.int (nI ro), .int (nI co), .int sl, .ref q3, .ref q4, .int sn, .ref q6, .ref q7, .ref q8, .ref q9, .int ts, .int ra, .int rr, .int rw, .ref q14, .ref q15, .int rn, .ref q17, .ref q18, .ref q19, .int um, .int bs, .int bh, .ref q23, .ref q24, .ref q25, .int km])), (q3, .inl (cI, 48, .inl th)), (q4, .inl (cI, 48, .inl mo))]) : J X 14 0 0 0 [(0, .ref q0), (1, .int p0), (2, .int p1), (3, .int p2), (4, .int p3), (5, .int p4)] [] [(q0, .inr (9, [.int (nI ro), .int (nI co), .int sl, .ref q3, .ref q4, .int sn, .ref q6, .ref q7, .ref q8, .ref q9, .int ts, .int ra, .int rr, .int rw, .ref q14, .ref q15, .int rn, .ref q17, .ref q18, .ref q19, .int um, .int bs, .int bh, .ref q23, .ref q24, .ref q25, .int km])), (q3, .inl (cI, 48, .inl th)), (q4, .inl (cI, 48, .inl mo))] := by
  refine J_aload_n h (i := 0) dX9_likely_0 rfl 0 rfl ?_
  refine J_iload_n h (i := 1) dX9_likely_1 rfl 1 rfl ?_
  refine J_iload_n h (i := 2) dX9_likely_2 rfl 2 rfl ?_
  refine J_iconst h (v := nI 0) dX9_likely_3 (by decide) ?_
  refine K_vi h (wr := [(q3, .inl (cI, 48, .inl th)), (q4, .inl (cI, 48, .inl mo))]) (c_X9_isSlide (xl X) (xD X) cI cE q0 q3 q4 q6 q7 q8 q9 q14 q15 q17 q18 q19 q23 q24 q25 ro co sl sn ts ra rr rw rn um bs bh km p0 p1 (nI 0) (by first | exact hco |  assumption | omega | rfl)) yv_X9_isSlide nm_X9_134 (by decide) (by decide) rfl rfl 0 rfl rfl rfl rfl (Nat.le_of_ble_eq_true rfl) (Nat.le_refl _) (Nat.le_refl _) dX9_likely_4 (fun r_4 u_4 p_4 => ?_)
  rcases p_4 with p_4 | p_4
  · obtain ⟨jx_4, jw_4, jh_4, rfl, f0_4, f1_4, f2_4, f3_4, f4_4, rfl, rfl, e2_4, -⟩ := p_4
    show J X 14 0 0 7 [(0, .ref q0), (1, .int (nI jx_4)), (2, .int (nI jw_4)), (3, .int p2), (4, .int p3), (5, .int p4)] [.int (nI 1)] [(q0, .inr (9, [.int (nI ro), .int (nI co), .int sl, .ref q3, .ref q4, .int sn, .ref q6, .ref q7, .ref q8, .ref q9, .int ts, .int ra, .int rr, .int rw, .ref q14, .ref q15, .int rn, .ref q17, .ref q18, .ref q19, .int um, .int bs, .int bh, .ref q23, .ref q24, .ref q25, .int km])), (q3, .inl (cI, 48, .inl th)), (q4, .inl (cI, 48, .inl mo))]
    refine J_if_eq h 39 dX9_likely_7 (by decide) (fun z => absurd z (by decide)) (fun _ => ?_)
    refine J_aload_n h (i := 0) dX9_likely_10 rfl 0 rfl ?_
    refine J_iload_n h (i := 3) dX9_likely_11 rfl 3 rfl ?_
    refine K_vi h (wr := [(q3, .inl (cI, 48, .inl th)), (q4, .inl (cI, 48, .inl mo))]) (c_X9_isEnd (xl X) (xD X) cI cE q0 q3 q4 q6 q7 q8 q9 q14 q15 q17 q18 q19 q23 q24 q25 ro co sl sn ts ra rr rw rn um bs bh km p2 (by first | exact hrc |  assumption | omega | rfl)) yv_X9_isEnd nm_X9_188 (by decide) (by decide) rfl rfl 0 rfl rfl rfl rfl (Nat.le_of_ble_eq_true rfl) (Nat.le_refl _) (Nat.le_refl _) dX9_likely_12 (fun r_12 u_12 p_12 => ?_)
    rcases p_12 with p_12 | p_12
    · obtain ⟨jc_12, rfl, f0_12, f1_12, rfl, -⟩ := p_12
      show J X 14 0 0 15 [(0, .ref q0), (1, .int (nI jx_4)), (2, .int (nI jw_4)), (3, .int (nI jc_12)), (4, .int p3), (5, .int p4)] [.int (nI 1)] [(q0, .inr (9, [.int (nI ro), .int (nI co), .int sl, .ref q3, .ref q4, .int sn, .ref q6, .ref q7, .ref q8, .ref q9, .int ts, .int ra, .int rr, .int rw, .ref q14, .ref q15, .int rn, .ref q17, .ref q18, .ref q19, .int um, .int bs, .int bh, .ref q23, .ref q24, .ref q25, .int km])), (q3, .inl (cI, 48, .inl th)), (q4, .inl (cI, 48, .inl mo))]
      refine J_if_eq h 39 dX9_likely_15 (by decide) (fun z => absurd z (by decide)) (fun _ => ?_)
      refine J_iload h dX9_likely_18 4 rfl ?_
      refine J_iconst h (v := nI 0) dX9_likely_20 (by decide) ?_
      refine J_bipush h (v := nI 10) dX9_likely_21 (by decide) ?_
      refine K_si h (wr := [(q0, .inr (9, [.int (nI ro), .int (nI co), .int sl, .ref q3, .ref q4, .int sn, .ref q6, .ref q7, .ref q8, .ref q9, .int ts, .int ra, .int rr, .int rw, .ref q14, .ref q15, .int rn, .ref q17, .ref q18, .ref q19, .int um, .int bs, .int bh, .ref q23, .ref q24, .ref q25, .int km])), (q3, .inl (cI, 48, .inl th)), (q4, .inl (cI, 48, .inl mo))]) (c_X9_in (xl X) (xD X) cI cE p3 (nI 0) (nI 10) ((p3).toInt) 0 10 (by exact rfl) (by exact nI_toInt (by omega)) (by exact nI_toInt (by omega))) yv_X9_in nm_X9_67 (by decide) (by decide) rfl rfl rfl (Nat.le_of_ble_eq_true rfl) (Nat.le_refl _) (Nat.le_refl _) dX9_likely_23 (fun r_23 u_23 p_23 => ?_)
      rcases p_23 with p_23 | p_23
      · obtain ⟨rfl, f0_23, -⟩ := p_23
        show J X 14 0 0 26 [(0, .ref q0), (1, .int (nI jx_4)), (2, .int (nI jw_4)), (3, .int (nI jc_12)), (4, .int p3), (5, .int p4)] [.int (nI 1)] [(q0, .inr (9, [.int (nI ro), .int (nI co), .int sl, .ref q3, .ref q4, .int sn, .ref q6, .ref q7, .ref q8, .ref q9, .int ts, .int ra, .int rr, .int rw, .ref q14, .ref q15, .int rn, .ref q17, .ref q18, .ref q19, .int um, .int bs, .int bh, .ref q23, .ref q24, .ref q25, .int km])), (q3, .inl (cI, 48, .inl th)), (q4, .inl (cI, 48, .inl mo))]
        refine J_if_eq h 39 dX9_likely_26 (by decide) (fun z => absurd z (by decide)) (fun _ => ?_)
        refine J_iload h dX9_likely_29 5 rfl ?_
        refine J_iconst h (v := nI 0) dX9_likely_31 (by decide) ?_
        refine J_iconst h (v := nI 1) dX9_likely_32 (by decide) ?_
        refine K_si h (wr := [(q0, .inr (9, [.int (nI ro), .int (nI co), .int sl, .ref q3, .ref q4, .int sn, .ref q6, .ref q7, .ref q8, .ref q9, .int ts, .int ra, .int rr, .int rw, .ref q14, .ref q15, .int rn, .ref q17, .ref q18, .ref q19, .int um, .int bs, .int bh, .ref q23, .ref q24, .ref q25, .int km])), (q3, .inl (cI, 48, .inl th)), (q4, .inl (cI, 48, .inl mo))]) (c_X9_in (xl X) (xD X) cI cE p4 (nI 0) (nI 1) ((p4).toInt) 0 1 (by exact rfl) (by exact nI_toInt (by omega)) (by exact nI_toInt (by omega))) yv_X9_in nm_X9_67 (by decide) (by decide) rfl rfl rfl (Nat.le_of_ble_eq_true rfl) (Nat.le_refl _) (Nat.le_refl _) dX9_likely_33 (fun r_33 u_33 p_33 => ?_)
        rcases p_33 with p_33 | p_33
        · obtain ⟨rfl, f0_33, -⟩ := p_33
          show J X 14 0 0 36 [(0, .ref q0), (1, .int (nI jx_4)), (2, .int (nI jw_4)), (3, .int (nI jc_12)), (4, .int p3), (5, .int p4)] [.int (nI 1)] [(q0, .inr (9, [.int (nI ro), .int (nI co), .int sl, .ref q3, .ref q4, .int sn, .ref q6, .ref q7, .ref q8, .ref q9, .int ts, .int ra, .int rr, .int rw, .ref q14, .ref q15, .int rn, .ref q17, .ref q18, .ref q19, .int um, .int bs, .int bh, .ref q23, .ref q24, .ref q25, .int km])), (q3, .inl (cI, 48, .inl th)), (q4, .inl (cI, 48, .inl mo))]
          refine J_if_ne h 41 dX9_likely_36 (by decide) (fun _ => ?_) (fun z => absurd z (by decide))
          obtain ⟨jt, hjt, rfl⟩ := toNI (x := p3) (n := 11) (by omega) (by omega)
          refine J_lconst h (v := 0) dX9_likely_41 rfl ?_
          refine J_lstore h (lv' := [(6, .long 0), (0, .ref q0), (1, .int (nI jx_4)), (2, .int (nI jw_4)), (3, .int (nI jc_12)), (4, .int (nI jt)), (5, .int p4)]) dX9_likely_42 (by decide) rfl ?_
          refine J_lconst h (v := 1) dX9_likely_44 rfl ?_
          refine J_lstore h (lv' := [(8, .long 1), (6, .long 0), (0, .ref q0), (1, .int (nI jx_4)), (2, .int (nI jw_4)), (3, .int (nI jc_12)), (4, .int (nI jt)), (5, .int p4)]) dX9_likely_45 (by decide) rfl ?_
          refine J_eql (lv' := [(8, .long (lN (pw10 0))), (6, .long 0), (0, .ref q0), (1, .int (nI jx_4)), (2, .int (nI jw_4)), (3, .int (nI jc_12)), (4, .int (nI jt)), (5, .int p4)]) (by rfl) ?_
          refine J_iconst h (v := nI 0) dX9_likely_47 (by decide) ?_
          refine J_istore h (lv' := [(10, .int (nI 0)), (8, .long (lN (pw10 0))), (6, .long 0), (0, .ref q0), (1, .int (nI jx_4)), (2, .int (nI jw_4)), (3, .int (nI jc_12)), (4, .int (nI jt)), (5, .int p4)]) dX9_likely_48 (by decide) rfl ?_
          refine J.loc [3, 4, 5, 6, 7, 8, 2, 1, 0] (lv' := [(0, .ref q0), (1, .int (nI jx_4)), (2, .int (nI jw_4)), (3, .int (nI jc_12)), (4, .int (nI jt)), (5, .int p4), (6, .long 0), (8, .long (lN (pw10 0))), (10, .int (nI 0))]) rfl ?_
          exact w_X9_likely_50 X h q0 q3 q4 q6 q7 q8 q9 q14 q15 q17 q18 q19 q23 q24 q25 ro co sl sn ts ra rr rw rn um bs bh km th mo cth cow (nI jx_4) (nI jw_4) (nI jc_12) (nI jt) p4 hrc hco hro hrel hR  (ro - 0 + 1) 0 jx_4 jw_4 jc_12 jt (by first | assumption | omega | rfl) (by first | assumption | omega | rfl) (by first | assumption | omega | rfl) (by first | assumption | omega | rfl) (by first | assumption | omega | rfl) (by first | assumption | omega | rfl) (by first | assumption | omega | rfl) (by first | assumption | omega | rfl) (by rfl) (by rfl) (by rfl) (by rfl) (by omega)
        · obtain ⟨rfl, f0_33, -⟩ := p_33
          show J X 14 0 0 36 [(0, .ref q0), (1, .int (nI jx_4)), (2, .int (nI jw_4)), (3, .int (nI jc_12)), (4, .int p3), (5, .int p4)] [.int (nI 0)] [(q0, .inr (9, [.int (nI ro), .int (nI co), .int sl, .ref q3, .ref q4, .int sn, .ref q6, .ref q7, .ref q8, .ref q9, .int ts, .int ra, .int rr, .int rw, .ref q14, .ref q15, .int rn, .ref q17, .ref q18, .ref q19, .int um, .int bs, .int bh, .ref q23, .ref q24, .ref q25, .int km])), (q3, .inl (cI, 48, .inl th)), (q4, .inl (cI, 48, .inl mo))]
          refine J_if_ne h 41 dX9_likely_36 (by decide) (fun z => absurd z (by decide)) (fun _ => ?_)
          refine J_iconst h (v := (-1)) dX9_likely_39 (by decide) ?_
          exact hR ((-1)) () (⟨(by exact fLik_no (fun q => by have q1 := q.1; have q2 := q.2.1; have q3 := q.2.2.1; have q4 := q.2.2.2; first | exact absurd q1 (by assumption) | exact absurd q2 (by assumption) | omega)), trivial⟩) 40 _ dX9_likely_40
      · obtain ⟨rfl, f0_23, -⟩ := p_23
        show J X 14 0 0 26 [(0, .ref q0), (1, .int (nI jx_4)), (2, .int (nI jw_4)), (3, .int (nI jc_12)), (4, .int p3), (5, .int p4)] [.int (nI 0)] [(q0, .inr (9, [.int (nI ro), .int (nI co), .int sl, .ref q3, .ref q4, .int sn, .ref q6, .ref q7, .ref q8, .ref q9, .int ts, .int ra, .int rr, .int rw, .ref q14, .ref q15, .int rn, .ref q17, .ref q18, .ref q19, .int um, .int bs, .int bh, .ref q23, .ref q24, .ref q25, .int km])), (q3, .inl (cI, 48, .inl th)), (q4, .inl (cI, 48, .inl mo))]
        refine J_if_eq h 39 dX9_likely_26 (by decide) (fun _ => ?_) (fun z => absurd z (by decide))
        refine J_iconst h (v := (-1)) dX9_likely_39 (by decide) ?_
        exact hR ((-1)) () (⟨(by exact fLik_no (fun q => by have q1 := q.1; have q2 := q.2.1; have q3 := q.2.2.1; have q4 := q.2.2.2; first | exact absurd q1 (by assumption) | exact absurd q2 (by assumption) | omega)), trivial⟩) 40 _ dX9_likely_40
    · obtain ⟨rfl, f0_12, -⟩ := p_12
      show J X 14 0 0 15 [(0, .ref q0), (1, .int (nI jx_4)), (2, .int (nI jw_4)), (3, .int p2), (4, .int p3), (5, .int p4)] [.int (nI 0)] [(q0, .inr (9, [.int (nI ro), .int (nI co), .int sl, .ref q3, .ref q4, .int sn, .ref q6, .ref q7, .ref q8, .ref q9, .int ts, .int ra, .int rr, .int rw, .ref q14, .ref q15, .int rn, .ref q17, .ref q18, .ref q19, .int um, .int bs, .int bh, .ref q23, .ref q24, .ref q25, .int km])), (q3, .inl (cI, 48, .inl th)), (q4, .inl (cI, 48, .inl mo))]
      refine J_if_eq h 39 dX9_likely_15 (by decide) (fun _ => ?_) (fun z => absurd z (by decide))
      refine J_iconst h (v := (-1)) dX9_likely_39 (by decide) ?_
      exact hR ((-1)) () (⟨(by exact fLik_no (fun q => by have q1 := q.1; have q2 := q.2.1; have q3 := q.2.2.1; have q4 := q.2.2.2; first | exact absurd q1 (by assumption) | exact absurd q2 (by assumption) | omega)), trivial⟩) 40 _ dX9_likely_40
  · obtain ⟨rfl, f0_4, -⟩ := p_4
    show J X 14 0 0 7 [(0, .ref q0), (1, .int p0), (2, .int p1), (3, .int p2), (4, .int p3), (5, .int p4)] [.int (nI 0)] [(q0, .inr (9, [.int (nI ro), .int (nI co), .int sl, .ref q3, .ref q4, .int sn, .ref q6, .ref q7, .ref q8, .ref q9, .int ts, .int ra, .int rr, .int rw, .ref q14, .ref q15, .int rn, .ref q17, .ref q18, .ref q19, .int um, .int bs, .int bh, .ref q23, .ref q24, .ref q25, .int km])), (q3, .inl (cI, 48, .inl th)), (q4, .inl (cI, 48, .inl mo))]
    refine J_if_eq h 39 dX9_likely_7 (by decide) (fun _ => ?_) (fun z => absurd z (by decide))
    refine J_iconst h (v := (-1)) dX9_likely_39 (by decide) ?_
    exact hR ((-1)) () (⟨(by exact fLik_no (fun q => by have q1 := q.1; have q2 := q.2.1; have q3 := q.2.2.1; have q4 := q.2.2.2; first | exact absurd q1 (by assumption) | exact absurd q2 (by assumption) | omega)), trivial⟩) 40 _ dX9_likely_40
theorem c_X9_likely (l : Launch) (D : va_G) (cI cE : ClassId) (q0 : Nat) (q3 : Nat) (q4 : Nat) (q6 : Nat) (q7 : Nat) (q8 : Nat) (q9 : Nat) (q14 : Nat) (q15 : Nat) (q17 : Nat) (q18 : Nat) (q19 : Nat) (q23 : Nat) (q24 : Nat) (q25 : Nat) (ro : Nat) (co : Nat) (sl : Int32) (sn : Int32) (ts : Int32) (ra : Int32) (rr : Int32) (rw : Int32) (rn : Int32) (um : Int32) (bs : Int32) (bh : Int32) (km : Int32) (th : Nat → Int32) (mo : Nat → Int32) (cth : Nat → Int32) (cow : Nat → Int32) (p0 : Int32) (p1 : Int32) (p2 : Int32) (p3 : Int32) (p4 : Int32) (hrc : ro * co ≤ 48) (hco : co ≤ 6) (hro : ro ≤ 8) (hrel : rel (ro * co) th mo cth cow) : Ci l D cI cE yX9_likely cX9_likely 14 (some .int) 3 0 0 [.ref q0, .int p0, .int p1, .int p2, .int p3, .int p4] [(q0, .inr (9, [.int (nI ro), .int (nI co), .int sl, .ref q3, .ref q4, .int sn, .ref q6, .ref q7, .ref q8, .ref q9, .int ts, .int ra, .int rr, .int rw, .ref q14, .ref q15, .int rn, .ref q17, .ref q18, .ref q19, .int um, .int bs, .int bh, .ref q23, .ref q24, .ref q25, .int km])), (q3, .inl (cI, 48, .inl th)), (q4, .inl (cI, 48, .inl mo))] (fun (r : Int32) (u : Unit) => ((fLikely cth co ro p0 p1 p2 p3 p4 = r) ∧ (True))) (fun (u : Unit) => ([(q0, .inr (9, [.int (nI ro), .int (nI co), .int sl, .ref q3, .ref q4, .int sn, .ref q6, .ref q7, .ref q8, .ref q9, .int ts, .int ra, .int rr, .int rw, .ref q14, .ref q15, .int rn, .ref q17, .ref q18, .ref q19, .int um, .int bs, .int bh, .ref q23, .ref q24, .ref q25, .int km])), (q3, .inl (cI, 48, .inl th)), (q4, .inl (cI, 48, .inl mo))] : va_W)) :=
  Ci.of (by decide) (Nat.le_of_ble_eq_true rfl) (fun _ _ _ => rfl) (fun X h hR => w_X9_likely X h q0 q3 q4 q6 q7 q8 q9 q14 q15 q17 q18 q19 q23 q24 q25 ro co sl sn ts ra rr rw rn um bs bh km th mo cth cow p0 p1 p2 p3 p4 hrc hco hro hrel hR)
theorem yv_X9_likely : YV yX9_likely cX9_likely 14 (some .int) 5 := ⟨no_X9_likely, nv_X9_likely, ni_X9, nk_X9_likely, by decide +kernel⟩
