set_option maxRecDepth 100000 in
set_option maxHeartbeats 4000000 in
theorem w_X9_setBest_9 (X : Cx) {cI cE : ClassId} (h : Ok X cX9_setBest RX9 9 cI cE 3 0 0) (q0 : Nat) (q3 : Nat) (q4 : Nat) (q6 : Nat) (q7 : Nat) (q8 : Nat) (q9 : Nat) (q14 : Nat) (q15 : Nat) (q17 : Nat) (q18 : Nat) (q19 : Nat) (q23 : Nat) (q24 : Nat) (q25 : Nat) (ro : Nat) (co : Nat) (sl : Int32) (sn : Int32) (ts : Int32) (ra : Int32) (rr : Int32) (rw : Int32) (rn : Int32) (um : Int32) (bs : Int32) (bh : Int32) (km : Int32) (th : Nat → Int32) (mo : Nat → Int32) (ce : Nat → Int32) (se : Nat → Int32) (cth : Nat → Int32) (cow : Nat → Int32) (p0 : Int32) (p1 : Int32) (hrc : ro * co ≤ 48) (hco : co ≤ 6) (hro : ro ≤ 8) (hrel : rel (ro * co) th mo cth cow) (hs1 : 0 ≤ p1.toInt ∧ p1.toInt < 4) (hR : ∀ (u : (Nat → Int32) × (Nat → Int32) × (Int32) × (Int32)), ((True)) → RetV X cX9_setBest 9 0 0 [(q0, .inr (9, [.int (nI ro), .int (nI co), .int sl, .ref q3, .ref q4, .int sn, .ref q6, .ref q7, .ref q8, .ref q9, .int ts, .int ra, .int rr, .int rw, .ref q14, .ref q15, .int rn, .ref q17, .ref q18, .ref q19, .int um, .int u.2.2.1, .int u.2.2.2, .ref q23, .ref q24, .ref q25, .int km])), (q3, .inl (cI, 48, .inl th)), (q4, .inl (cI, 48, .inl mo)), (q17, .inl (cI, 8, .inl u.1)), (q18, .inl (cI, 8, .inl u.2.1))]) : ∀ (n_9 : Nat) (c : Nat) (bs1 : Int32) (bh1 : Int32) (ce1 : Nat → Int32) (se1 : Nat → Int32), (100 ≤ c ∧ c ≤ 60000) → 60000 - c < n_9 → J X 9 0 0 9 [(0, .ref q0), (1, .int p0), (2, .int p1), (3, .int (nI c))] [] [(q0, .inr (9, [.int (nI ro), .int (nI co), .int sl, .ref q3, .ref q4, .int sn, .ref q6, .ref q7, .ref q8, .ref q9, .int ts, .int ra, .int rr, .int rw, .ref q14, .ref q15, .int rn, .ref q17, .ref q18, .ref q19, .int um, .int bs1, .int bh1, .ref q23, .ref q24, .ref q25, .int km])), (q3, .inl (cI, 48, .inl th)), (q4, .inl (cI, 48, .inl mo)), (q17, .inl (cI, 8, .inl ce1)), (q18, .inl (cI, 8, .inl se1))] := by
  intro n_9
  induction n_9 with
  | zero => intro c bs1 bh1 ce1 se1 hc hn_; exact absurd hn_ (Nat.not_lt_zero _)
  | succ n_9 ih_9 =>
    intro c bs1 bh1 ce1 se1 hc hn_9
    refine J_iload_n h (i := 3) dX9_setBest_9 rfl 3 rfl ?_
    refine J_sipush h (v := nI 10000) dX9_setBest_10 (by decide) ?_
    refine J_aload_n h (i := 0) dX9_setBest_13 rfl 0 rfl ?_
    refine J_get h inX9 rfl 0 1 (by decide) rfl rfl nf_X9_52 dX9_setBest_14 ?_
    refine N_imul h dX9_setBest_17 ?_
    refine N_icmp_ge h 158 dX9_setBest_18 (by decide) (by omega) (by omega) (fun c_18 => ?_) (fun c_18 => ?_)
    · skip
      exact hR (ce1, se1, bs1, bh1) (by trivial) 158 _ dX9_setBest_158
    · skip
      refine J_iload_n h (i := 3) dX9_setBest_21 rfl 3 rfl ?_
      refine J_sipush h (v := nI 10000) dX9_setBest_22 (by decide) ?_
      refine N_idiv h (by omega) (by omega) (by omega) dX9_setBest_25 ?_
      refine J_istore h (lv' := [(4, .int (nI (c / 10000))), (0, .ref q0), (1, .int p0), (2, .int p1), (3, .int (nI c))]) dX9_setBest_26 (by decide) rfl ?_
      refine J_iload_n h (i := 3) dX9_setBest_28 rfl 4 rfl ?_
      refine J_bipush h (v := nI 100) dX9_setBest_29 (by decide) ?_
      refine N_idiv h (by omega) (by omega) (by omega) dX9_setBest_31 ?_
      refine J_bipush h (v := nI 100) dX9_setBest_32 (by decide) ?_
      refine N_irem h (by omega) (by omega) (by omega) dX9_setBest_34 ?_
      refine J_istore h (lv' := [(5, .int (nI ((c / 100) % 100))), (4, .int (nI (c / 10000))), (0, .ref q0), (1, .int p0), (2, .int p1), (3, .int (nI c))]) dX9_setBest_35 (by decide) rfl ?_
      refine J_iload_n h (i := 3) dX9_setBest_37 rfl 5 rfl ?_
      refine J_bipush h (v := nI 100) dX9_setBest_38 (by decide) ?_
      refine N_irem h (by omega) (by omega) (by omega) dX9_setBest_40 ?_
      refine J_istore h (lv' := [(6, .int (nI (c % 100))), (5, .int (nI ((c / 100) % 100))), (4, .int (nI (c / 10000))), (0, .ref q0), (1, .int p0), (2, .int p1), (3, .int (nI c))]) dX9_setBest_41 (by decide) rfl ?_
      refine J_aload_n h (i := 0) dX9_setBest_43 rfl 3 rfl ?_
      refine J_iload h dX9_setBest_44 2 rfl ?_
      refine J_iload h dX9_setBest_46 1 rfl ?_
      refine J_iload h dX9_setBest_48 0 rfl ?_
      refine K_vi h (wr := [(q3, .inl (cI, 48, .inl th)), (q4, .inl (cI, 48, .inl mo)), (q17, .inl (cI, 8, .inl ce1)), (q18, .inl (cI, 8, .inl se1))]) (c_X9_isSlideN (xl X) (xD X) cI cE q0 q3 q4 q6 q7 q8 q9 q14 q15 q17 q18 q19 q23 q24 q25 ro co sl sn ts ra rr rw rn um bs1 bh1 km (c / 10000) ((c / 100) % 100) (c % 100) (by first | exact hco |  assumption | omega | rfl) (by first | assumption | omega | rfl) (by first | assumption | omega | rfl) (by first | assumption | omega | rfl)) yv_X9_isSlide nm_X9_134 (by decide) (by decide) rfl rfl 0 rfl rfl rfl rfl (Nat.le_of_ble_eq_true rfl) (Nat.le_refl _) (Nat.le_refl _) dX9_setBest_50 (fun r_50 u_50 p_50 => ?_)
      rcases p_50 with p_50 | p_50
      · obtain ⟨rfl, f0_50, -⟩ := p_50
        show J X 9 0 0 53 [(6, .int (nI (c % 100))), (5, .int (nI ((c / 100) % 100))), (4, .int (nI (c / 10000))), (0, .ref q0), (1, .int p0), (2, .int p1), (3, .int (nI c))] [.int (nI 1)] [(q0, .inr (9, [.int (nI ro), .int (nI co), .int sl, .ref q3, .ref q4, .int sn, .ref q6, .ref q7, .ref q8, .ref q9, .int ts, .int ra, .int rr, .int rw, .ref q14, .ref q15, .int rn, .ref q17, .ref q18, .ref q19, .int um, .int bs1, .int bh1, .ref q23, .ref q24, .ref q25, .int km])), (q3, .inl (cI, 48, .inl th)), (q4, .inl (cI, 48, .inl mo)), (q17, .inl (cI, 8, .inl ce1)), (q18, .inl (cI, 8, .inl se1))]
        refine J_if_eq h 152 dX9_setBest_53 (by decide) (fun z => absurd z (by decide)) (fun _ => ?_)
        refine J_aload_n h (i := 0) dX9_setBest_56 rfl 3 rfl ?_
        refine J_iload h dX9_setBest_57 2 rfl ?_
        refine J_iload h dX9_setBest_59 1 rfl ?_
        refine J_iload h dX9_setBest_61 0 rfl ?_
        refine J.wld [0, 1, 3, 4, 2] (ws' := [(q0, .inr (9, [.int (nI ro), .int (nI co), .int sl, .ref q3, .ref q4, .int sn, .ref q6, .ref q7, .ref q8, .ref q9, .int ts, .int ra, .int rr, .int rw, .ref q14, .ref q15, .int rn, .ref q17, .ref q18, .ref q19, .int um, .int bs1, .int bh1, .ref q23, .ref q24, .ref q25, .int km])), (q3, .inl (cI, 48, .inl th)), (q17, .inl (cI, 8, .inl ce1)), (q18, .inl (cI, 8, .inl se1)), (q4, .inl (cI, 48, .inl mo))]) rfl rfl ?_
        refine K_vi h (wr := [(q4, .inl (cI, 48, .inl mo))]) (c_X9_goes (xl X) (xD X) cI cE q0 q3 q4 q6 q7 q8 q9 q14 q15 q17 q18 q19 q23 q24 q25 ro co sl sn ts ra rr rw rn um bs1 bh1 km th ce1 se1 cth (c / 10000) ((c / 100) % 100) (c % 100) (by first | exact hrc |  assumption | omega | rfl) (by first | exact hco |  assumption | omega | rfl) (by first | exact hro |  assumption | omega | rfl) (by first | assumption | omega | rfl) (by first | assumption | omega | rfl) (by first | assumption | omega | rfl) (by exact rel_T hrel)) yv_X9_goes nm_X9_137 (by decide) (by decide) rfl rfl 0 rfl rfl rfl rfl (Nat.le_of_ble_eq_true rfl) (Nat.le_refl _) (Nat.le_refl _) dX9_setBest_63 (fun r_63 u_63 p_63 => ?_)
        obtain ⟨ce2_63, se2_63⟩ := u_63
        try dsimp only at p_63
        obtain ⟨rfl, f0_63, f1_63, f2_63, f3_63, -⟩ := p_63
        show J X 9 0 0 66 [(6, .int (nI (c % 100))), (5, .int (nI ((c / 100) % 100))), (4, .int (nI (c / 10000))), (0, .ref q0), (1, .int p0), (2, .int p1), (3, .int (nI c))] [.int (nI (ren cth co ro (c % 100) (c / 10000) ((c / 100) % 100)))] [(q0, .inr (9, [.int (nI ro), .int (nI co), .int sl, .ref q3, .ref q4, .int sn, .ref q6, .ref q7, .ref q8, .ref q9, .int ts, .int ra, .int rr, .int rw, .ref q14, .ref q15, .int rn, .ref q17, .ref q18, .ref q19, .int um, .int bs1, .int bh1, .ref q23, .ref q24, .ref q25, .int km])), (q3, .inl (cI, 48, .inl th)), (q17, .inl (cI, 8, .inl ce2_63)), (q18, .inl (cI, 8, .inl se2_63)), (q4, .inl (cI, 48, .inl mo))]
        refine J_pop h dX9_setBest_66 rfl ?_
        refine J_aload_n h (i := 0) dX9_setBest_67 rfl 3 rfl ?_
        refine J_iload_n h (i := 2) dX9_setBest_68 rfl 5 rfl ?_
        refine J_iload_n h (i := 1) dX9_setBest_69 rfl 4 rfl ?_
        refine J.wld [0, 1, 4, 2, 3] (ws' := [(q0, .inr (9, [.int (nI ro), .int (nI co), .int sl, .ref q3, .ref q4, .int sn, .ref q6, .ref q7, .ref q8, .ref q9, .int ts, .int ra, .int rr, .int rw, .ref q14, .ref q15, .int rn, .ref q17, .ref q18, .ref q19, .int um, .int bs1, .int bh1, .ref q23, .ref q24, .ref q25, .int km])), (q3, .inl (cI, 48, .inl th)), (q4, .inl (cI, 48, .inl mo)), (q17, .inl (cI, 8, .inl ce2_63)), (q18, .inl (cI, 8, .inl se2_63))]) rfl rfl ?_
        refine K_vi h (wr := []) (c_X9_ownedThen (xl X) (xD X) cI cE q0 q3 q4 q6 q7 q8 q9 q14 q15 q17 q18 q19 q23 q24 q25 ro co sl sn ts ra rr rw rn um bs1 bh1 km th mo ce2_63 se2_63 cth cow p1 p0 (rcl cth co (c % 100) (c / 10000) (c / 100 % 100)) (rln cth co ro (c % 100) (c / 10000) (c / 100 % 100)) (by first | exact hrc |  assumption | omega | rfl) (by first | exact hco |  assumption | omega | rfl) (by first | exact hro |  assumption | omega | rfl) (by first | exact hrel |  assumption | omega | rfl) (by intro k hk; exact ⟨f0_63 k hk, rcl_lt cth (by omega) (by omega) (Nat.lt_of_lt_of_le hk (rln_le _ _ _ _ _ _))⟩) (by exact f2_63) (by exact rln_le _ _ _ _ _ _) (by exact hs1)) yv_X9_ownedThen nm_X9_173 (by decide) (by decide) rfl rfl 0 rfl rfl rfl rfl (Nat.le_of_ble_eq_true rfl) (Nat.le_refl _) (Nat.le_refl _) dX9_setBest_70 (fun r_70 u_70 p_70 => ?_)
        show J X 9 0 0 73 [(6, .int (nI (c % 100))), (5, .int (nI ((c / 100) % 100))), (4, .int (nI (c / 10000))), (0, .ref q0), (1, .int p0), (2, .int p1), (3, .int (nI c))] [.int r_70] [(q0, .inr (9, [.int (nI ro), .int (nI co), .int sl, .ref q3, .ref q4, .int sn, .ref q6, .ref q7, .ref q8, .ref q9, .int ts, .int ra, .int rr, .int rw, .ref q14, .ref q15, .int rn, .ref q17, .ref q18, .ref q19, .int um, .int bs1, .int bh1, .ref q23, .ref q24, .ref q25, .int km])), (q3, .inl (cI, 48, .inl th)), (q4, .inl (cI, 48, .inl mo)), (q17, .inl (cI, 8, .inl ce2_63)), (q18, .inl (cI, 8, .inl se2_63))]
        refine J_istore h (lv' := [(7, .int r_70), (6, .int (nI (c % 100))), (5, .int (nI ((c / 100) % 100))), (4, .int (nI (c / 10000))), (0, .ref q0), (1, .int p0), (2, .int p1), (3, .int (nI c))]) dX9_setBest_73 (by decide) rfl ?_
        refine J_aload_n h (i := 0) dX9_setBest_75 rfl 4 rfl ?_
        refine J_get h inX9 rfl 0 21 (by decide) rfl rfl nf_X9_170 dX9_setBest_76 ?_
        refine J_bipush h (v := (-4)) dX9_setBest_79 (by decide) ?_
        refine T_icmp_eq h (A := (bs1).toInt) (B := (-4)) 110 dX9_setBest_81 (by decide) (rfl) (by decide) (fun c_81 => ?_) (fun c_81 => ?_)
        · skip
          refine J_iconst h (v := nI 1) dX9_setBest_110 (by decide) ?_
          refine J_goto h 115 dX9_setBest_111 (by decide) ?_
          refine J_istore h (lv' := [(8, .int (nI 1)), (7, .int r_70), (6, .int (nI (c % 100))), (5, .int (nI ((c / 100) % 100))), (4, .int (nI (c / 10000))), (0, .ref q0), (1, .int p0), (2, .int p1), (3, .int (nI c))]) dX9_setBest_115 (by decide) rfl ?_
          refine J_aload_n h (i := 0) dX9_setBest_117 rfl 5 rfl ?_
          refine J_iload h dX9_setBest_118 0 rfl ?_
          refine J_if_eq h 127 dX9_setBest_120 (by decide) (fun z => absurd z (by decide)) (fun _ => ?_)
          refine J_iload_n h (i := 3) dX9_setBest_123 rfl 8 rfl ?_
          refine J_goto h 131 dX9_setBest_124 (by decide) ?_
          refine J_put h (ws' := [(q0, .inr (9, [.int (nI ro), .int (nI co), .int sl, .ref q3, .ref q4, .int sn, .ref q6, .ref q7, .ref q8, .ref q9, .int ts, .int ra, .int rr, .int rw, .ref q14, .ref q15, .int rn, .ref q17, .ref q18, .ref q19, .int um, .int (nI c), .int bh1, .ref q23, .ref q24, .ref q25, .int km])), (q3, .inl (cI, 48, .inl th)), (q4, .inl (cI, 48, .inl mo)), (q17, .inl (cI, 8, .inl ce2_63)), (q18, .inl (cI, 8, .inl se2_63))]) inX9 tyX9 tyX9_ok nmX9 rfl 0 21 (by decide) rfl nf_X9_170 rfl rfl rfl rfl (Nat.le_of_ble_eq_true rfl) dX9_setBest_131 rfl ?_
          refine J_aload_n h (i := 0) dX9_setBest_134 rfl 5 rfl ?_
          refine J_iload h dX9_setBest_135 0 rfl ?_
          refine J_if_eq h 145 dX9_setBest_137 (by decide) (fun z => absurd z (by decide)) (fun _ => ?_)
          refine J_iload h dX9_setBest_140 1 rfl ?_
          refine J_goto h 149 dX9_setBest_142 (by decide) ?_
          refine J_put h (ws' := [(q0, .inr (9, [.int (nI ro), .int (nI co), .int sl, .ref q3, .ref q4, .int sn, .ref q6, .ref q7, .ref q8, .ref q9, .int ts, .int ra, .int rr, .int rw, .ref q14, .ref q15, .int rn, .ref q17, .ref q18, .ref q19, .int um, .int (nI c), .int r_70, .ref q23, .ref q24, .ref q25, .int km])), (q3, .inl (cI, 48, .inl th)), (q4, .inl (cI, 48, .inl mo)), (q17, .inl (cI, 8, .inl ce2_63)), (q18, .inl (cI, 8, .inl se2_63))]) inX9 tyX9 tyX9_ok nmX9 rfl 0 22 (by decide) rfl nf_X9_176 rfl rfl rfl rfl (Nat.le_of_ble_eq_true rfl) dX9_setBest_149 rfl ?_
          refine J_iinc h (v := nI (c + 1)) (lv' := [(3, .int (nI (c + 1))), (8, .int (nI 1)), (7, .int r_70), (6, .int (nI (c % 100))), (5, .int (nI ((c / 100) % 100))), (4, .int (nI (c / 10000))), (0, .ref q0), (1, .int p0), (2, .int p1)]) dX9_setBest_152 8 rfl (inc_ok _ 1) (by decide) rfl ?_
          refine J_goto h 9 dX9_setBest_155 (by decide) ?_
          refine J.loc [6, 7, 8, 0] (lv' := [(0, .ref q0), (1, .int p0), (2, .int p1), (3, .int (nI (c + 1)))]) rfl ?_
          exact ih_9 (c + 1) (nI c) r_70 ce2_63 se2_63 (by first | exact hc |  assumption | omega | rfl) (by omega)
        · skip
          refine J_iload_n h (i := 2) dX9_setBest_84 rfl 6 rfl ?_
          refine J_iload_n h (i := 1) dX9_setBest_85 rfl 5 rfl ?_
          refine J_icmp_ne h 101 dX9_setBest_86 (by decide) (fun c_86 => ?_) (fun c_86 => ?_)
          · skip
            refine J_iload h dX9_setBest_101 0 rfl ?_
            refine J_aload_n h (i := 0) dX9_setBest_103 rfl 4 rfl ?_
            refine J_get h inX9 rfl 0 22 (by decide) rfl rfl nf_X9_176 dX9_setBest_104 ?_
            refine T_icmp_ge h (A := (r_70).toInt) (B := (bh1).toInt) 114 dX9_setBest_107 (by decide) (rfl) (rfl) (fun c_107 => ?_) (fun c_107 => ?_)
            · skip
              refine J_iconst h (v := nI 0) dX9_setBest_114 (by decide) ?_
              refine J_istore h (lv' := [(8, .int (nI 0)), (7, .int r_70), (6, .int (nI (c % 100))), (5, .int (nI ((c / 100) % 100))), (4, .int (nI (c / 10000))), (0, .ref q0), (1, .int p0), (2, .int p1), (3, .int (nI c))]) dX9_setBest_115 (by decide) rfl ?_
              refine J_aload_n h (i := 0) dX9_setBest_117 rfl 5 rfl ?_
              refine J_iload h dX9_setBest_118 0 rfl ?_
              refine J_if_eq h 127 dX9_setBest_120 (by decide) (fun _ => ?_) (fun z => absurd z (by decide))
              refine J_aload_n h (i := 0) dX9_setBest_127 rfl 5 rfl ?_
              refine J_get h inX9 rfl 0 21 (by decide) rfl rfl nf_X9_170 dX9_setBest_128 ?_
              refine J_put h (ws' := [(q0, .inr (9, [.int (nI ro), .int (nI co), .int sl, .ref q3, .ref q4, .int sn, .ref q6, .ref q7, .ref q8, .ref q9, .int ts, .int ra, .int rr, .int rw, .ref q14, .ref q15, .int rn, .ref q17, .ref q18, .ref q19, .int um, .int bs1, .int bh1, .ref q23, .ref q24, .ref q25, .int km])), (q3, .inl (cI, 48, .inl th)), (q4, .inl (cI, 48, .inl mo)), (q17, .inl (cI, 8, .inl ce2_63)), (q18, .inl (cI, 8, .inl se2_63))]) inX9 tyX9 tyX9_ok nmX9 rfl 0 21 (by decide) rfl nf_X9_170 rfl rfl rfl rfl (Nat.le_of_ble_eq_true rfl) dX9_setBest_131 rfl ?_
              refine J_aload_n h (i := 0) dX9_setBest_134 rfl 5 rfl ?_
              refine J_iload h dX9_setBest_135 0 rfl ?_
              refine J_if_eq h 145 dX9_setBest_137 (by decide) (fun _ => ?_) (fun z => absurd z (by decide))
              refine J_aload_n h (i := 0) dX9_setBest_145 rfl 5 rfl ?_
              refine J_get h inX9 rfl 0 22 (by decide) rfl rfl nf_X9_176 dX9_setBest_146 ?_
              refine J_put h (ws' := [(q0, .inr (9, [.int (nI ro), .int (nI co), .int sl, .ref q3, .ref q4, .int sn, .ref q6, .ref q7, .ref q8, .ref q9, .int ts, .int ra, .int rr, .int rw, .ref q14, .ref q15, .int rn, .ref q17, .ref q18, .ref q19, .int um, .int bs1, .int bh1, .ref q23, .ref q24, .ref q25, .int km])), (q3, .inl (cI, 48, .inl th)), (q4, .inl (cI, 48, .inl mo)), (q17, .inl (cI, 8, .inl ce2_63)), (q18, .inl (cI, 8, .inl se2_63))]) inX9 tyX9 tyX9_ok nmX9 rfl 0 22 (by decide) rfl nf_X9_176 rfl rfl rfl rfl (Nat.le_of_ble_eq_true rfl) dX9_setBest_149 rfl ?_
              refine J_iinc h (v := nI (c + 1)) (lv' := [(3, .int (nI (c + 1))), (8, .int (nI 0)), (7, .int r_70), (6, .int (nI (c % 100))), (5, .int (nI ((c / 100) % 100))), (4, .int (nI (c / 10000))), (0, .ref q0), (1, .int p0), (2, .int p1)]) dX9_setBest_152 8 rfl (inc_ok _ 1) (by decide) rfl ?_
              refine J_goto h 9 dX9_setBest_155 (by decide) ?_
              refine J.loc [6, 7, 8, 0] (lv' := [(0, .ref q0), (1, .int p0), (2, .int p1), (3, .int (nI (c + 1)))]) rfl ?_
              exact ih_9 (c + 1) bs1 bh1 ce2_63 se2_63 (by first | exact hc |  assumption | omega | rfl) (by omega)
            · skip
              refine J_iconst h (v := nI 1) dX9_setBest_110 (by decide) ?_
              refine J_goto h 115 dX9_setBest_111 (by decide) ?_
              refine J_istore h (lv' := [(8, .int (nI 1)), (7, .int r_70), (6, .int (nI (c % 100))), (5, .int (nI ((c / 100) % 100))), (4, .int (nI (c / 10000))), (0, .ref q0), (1, .int p0), (2, .int p1), (3, .int (nI c))]) dX9_setBest_115 (by decide) rfl ?_
              refine J_aload_n h (i := 0) dX9_setBest_117 rfl 5 rfl ?_
              refine J_iload h dX9_setBest_118 0 rfl ?_
              refine J_if_eq h 127 dX9_setBest_120 (by decide) (fun z => absurd z (by decide)) (fun _ => ?_)
              refine J_iload_n h (i := 3) dX9_setBest_123 rfl 8 rfl ?_
              refine J_goto h 131 dX9_setBest_124 (by decide) ?_
              refine J_put h (ws' := [(q0, .inr (9, [.int (nI ro), .int (nI co), .int sl, .ref q3, .ref q4, .int sn, .ref q6, .ref q7, .ref q8, .ref q9, .int ts, .int ra, .int rr, .int rw, .ref q14, .ref q15, .int rn, .ref q17, .ref q18, .ref q19, .int um, .int (nI c), .int bh1, .ref q23, .ref q24, .ref q25, .int km])), (q3, .inl (cI, 48, .inl th)), (q4, .inl (cI, 48, .inl mo)), (q17, .inl (cI, 8, .inl ce2_63)), (q18, .inl (cI, 8, .inl se2_63))]) inX9 tyX9 tyX9_ok nmX9 rfl 0 21 (by decide) rfl nf_X9_170 rfl rfl rfl rfl (Nat.le_of_ble_eq_true rfl) dX9_setBest_131 rfl ?_
              refine J_aload_n h (i := 0) dX9_setBest_134 rfl 5 rfl ?_
              refine J_iload h dX9_setBest_135 0 rfl ?_
              refine J_if_eq h 145 dX9_setBest_137 (by decide) (fun z => absurd z (by decide)) (fun _ => ?_)
              refine J_iload h dX9_setBest_140 1 rfl ?_
              refine J_goto h 149 dX9_setBest_142 (by decide) ?_
              refine J_put h (ws' := [(q0, .inr (9, [.int (nI ro), .int (nI co), .int sl, .ref q3, .ref q4, .int sn, .ref q6, .ref q7, .ref q8, .ref q9, .int ts, .int ra, .int rr, .int rw, .ref q14, .ref q15, .int rn, .ref q17, .ref q18, .ref q19, .int um, .int (nI c), .int r_70, .ref q23, .ref q24, .ref q25, .int km])), (q3, .inl (cI, 48, .inl th)), (q4, .inl (cI, 48, .inl mo)), (q17, .inl (cI, 8, .inl ce2_63)), (q18, .inl (cI, 8, .inl se2_63))]) inX9 tyX9 tyX9_ok nmX9 rfl 0 22 (by decide) rfl nf_X9_176 rfl rfl rfl rfl (Nat.le_of_ble_eq_true rfl) dX9_setBest_149 rfl ?_
              refine J_iinc h (v := nI (c + 1)) (lv' := [(3, .int (nI (c + 1))), (8, .int (nI 1)), (7, .int r_70), (6, .int (nI (c % 100))), (5, .int (nI ((c / 100) % 100))), (4, .int (nI (c / 10000))), (0, .ref q0), (1, .int p0), (2, .int p1)]) dX9_setBest_152 8 rfl (inc_ok _ 1) (by decide) rfl ?_
              refine J_goto h 9 dX9_setBest_155 (by decide) ?_
              refine J.loc [6, 7, 8, 0] (lv' := [(0, .ref q0), (1, .int p0), (2, .int p1), (3, .int (nI (c + 1)))]) rfl ?_
              exact ih_9 (c + 1) (nI c) r_70 ce2_63 se2_63 (by first | exact hc |  assumption | omega | rfl) (by omega)
          · skip
            refine J_iload h dX9_setBest_89 0 rfl ?_
            refine J_aload_n h (i := 0) dX9_setBest_91 rfl 4 rfl ?_
            refine J_get h inX9 rfl 0 22 (by decide) rfl rfl nf_X9_176 dX9_setBest_92 ?_
            refine T_icmp_le h (A := (r_70).toInt) (B := (bh1).toInt) 114 dX9_setBest_95 (by decide) (rfl) (rfl) (fun c_95 => ?_) (fun c_95 => ?_)
            · skip
              refine J_iconst h (v := nI 0) dX9_setBest_114 (by decide) ?_
              refine J_istore h (lv' := [(8, .int (nI 0)), (7, .int r_70), (6, .int (nI (c % 100))), (5, .int (nI ((c / 100) % 100))), (4, .int (nI (c / 10000))), (0, .ref q0), (1, .int p0), (2, .int p1), (3, .int (nI c))]) dX9_setBest_115 (by decide) rfl ?_
              refine J_aload_n h (i := 0) dX9_setBest_117 rfl 5 rfl ?_
              refine J_iload h dX9_setBest_118 0 rfl ?_
              refine J_if_eq h 127 dX9_setBest_120 (by decide) (fun _ => ?_) (fun z => absurd z (by decide))
              refine J_aload_n h (i := 0) dX9_setBest_127 rfl 5 rfl ?_
              refine J_get h inX9 rfl 0 21 (by decide) rfl rfl nf_X9_170 dX9_setBest_128 ?_
              refine J_put h (ws' := [(q0, .inr (9, [.int (nI ro), .int (nI co), .int sl, .ref q3, .ref q4, .int sn, .ref q6, .ref q7, .ref q8, .ref q9, .int ts, .int ra, .int rr, .int rw, .ref q14, .ref q15, .int rn, .ref q17, .ref q18, .ref q19, .int um, .int bs1, .int bh1, .ref q23, .ref q24, .ref q25, .int km])), (q3, .inl (cI, 48, .inl th)), (q4, .inl (cI, 48, .inl mo)), (q17, .inl (cI, 8, .inl ce2_63)), (q18, .inl (cI, 8, .inl se2_63))]) inX9 tyX9 tyX9_ok nmX9 rfl 0 21 (by decide) rfl nf_X9_170 rfl rfl rfl rfl (Nat.le_of_ble_eq_true rfl) dX9_setBest_131 rfl ?_
              refine J_aload_n h (i := 0) dX9_setBest_134 rfl 5 rfl ?_
              refine J_iload h dX9_setBest_135 0 rfl ?_
              refine J_if_eq h 145 dX9_setBest_137 (by decide) (fun _ => ?_) (fun z => absurd z (by decide))
              refine J_aload_n h (i := 0) dX9_setBest_145 rfl 5 rfl ?_
              refine J_get h inX9 rfl 0 22 (by decide) rfl rfl nf_X9_176 dX9_setBest_146 ?_
              refine J_put h (ws' := [(q0, .inr (9, [.int (nI ro), .int (nI co), .int sl, .ref q3, .ref q4, .int sn, .ref q6, .ref q7, .ref q8, .ref q9, .int ts, .int ra, .int rr, .int rw, .ref q14, .ref q15, .int rn, .ref q17, .ref q18, .ref q19, .int um, .int bs1, .int bh1, .ref q23, .ref q24, .ref q25, .int km])), (q3, .inl (cI, 48, .inl th)), (q4, .inl (cI, 48, .inl mo)), (q17, .inl (cI, 8, .inl ce2_63)), (q18, .inl (cI, 8, .inl se2_63))]) inX9 tyX9 tyX9_ok nmX9 rfl 0 22 (by decide) rfl nf_X9_176 rfl rfl rfl rfl (Nat.le_of_ble_eq_true rfl) dX9_setBest_149 rfl ?_
              refine J_iinc h (v := nI (c + 1)) (lv' := [(3, .int (nI (c + 1))), (8, .int (nI 0)), (7, .int r_70), (6, .int (nI (c % 100))), (5, .int (nI ((c / 100) % 100))), (4, .int (nI (c / 10000))), (0, .ref q0), (1, .int p0), (2, .int p1)]) dX9_setBest_152 8 rfl (inc_ok _ 1) (by decide) rfl ?_
              refine J_goto h 9 dX9_setBest_155 (by decide) ?_
              refine J.loc [6, 7, 8, 0] (lv' := [(0, .ref q0), (1, .int p0), (2, .int p1), (3, .int (nI (c + 1)))]) rfl ?_
              exact ih_9 (c + 1) bs1 bh1 ce2_63 se2_63 (by first | exact hc |  assumption | omega | rfl) (by omega)
            · skip
              refine J_goto h 110 dX9_setBest_98 (by decide) ?_
              refine J_iconst h (v := nI 1) dX9_setBest_110 (by decide) ?_
              refine J_goto h 115 dX9_setBest_111 (by decide) ?_
              refine J_istore h (lv' := [(8, .int (nI 1)), (7, .int r_70), (6, .int (nI (c % 100))), (5, .int (nI ((c / 100) % 100))), (4, .int (nI (c / 10000))), (0, .ref q0), (1, .int p0), (2, .int p1), (3, .int (nI c))]) dX9_setBest_115 (by decide) rfl ?_
              refine J_aload_n h (i := 0) dX9_setBest_117 rfl 5 rfl ?_
              refine J_iload h dX9_setBest_118 0 rfl ?_
              refine J_if_eq h 127 dX9_setBest_120 (by decide) (fun z => absurd z (by decide)) (fun _ => ?_)
              refine J_iload_n h (i := 3) dX9_setBest_123 rfl 8 rfl ?_
              refine J_goto h 131 dX9_setBest_124 (by decide) ?_
              refine J_put h (ws' := [(q0, .inr (9, [.int (nI ro), .int (nI co), .int sl, .ref q3, .ref q4, .int sn, .ref q6, .ref q7, .ref q8, .ref q9, .int ts, .int ra, .int rr, .int rw, .ref q14, .ref q15, .int rn, .ref q17, .ref q18, .ref q19, .int um, .int (nI c), .int bh1, .ref q23, .ref q24, .ref q25, .int km])), (q3, .inl (cI, 48, .inl th)), (q4, .inl (cI, 48, .inl mo)), (q17, .inl (cI, 8, .inl ce2_63)), (q18, .inl (cI, 8, .inl se2_63))]) inX9 tyX9 tyX9_ok nmX9 rfl 0 21 (by decide) rfl nf_X9_170 rfl rfl rfl rfl (Nat.le_of_ble_eq_true rfl) dX9_setBest_131 rfl ?_
              refine J_aload_n h (i := 0) dX9_setBest_134 rfl 5 rfl ?_
              refine J_iload h dX9_setBest_135 0 rfl ?_
              refine J_if_eq h 145 dX9_setBest_137 (by decide) (fun z => absurd z (by decide)) (fun _ => ?_)
              refine J_iload h dX9_setBest_140 1 rfl ?_
              refine J_goto h 149 dX9_setBest_142 (by decide) ?_
              refine J_put h (ws' := [(q0, .inr (9, [.int (nI ro), .int (nI co), .int sl, .ref q3, .ref q4, .int sn, .ref q6, .ref q7, .ref q8, .ref q9, .int ts, .int ra, .int rr, .int rw, .ref q14, .ref q15, .int rn, .ref q17, .ref q18, .ref q19, .int um, .int (nI c), .int r_70, .ref q23, .ref q24, .ref q25, .int km])), (q3, .inl (cI, 48, .inl th)), (q4, .inl (cI, 48, .inl mo)), (q17, .inl (cI, 8, .inl ce2_63)), (q18, .inl (cI, 8, .inl se2_63))]) inX9 tyX9 tyX9_ok nmX9 rfl 0 22 (by decide) rfl nf_X9_176 rfl rfl rfl rfl (Nat.le_of_ble_eq_true rfl) dX9_setBest_149 rfl ?_
              refine J_iinc h (v := nI (c + 1)) (lv' := [(3, .int (nI (c + 1))), (8, .int (nI 1)), (7, .int r_70), (6, .int (nI (c % 100))), (5, .int (nI ((c / 100) % 100))), (4, .int (nI (c / 10000))), (0, .ref q0), (1, .int p0), (2, .int p1)]) dX9_setBest_152 8 rfl (inc_ok _ 1) (by decide) rfl ?_
              refine J_goto h 9 dX9_setBest_155 (by decide) ?_
              refine J.loc [6, 7, 8, 0] (lv' := [(0, .ref q0), (1, .int p0), (2, .int p1), (3, .int (nI (c + 1)))]) rfl ?_
              exact ih_9 (c + 1) (nI c) r_70 ce2_63 se2_63 (by first | exact hc |  assumption | omega | rfl) (by omega)
      · obtain ⟨rfl, f0_50, -⟩ := p_50
        show J X 9 0 0 53 [(6, .int (nI (c % 100))), (5, .int (nI ((c / 100) % 100))), (4, .int (nI (c / 10000))), (0, .ref q0), (1, .int p0), (2, .int p1), (3, .int (nI c))] [.int (nI 0)] [(q0, .inr (9, [.int (nI ro), .int (nI co), .int sl, .ref q3, .ref q4, .int sn, .ref q6, .ref q7, .ref q8, .ref q9, .int ts, .int ra, .int rr, .int rw, .ref q14, .ref q15, .int rn, .ref q17, .ref q18, .ref q19, .int um, .int bs1, .int bh1, .ref q23, .ref q24, .ref q25, .int km])), (q3, .inl (cI, 48, .inl th)), (q4, .inl (cI, 48, .inl mo)), (q17, .inl (cI, 8, .inl ce1)), (q18, .inl (cI, 8, .inl se1))]
        refine J_if_eq h 152 dX9_setBest_53 (by decide) (fun _ => ?_) (fun z => absurd z (by decide))
        refine J_iinc h (v := nI (c + 1)) (lv' := [(3, .int (nI (c + 1))), (6, .int (nI (c % 100))), (5, .int (nI ((c / 100) % 100))), (4, .int (nI (c / 10000))), (0, .ref q0), (1, .int p0), (2, .int p1)]) dX9_setBest_152 6 rfl (inc_ok _ 1) (by decide) rfl ?_
        refine J_goto h 9 dX9_setBest_155 (by decide) ?_
        refine J.loc [4, 5, 6, 0] (lv' := [(0, .ref q0), (1, .int p0), (2, .int p1), (3, .int (nI (c + 1)))]) rfl ?_
        exact ih_9 (c + 1) bs1 bh1 ce1 se1 (by first | exact hc |  assumption | omega | rfl) (by omega)
set_option maxRecDepth 100000 in
set_option maxHeartbeats 4000000 in
theorem w_X9_setBest (X : Cx) {cI cE : ClassId} (h : Ok X cX9_setBest RX9 9 cI cE 3 0 0) (q0 : Nat) (q3 : Nat) (q4 : Nat) (q6 : Nat) (q7 : Nat) (q8 : Nat) (q9 : Nat) (q14 : Nat) (q15 : Nat) (q17 : Nat) (q18 : Nat) (q19 : Nat) (q23 : Nat) (q24 : Nat) (q25 : Nat) (ro : Nat) (co : Nat) (sl : Int32) (sn : Int32) (ts : Int32) (ra : Int32) (rr : Int32) (rw : Int32) (rn : Int32) (um : Int32) (bs : Int32) (bh : Int32) (km : Int32) (th : Nat → Int32) (mo : Nat → Int32) (ce : Nat → Int32) (se : Nat → Int32) (cth : Nat → Int32) (cow : Nat → Int32) (p0 : Int32) (p1 : Int32) (hrc : ro * co ≤ 48) (hco : co ≤ 6) (hro : ro ≤ 8) (hrel : rel (ro * co) th mo cth cow) (hs1 : 0 ≤ p1.toInt ∧ p1.toInt < 4) (hR : ∀ (u : (Nat → Int32) × (Nat → Int32) × (Int32) × (Int32)), ((True)) → RetV X cX9_setBest 9 0 0 [(q0, .inr (9, [.int (nI ro), .int (nI co), .int sl, .ref q3, .ref q4, .int sn, .ref q6, .ref q7, .ref q8, .ref q9, .int ts, .int ra, .int rr, .int rw, .ref q14, .ref q15, .int rn, .ref q17, .ref q18, .ref q19, .int um, .int u.2.2.1, .int u.2.2.2, .ref q23, .ref q24, .ref q25, .int km])), (q3, .inl (cI, 48, .inl th)), (q4, .inl (cI, 48, .inl mo)), (q17, .inl (cI, 8, .inl u.1)), (q18, .inl (cI, 8, .inl u.2.1))]) : J X 9 0 0 0 [(0, .ref q0), (1, .int p0), (2, .int p1)] [] [(q0, .inr (9, [.int (nI ro), .int (nI co), .int sl, .ref q3, .ref q4, .int sn, .ref q6, .ref q7, .ref q8, .ref q9, .int ts, .int ra, .int rr, .int rw, .ref q14, .ref q15, .int rn, .ref q17, .ref q18, .ref q19, .int um, .int bs, .int bh, .ref q23, .ref q24, .ref q25, .int km])), (q3, .inl (cI, 48, .inl th)), (q4, .inl (cI, 48, .inl mo)), (q17, .inl (cI, 8, .inl ce)), (q18, .inl (cI, 8, .inl se))] := by
  refine J_aload_n h (i := 0) dX9_setBest_0 rfl 0 rfl ?_
  refine J_bipush h (v := (-4)) dX9_setBest_1 (by decide) ?_
  refine J_put h (ws' := [(q0, .inr (9, [.int (nI ro), .int (nI co), .int sl, .ref q3, .ref q4, .int sn, .ref q6, .ref q7, .ref q8, .ref q9, .int ts, .int ra, .int rr, .int rw, .ref q14, .ref q15, .int rn, .ref q17, .ref q18, .ref q19, .int um, .int ((-4)), .int bh, .ref q23, .ref q24, .ref q25, .int km])), (q3, .inl (cI, 48, .inl th)), (q4, .inl (cI, 48, .inl mo)), (q17, .inl (cI, 8, .inl ce)), (q18, .inl (cI, 8, .inl se))]) inX9 tyX9 tyX9_ok nmX9 rfl 0 21 (by decide) rfl nf_X9_170 rfl rfl rfl rfl (Nat.le_of_ble_eq_true rfl) dX9_setBest_3 rfl ?_
  refine J_bipush h (v := nI 100) dX9_setBest_6 (by decide) ?_
  refine J_istore_n h (i := 3) (lv' := [(3, .int (nI 100)), (0, .ref q0), (1, .int p0), (2, .int p1)]) dX9_setBest_8 rfl (by decide) rfl ?_
  refine J.loc [1, 2, 3, 0] (lv' := [(0, .ref q0), (1, .int p0), (2, .int p1), (3, .int (nI 100))]) rfl ?_
  exact w_X9_setBest_9 X h q0 q3 q4 q6 q7 q8 q9 q14 q15 q17 q18 q19 q23 q24 q25 ro co sl sn ts ra rr rw rn um bs bh km th mo ce se cth cow p0 p1 hrc hco hro hrel hs1 hR  (60000 - 100 + 1) 100 (-4) bh ce se (by first | assumption | omega | rfl) (by omega)
theorem c_X9_setBest (l : Launch) (D : va_G) (cI cE : ClassId) (q0 : Nat) (q3 : Nat) (q4 : Nat) (q6 : Nat) (q7 : Nat) (q8 : Nat) (q9 : Nat) (q14 : Nat) (q15 : Nat) (q17 : Nat) (q18 : Nat) (q19 : Nat) (q23 : Nat) (q24 : Nat) (q25 : Nat) (ro : Nat) (co : Nat) (sl : Int32) (sn : Int32) (ts : Int32) (ra : Int32) (rr : Int32) (rw : Int32) (rn : Int32) (um : Int32) (bs : Int32) (bh : Int32) (km : Int32) (th : Nat → Int32) (mo : Nat → Int32) (ce : Nat → Int32) (se : Nat → Int32) (cth : Nat → Int32) (cow : Nat → Int32) (p0 : Int32) (p1 : Int32) (hrc : ro * co ≤ 48) (hco : co ≤ 6) (hro : ro ≤ 8) (hrel : rel (ro * co) th mo cth cow) (hs1 : 0 ≤ p1.toInt ∧ p1.toInt < 4) : Cv l D cI cE yX9_setBest cX9_setBest 9 none 3 0 0 [.ref q0, .int p0, .int p1] [(q0, .inr (9, [.int (nI ro), .int (nI co), .int sl, .ref q3, .ref q4, .int sn, .ref q6, .ref q7, .ref q8, .ref q9, .int ts, .int ra, .int rr, .int rw, .ref q14, .ref q15, .int rn, .ref q17, .ref q18, .ref q19, .int um, .int bs, .int bh, .ref q23, .ref q24, .ref q25, .int km])), (q3, .inl (cI, 48, .inl th)), (q4, .inl (cI, 48, .inl mo)), (q17, .inl (cI, 8, .inl ce)), (q18, .inl (cI, 8, .inl se))] (fun (u : (Nat → Int32) × (Nat → Int32) × (Int32) × (Int32)) => ((True))) (fun (u : (Nat → Int32) × (Nat → Int32) × (Int32) × (Int32)) => ([(q0, .inr (9, [.int (nI ro), .int (nI co), .int sl, .ref q3, .ref q4, .int sn, .ref q6, .ref q7, .ref q8, .ref q9, .int ts, .int ra, .int rr, .int rw, .ref q14, .ref q15, .int rn, .ref q17, .ref q18, .ref q19, .int um, .int u.2.2.1, .int u.2.2.2, .ref q23, .ref q24, .ref q25, .int km])), (q3, .inl (cI, 48, .inl th)), (q4, .inl (cI, 48, .inl mo)), (q17, .inl (cI, 8, .inl u.1)), (q18, .inl (cI, 8, .inl u.2.1))] : va_W)) :=
  Cv.of (by decide) (Nat.le_of_ble_eq_true rfl) (fun X h hR _ => w_X9_setBest X h q0 q3 q4 q6 q7 q8 q9 q14 q15 q17 q18 q19 q23 q24 q25 ro co sl sn ts ra rr rw rn um bs bh km th mo ce se cth cow p0 p1 hrc hco hro hrel hs1 hR)
theorem yv_X9_setBest : YV yX9_setBest cX9_setBest 9 none 2 := ⟨no_X9_setBest, nv_X9_setBest, ni_X9, nk_X9_setBest, by decide +kernel⟩
set_option maxRecDepth 100000 in
set_option maxHeartbeats 4000000 in
theorem w_X9_gain (X : Cx) {cI cE : ClassId} (h : Ok X cX9_gain RX9 3 cI cE 4 0 0) (q0 : Nat) (q3 : Nat) (q4 : Nat) (q6 : Nat) (q7 : Nat) (q8 : Nat) (q9 : Nat) (q14 : Nat) (q15 : Nat) (q17 : Nat) (q18 : Nat) (q19 : Nat) (q23 : Nat) (q24 : Nat) (q25 : Nat) (ro : Nat) (co : Nat) (sl : Int32) (sn : Int32) (ts : Int32) (ra : Int32) (rr : Int32) (rw : Int32) (rn : Int32) (um : Int32) (bs : Int32) (bh : Int32) (km : Int32) (th : Nat → Int32) (mo : Nat → Int32) (ce : Nat → Int32) (se : Nat → Int32) (cth : Nat → Int32) (cow : Nat → Int32) (p0 : Int32) (p1 : Int32) (hrc : ro * co ≤ 48) (hco : co ≤ 6) (hro : ro ≤ 8) (hrel : rel (ro * co) th mo cth cow) (hR : ∀ (r : Int32) (u : (Nat → Int32) × (Nat → Int32) × (Int32) × (Int32)), ((True)) → RetI X cX9_gain 3 0 0 r [(q0, .inr (9, [.int (nI ro), .int (nI co), .int sl, .ref q3, .ref q4, .int sn, .ref q6, .ref q7, .ref q8, .ref q9, .int ts, .int ra, .int rr, .int rw, .ref q14, .ref q15, .int rn, .ref q17, .ref q18, .ref q19, .int um, .int u.2.2.1, .int u.2.2.2, .ref q23, .ref q24, .ref q25, .int km])), (q3, .inl (cI, 48, .inl th)), (q4, .inl (cI, 48, .inl mo)), (q17, .inl (cI, 8, .inl u.1)), (q18, .inl (cI, 8, .inl u.2.1))]) : J X 3 0 0 0 [(0, .ref q0), (1, .int p0), (2, .int p1)] [] [(q0, .inr (9, [.int (nI ro), .int (nI co), .int sl, .ref q3, .ref q4, .int sn, .ref q6, .ref q7, .ref q8, .ref q9, .int ts, .int ra, .int rr, .int rw, .ref q14, .ref q15, .int rn, .ref q17, .ref q18, .ref q19, .int um, .int bs, .int bh, .ref q23, .ref q24, .ref q25, .int km])), (q3, .inl (cI, 48, .inl th)), (q4, .inl (cI, 48, .inl mo)), (q17, .inl (cI, 8, .inl ce)), (q18, .inl (cI, 8, .inl se))] := by
  refine J_iload_n h (i := 1) dX9_gain_0 rfl 1 rfl ?_
  refine K_si h (wr := [(q0, .inr (9, [.int (nI ro), .int (nI co), .int sl, .ref q3, .ref q4, .int sn, .ref q6, .ref q7, .ref q8, .ref q9, .int ts, .int ra, .int rr, .int rw, .ref q14, .ref q15, .int rn, .ref q17, .ref q18, .ref q19, .int um, .int bs, .int bh, .ref q23, .ref q24, .ref q25, .int km])), (q3, .inl (cI, 48, .inl th)), (q4, .inl (cI, 48, .inl mo)), (q17, .inl (cI, 8, .inl ce)), (q18, .inl (cI, 8, .inl se))]) (c_X9_isSide (xl X) (xD X) cI cE p0 ((p0).toInt) (by exact rfl)) yv_X9_isSide nm_X9_141 (by decide) (by decide) rfl rfl rfl (Nat.le_of_ble_eq_true rfl) (Nat.le_refl _) (Nat.le_refl _) dX9_gain_1 (fun r_1 u_1 p_1 => ?_)
  rcases p_1 with p_1 | p_1
  · obtain ⟨rfl, f0_1, -⟩ := p_1
    show J X 3 0 0 4 [(0, .ref q0), (1, .int p0), (2, .int p1)] [.int (nI 1)] [(q0, .inr (9, [.int (nI ro), .int (nI co), .int sl, .ref q3, .ref q4, .int sn, .ref q6, .ref q7, .ref q8, .ref q9, .int ts, .int ra, .int rr, .int rw, .ref q14, .ref q15, .int rn, .ref q17, .ref q18, .ref q19, .int um, .int bs, .int bh, .ref q23, .ref q24, .ref q25, .int km])), (q3, .inl (cI, 48, .inl th)), (q4, .inl (cI, 48, .inl mo)), (q17, .inl (cI, 8, .inl ce)), (q18, .inl (cI, 8, .inl se))]
    refine J_if_eq h 16 dX9_gain_4 (by decide) (fun z => absurd z (by decide)) (fun _ => ?_)
    refine J_iload_n h (i := 2) dX9_gain_7 rfl 2 rfl ?_
    refine J_iconst h (v := nI 0) dX9_gain_8 (by decide) ?_
    refine J_iconst h (v := nI 1) dX9_gain_9 (by decide) ?_
    refine K_si h (wr := [(q0, .inr (9, [.int (nI ro), .int (nI co), .int sl, .ref q3, .ref q4, .int sn, .ref q6, .ref q7, .ref q8, .ref q9, .int ts, .int ra, .int rr, .int rw, .ref q14, .ref q15, .int rn, .ref q17, .ref q18, .ref q19, .int um, .int bs, .int bh, .ref q23, .ref q24, .ref q25, .int km])), (q3, .inl (cI, 48, .inl th)), (q4, .inl (cI, 48, .inl mo)), (q17, .inl (cI, 8, .inl ce)), (q18, .inl (cI, 8, .inl se))]) (c_X9_in (xl X) (xD X) cI cE p1 (nI 0) (nI 1) ((p1).toInt) 0 1 (by exact rfl) (by exact nI_toInt (by omega)) (by exact nI_toInt (by omega))) yv_X9_in nm_X9_67 (by decide) (by decide) rfl rfl rfl (Nat.le_of_ble_eq_true rfl) (Nat.le_refl _) (Nat.le_refl _) dX9_gain_10 (fun r_10 u_10 p_10 => ?_)
    rcases p_10 with p_10 | p_10
    · obtain ⟨rfl, f0_10, -⟩ := p_10
      show J X 3 0 0 13 [(0, .ref q0), (1, .int p0), (2, .int p1)] [.int (nI 1)] [(q0, .inr (9, [.int (nI ro), .int (nI co), .int sl, .ref q3, .ref q4, .int sn, .ref q6, .ref q7, .ref q8, .ref q9, .int ts, .int ra, .int rr, .int rw, .ref q14, .ref q15, .int rn, .ref q17, .ref q18, .ref q19, .int um, .int bs, .int bh, .ref q23, .ref q24, .ref q25, .int km])), (q3, .inl (cI, 48, .inl th)), (q4, .inl (cI, 48, .inl mo)), (q17, .inl (cI, 8, .inl ce)), (q18, .inl (cI, 8, .inl se))]
      refine J_if_ne h 18 dX9_gain_13 (by decide) (fun _ => ?_) (fun z => absurd z (by decide))
      refine J_aload_n h (i := 0) dX9_gain_18 rfl 0 rfl ?_
      refine J_iload_n h (i := 1) dX9_gain_19 rfl 1 rfl ?_
      refine J_iload_n h (i := 1) dX9_gain_20 rfl 1 rfl ?_
      refine K_vv h (wr := []) (c_X9_setBest (xl X) (xD X) cI cE q0 q3 q4 q6 q7 q8 q9 q14 q15 q17 q18 q19 q23 q24 q25 ro co sl sn ts ra rr rw rn um bs bh km th mo ce se cth cow p0 p0 (by first | exact hrc |  assumption | omega | rfl) (by first | exact hco |  assumption | omega | rfl) (by first | exact hro |  assumption | omega | rfl) (by first | exact hrel |  assumption | omega | rfl) (by first | assumption | omega | rfl)) yv_X9_setBest nm_X9_179 (by decide) (by decide) rfl rfl 0 rfl rfl rfl rfl (Nat.le_of_ble_eq_true rfl) (Nat.le_refl _) (Nat.le_refl _) dX9_gain_21 (fun u_21 p_21 => ?_)
      obtain ⟨ce2_21, se2_21, bs2_21, bh2_21⟩ := u_21
      try dsimp only at p_21
      show J X 3 0 0 24 [(0, .ref q0), (1, .int p0), (2, .int p1)] [] [(q0, .inr (9, [.int (nI ro), .int (nI co), .int sl, .ref q3, .ref q4, .int sn, .ref q6, .ref q7, .ref q8, .ref q9, .int ts, .int ra, .int rr, .int rw, .ref q14, .ref q15, .int rn, .ref q17, .ref q18, .ref q19, .int um, .int bs2_21, .int bh2_21, .ref q23, .ref q24, .ref q25, .int km])), (q3, .inl (cI, 48, .inl th)), (q4, .inl (cI, 48, .inl mo)), (q17, .inl (cI, 8, .inl ce2_21)), (q18, .inl (cI, 8, .inl se2_21))]
      refine J_iload_n h (i := 2) dX9_gain_24 rfl 2 rfl ?_
      refine T_if_ne h (A := (p1).toInt) 35 dX9_gain_25 (by decide) (rfl) (fun c_25 => ?_) (fun c_25 => ?_)
      · skip
        refine J_aload_n h (i := 0) dX9_gain_35 rfl 0 rfl ?_
        refine J_get h inX9 rfl 0 22 (by decide) rfl rfl nf_X9_176 dX9_gain_36 ?_
        exact hR bh2_21 (ce2_21, se2_21, bs2_21, bh2_21) (by trivial) 39 _ dX9_gain_39
      · skip
        refine J_aload_n h (i := 0) dX9_gain_28 rfl 0 rfl ?_
        refine J_get h inX9 rfl 0 21 (by decide) rfl rfl nf_X9_170 dX9_gain_29 ?_
        refine J_goto h 39 dX9_gain_32 (by decide) ?_
        exact hR bs2_21 (ce2_21, se2_21, bs2_21, bh2_21) (by trivial) 39 _ dX9_gain_39
    · obtain ⟨rfl, f0_10, -⟩ := p_10
      show J X 3 0 0 13 [(0, .ref q0), (1, .int p0), (2, .int p1)] [.int (nI 0)] [(q0, .inr (9, [.int (nI ro), .int (nI co), .int sl, .ref q3, .ref q4, .int sn, .ref q6, .ref q7, .ref q8, .ref q9, .int ts, .int ra, .int rr, .int rw, .ref q14, .ref q15, .int rn, .ref q17, .ref q18, .ref q19, .int um, .int bs, .int bh, .ref q23, .ref q24, .ref q25, .int km])), (q3, .inl (cI, 48, .inl th)), (q4, .inl (cI, 48, .inl mo)), (q17, .inl (cI, 8, .inl ce)), (q18, .inl (cI, 8, .inl se))]
      refine J_if_ne h 18 dX9_gain_13 (by decide) (fun z => absurd z (by decide)) (fun _ => ?_)
      refine J_iconst h (v := (-1)) dX9_gain_16 (by decide) ?_
      exact hR ((-1)) (ce, se, bs, bh) (by trivial) 17 _ dX9_gain_17
  · obtain ⟨rfl, f0_1, -⟩ := p_1
    show J X 3 0 0 4 [(0, .ref q0), (1, .int p0), (2, .int p1)] [.int (nI 0)] [(q0, .inr (9, [.int (nI ro), .int (nI co), .int sl, .ref q3, .ref q4, .int sn, .ref q6, .ref q7, .ref q8, .ref q9, .int ts, .int ra, .int rr, .int rw, .ref q14, .ref q15, .int rn, .ref q17, .ref q18, .ref q19, .int um, .int bs, .int bh, .ref q23, .ref q24, .ref q25, .int km])), (q3, .inl (cI, 48, .inl th)), (q4, .inl (cI, 48, .inl mo)), (q17, .inl (cI, 8, .inl ce)), (q18, .inl (cI, 8, .inl se))]
    refine J_if_eq h 16 dX9_gain_4 (by decide) (fun _ => ?_) (fun z => absurd z (by decide))
    refine J_iconst h (v := (-1)) dX9_gain_16 (by decide) ?_
    exact hR ((-1)) (ce, se, bs, bh) (by trivial) 17 _ dX9_gain_17
theorem c_X9_gain (l : Launch) (D : va_G) (cI cE : ClassId) (q0 : Nat) (q3 : Nat) (q4 : Nat) (q6 : Nat) (q7 : Nat) (q8 : Nat) (q9 : Nat) (q14 : Nat) (q15 : Nat) (q17 : Nat) (q18 : Nat) (q19 : Nat) (q23 : Nat) (q24 : Nat) (q25 : Nat) (ro : Nat) (co : Nat) (sl : Int32) (sn : Int32) (ts : Int32) (ra : Int32) (rr : Int32) (rw : Int32) (rn : Int32) (um : Int32) (bs : Int32) (bh : Int32) (km : Int32) (th : Nat → Int32) (mo : Nat → Int32) (ce : Nat → Int32) (se : Nat → Int32) (cth : Nat → Int32) (cow : Nat → Int32) (p0 : Int32) (p1 : Int32) (hrc : ro * co ≤ 48) (hco : co ≤ 6) (hro : ro ≤ 8) (hrel : rel (ro * co) th mo cth cow) : Ci l D cI cE yX9_gain cX9_gain 3 (some .int) 4 0 0 [.ref q0, .int p0, .int p1] [(q0, .inr (9, [.int (nI ro), .int (nI co), .int sl, .ref q3, .ref q4, .int sn, .ref q6, .ref q7, .ref q8, .ref q9, .int ts, .int ra, .int rr, .int rw, .ref q14, .ref q15, .int rn, .ref q17, .ref q18, .ref q19, .int um, .int bs, .int bh, .ref q23, .ref q24, .ref q25, .int km])), (q3, .inl (cI, 48, .inl th)), (q4, .inl (cI, 48, .inl mo)), (q17, .inl (cI, 8, .inl ce)), (q18, .inl (cI, 8, .inl se))] (fun (r : Int32) (u : (Nat → Int32) × (Nat → Int32) × (Int32) × (Int32)) => ((True))) (fun (u : (Nat → Int32) × (Nat → Int32) × (Int32) × (Int32)) => ([(q0, .inr (9, [.int (nI ro), .int (nI co), .int sl, .ref q3, .ref q4, .int sn, .ref q6, .ref q7, .ref q8, .ref q9, .int ts, .int ra, .int rr, .int rw, .ref q14, .ref q15, .int rn, .ref q17, .ref q18, .ref q19, .int um, .int u.2.2.1, .int u.2.2.2, .ref q23, .ref q24, .ref q25, .int km])), (q3, .inl (cI, 48, .inl th)), (q4, .inl (cI, 48, .inl mo)), (q17, .inl (cI, 8, .inl u.1)), (q18, .inl (cI, 8, .inl u.2.1))] : va_W)) :=
  Ci.of (by decide) (Nat.le_of_ble_eq_true rfl) (fun _ _ _ => rfl) (fun X h hR => w_X9_gain X h q0 q3 q4 q6 q7 q8 q9 q14 q15 q17 q18 q19 q23 q24 q25 ro co sl sn ts ra rr rw rn um bs bh km th mo ce se cth cow p0 p1 hrc hco hro hrel hR)
theorem yv_X9_gain : YV yX9_gain cX9_gain 3 (some .int) 2 := ⟨no_X9_gain, nv_X9_gain, ni_X9, nk_X9_gain, by decide +kernel⟩
set_option maxRecDepth 100000 in
set_option maxHeartbeats 4000000 in
theorem w_X9_spoil (X : Cx) {cI cE : ClassId} (h : Ok X cX9_spoil RX9 4 cI cE 4 0 0) (q0 : Nat) (q3 : Nat) (q4 : Nat) (q6 : Nat) (q7 : Nat) (q8 : Nat) (q9 : Nat) (q14 : Nat) (q15 : Nat) (q17 : Nat) (q18 : Nat) (q19 : Nat) (q23 : Nat) (q24 : Nat) (q25 : Nat) (ro : Nat) (co : Nat) (sl : Int32) (sn : Int32) (ts : Int32) (ra : Int32) (rr : Int32) (rw : Int32) (rn : Int32) (um : Int32) (bs : Int32) (bh : Int32) (km : Int32) (th : Nat → Int32) (mo : Nat → Int32) (ce : Nat → Int32) (se : Nat → Int32) (cth : Nat → Int32) (cow : Nat → Int32) (p0 : Int32) (p1 : Int32) (p2 : Int32) (hrc : ro * co ≤ 48) (hco : co ≤ 6) (hro : ro ≤ 8) (hrel : rel (ro * co) th mo cth cow) (hR : ∀ (r : Int32) (u : (Nat → Int32) × (Nat → Int32) × (Int32) × (Int32)), ((True)) → RetI X cX9_spoil 4 0 0 r [(q0, .inr (9, [.int (nI ro), .int (nI co), .int sl, .ref q3, .ref q4, .int sn, .ref q6, .ref q7, .ref q8, .ref q9, .int ts, .int ra, .int rr, .int rw, .ref q14, .ref q15, .int rn, .ref q17, .ref q18, .ref q19, .int um, .int u.2.2.1, .int u.2.2.2, .ref q23, .ref q24, .ref q25, .int km])), (q3, .inl (cI, 48, .inl th)), (q4, .inl (cI, 48, .inl mo)), (q17, .inl (cI, 8, .inl u.1)), (q18, .inl (cI, 8, .inl u.2.1))]) : J X 4 0 0 0 [(0, .ref q0), (1, .int p0), (2, .int p1), (3, .int p2)] [] [(q0, .inr (9, [.int (nI ro), .int (nI co), .int sl, .ref q3, .ref q4, .int sn, .ref q6, .ref q7, .ref q8, .ref q9, .int ts, .int ra, .int rr, .int rw, .ref q14, .ref q15, .int rn, .ref q17, .ref q18, .ref q19, .int um, .int bs, .int bh, .ref q23, .ref q24, .ref q25, .int km])), (q3, .inl (cI, 48, .inl th)), (q4, .inl (cI, 48, .inl mo)), (q17, .inl (cI, 8, .inl ce)), (q18, .inl (cI, 8, .inl se))] := by
  refine J_iload_n h (i := 1) dX9_spoil_0 rfl 1 rfl ?_
  refine K_si h (wr := [(q0, .inr (9, [.int (nI ro), .int (nI co), .int sl, .ref q3, .ref q4, .int sn, .ref q6, .ref q7, .ref q8, .ref q9, .int ts, .int ra, .int rr, .int rw, .ref q14, .ref q15, .int rn, .ref q17, .ref q18, .ref q19, .int um, .int bs, .int bh, .ref q23, .ref q24, .ref q25, .int km])), (q3, .inl (cI, 48, .inl th)), (q4, .inl (cI, 48, .inl mo)), (q17, .inl (cI, 8, .inl ce)), (q18, .inl (cI, 8, .inl se))]) (c_X9_isSide (xl X) (xD X) cI cE p0 ((p0).toInt) (by exact rfl)) yv_X9_isSide nm_X9_141 (by decide) (by decide) rfl rfl rfl (Nat.le_of_ble_eq_true rfl) (Nat.le_refl _) (Nat.le_refl _) dX9_spoil_1 (fun r_1 u_1 p_1 => ?_)
  rcases p_1 with p_1 | p_1
  · obtain ⟨rfl, f0_1, -⟩ := p_1
    show J X 4 0 0 4 [(0, .ref q0), (1, .int p0), (2, .int p1), (3, .int p2)] [.int (nI 1)] [(q0, .inr (9, [.int (nI ro), .int (nI co), .int sl, .ref q3, .ref q4, .int sn, .ref q6, .ref q7, .ref q8, .ref q9, .int ts, .int ra, .int rr, .int rw, .ref q14, .ref q15, .int rn, .ref q17, .ref q18, .ref q19, .int um, .int bs, .int bh, .ref q23, .ref q24, .ref q25, .int km])), (q3, .inl (cI, 48, .inl th)), (q4, .inl (cI, 48, .inl mo)), (q17, .inl (cI, 8, .inl ce)), (q18, .inl (cI, 8, .inl se))]
    refine J_if_eq h 28 dX9_spoil_4 (by decide) (fun z => absurd z (by decide)) (fun _ => ?_)
    refine J_iload_n h (i := 2) dX9_spoil_7 rfl 2 rfl ?_
    refine K_si h (wr := [(q0, .inr (9, [.int (nI ro), .int (nI co), .int sl, .ref q3, .ref q4, .int sn, .ref q6, .ref q7, .ref q8, .ref q9, .int ts, .int ra, .int rr, .int rw, .ref q14, .ref q15, .int rn, .ref q17, .ref q18, .ref q19, .int um, .int bs, .int bh, .ref q23, .ref q24, .ref q25, .int km])), (q3, .inl (cI, 48, .inl th)), (q4, .inl (cI, 48, .inl mo)), (q17, .inl (cI, 8, .inl ce)), (q18, .inl (cI, 8, .inl se))]) (c_X9_isSide (xl X) (xD X) cI cE p1 ((p1).toInt) (by exact rfl)) yv_X9_isSide nm_X9_141 (by decide) (by decide) rfl rfl rfl (Nat.le_of_ble_eq_true rfl) (Nat.le_refl _) (Nat.le_refl _) dX9_spoil_8 (fun r_8 u_8 p_8 => ?_)
    rcases p_8 with p_8 | p_8
    · obtain ⟨rfl, f0_8, -⟩ := p_8
      show J X 4 0 0 11 [(0, .ref q0), (1, .int p0), (2, .int p1), (3, .int p2)] [.int (nI 1)] [(q0, .inr (9, [.int (nI ro), .int (nI co), .int sl, .ref q3, .ref q4, .int sn, .ref q6, .ref q7, .ref q8, .ref q9, .int ts, .int ra, .int rr, .int rw, .ref q14, .ref q15, .int rn, .ref q17, .ref q18, .ref q19, .int um, .int bs, .int bh, .ref q23, .ref q24, .ref q25, .int km])), (q3, .inl (cI, 48, .inl th)), (q4, .inl (cI, 48, .inl mo)), (q17, .inl (cI, 8, .inl ce)), (q18, .inl (cI, 8, .inl se))]
      refine J_if_eq h 28 dX9_spoil_11 (by decide) (fun z => absurd z (by decide)) (fun _ => ?_)
      refine J_iload_n h (i := 1) dX9_spoil_14 rfl 1 rfl ?_
      refine J_iload_n h (i := 2) dX9_spoil_15 rfl 2 rfl ?_
      refine J_icmp_eq h 28 dX9_spoil_16 (by decide) (fun c_16 => ?_) (fun c_16 => ?_)
      · skip
        refine J_iconst h (v := (-1)) dX9_spoil_28 (by decide) ?_
        exact hR ((-1)) (ce, se, bs, bh) (by trivial) 29 _ dX9_spoil_29
      · skip
        refine J_iload_n h (i := 3) dX9_spoil_19 rfl 3 rfl ?_
        refine J_iconst h (v := nI 0) dX9_spoil_20 (by decide) ?_
        refine J_iconst h (v := nI 1) dX9_spoil_21 (by decide) ?_
        refine K_si h (wr := [(q0, .inr (9, [.int (nI ro), .int (nI co), .int sl, .ref q3, .ref q4, .int sn, .ref q6, .ref q7, .ref q8, .ref q9, .int ts, .int ra, .int rr, .int rw, .ref q14, .ref q15, .int rn, .ref q17, .ref q18, .ref q19, .int um, .int bs, .int bh, .ref q23, .ref q24, .ref q25, .int km])), (q3, .inl (cI, 48, .inl th)), (q4, .inl (cI, 48, .inl mo)), (q17, .inl (cI, 8, .inl ce)), (q18, .inl (cI, 8, .inl se))]) (c_X9_in (xl X) (xD X) cI cE p2 (nI 0) (nI 1) ((p2).toInt) 0 1 (by exact rfl) (by exact nI_toInt (by omega)) (by exact nI_toInt (by omega))) yv_X9_in nm_X9_67 (by decide) (by decide) rfl rfl rfl (Nat.le_of_ble_eq_true rfl) (Nat.le_refl _) (Nat.le_refl _) dX9_spoil_22 (fun r_22 u_22 p_22 => ?_)
        rcases p_22 with p_22 | p_22
        · obtain ⟨rfl, f0_22, -⟩ := p_22
          show J X 4 0 0 25 [(0, .ref q0), (1, .int p0), (2, .int p1), (3, .int p2)] [.int (nI 1)] [(q0, .inr (9, [.int (nI ro), .int (nI co), .int sl, .ref q3, .ref q4, .int sn, .ref q6, .ref q7, .ref q8, .ref q9, .int ts, .int ra, .int rr, .int rw, .ref q14, .ref q15, .int rn, .ref q17, .ref q18, .ref q19, .int um, .int bs, .int bh, .ref q23, .ref q24, .ref q25, .int km])), (q3, .inl (cI, 48, .inl th)), (q4, .inl (cI, 48, .inl mo)), (q17, .inl (cI, 8, .inl ce)), (q18, .inl (cI, 8, .inl se))]
          refine J_if_ne h 30 dX9_spoil_25 (by decide) (fun _ => ?_) (fun z => absurd z (by decide))
          refine J_aload_n h (i := 0) dX9_spoil_30 rfl 0 rfl ?_
          refine J_iload_n h (i := 1) dX9_spoil_31 rfl 1 rfl ?_
          refine J_iload_n h (i := 2) dX9_spoil_32 rfl 2 rfl ?_
          refine K_vv h (wr := []) (c_X9_setBest (xl X) (xD X) cI cE q0 q3 q4 q6 q7 q8 q9 q14 q15 q17 q18 q19 q23 q24 q25 ro co sl sn ts ra rr rw rn um bs bh km th mo ce se cth cow p0 p1 (by first | exact hrc |  assumption | omega | rfl) (by first | exact hco |  assumption | omega | rfl) (by first | exact hro |  assumption | omega | rfl) (by first | exact hrel |  assumption | omega | rfl) (by first | assumption | omega | rfl)) yv_X9_setBest nm_X9_179 (by decide) (by decide) rfl rfl 0 rfl rfl rfl rfl (Nat.le_of_ble_eq_true rfl) (Nat.le_refl _) (Nat.le_refl _) dX9_spoil_33 (fun u_33 p_33 => ?_)
          obtain ⟨ce2_33, se2_33, bs2_33, bh2_33⟩ := u_33
          try dsimp only at p_33
          show J X 4 0 0 36 [(0, .ref q0), (1, .int p0), (2, .int p1), (3, .int p2)] [] [(q0, .inr (9, [.int (nI ro), .int (nI co), .int sl, .ref q3, .ref q4, .int sn, .ref q6, .ref q7, .ref q8, .ref q9, .int ts, .int ra, .int rr, .int rw, .ref q14, .ref q15, .int rn, .ref q17, .ref q18, .ref q19, .int um, .int bs2_33, .int bh2_33, .ref q23, .ref q24, .ref q25, .int km])), (q3, .inl (cI, 48, .inl th)), (q4, .inl (cI, 48, .inl mo)), (q17, .inl (cI, 8, .inl ce2_33)), (q18, .inl (cI, 8, .inl se2_33))]
          refine J_iload_n h (i := 3) dX9_spoil_36 rfl 3 rfl ?_
          refine T_if_ne h (A := (p2).toInt) 47 dX9_spoil_37 (by decide) (rfl) (fun c_37 => ?_) (fun c_37 => ?_)
          · skip
            refine J_aload_n h (i := 0) dX9_spoil_47 rfl 0 rfl ?_
            refine J_get h inX9 rfl 0 22 (by decide) rfl rfl nf_X9_176 dX9_spoil_48 ?_
            exact hR bh2_33 (ce2_33, se2_33, bs2_33, bh2_33) (by trivial) 51 _ dX9_spoil_51
          · skip
            refine J_aload_n h (i := 0) dX9_spoil_40 rfl 0 rfl ?_
            refine J_get h inX9 rfl 0 21 (by decide) rfl rfl nf_X9_170 dX9_spoil_41 ?_
            refine J_goto h 51 dX9_spoil_44 (by decide) ?_
            exact hR bs2_33 (ce2_33, se2_33, bs2_33, bh2_33) (by trivial) 51 _ dX9_spoil_51
        · obtain ⟨rfl, f0_22, -⟩ := p_22
          show J X 4 0 0 25 [(0, .ref q0), (1, .int p0), (2, .int p1), (3, .int p2)] [.int (nI 0)] [(q0, .inr (9, [.int (nI ro), .int (nI co), .int sl, .ref q3, .ref q4, .int sn, .ref q6, .ref q7, .ref q8, .ref q9, .int ts, .int ra, .int rr, .int rw, .ref q14, .ref q15, .int rn, .ref q17, .ref q18, .ref q19, .int um, .int bs, .int bh, .ref q23, .ref q24, .ref q25, .int km])), (q3, .inl (cI, 48, .inl th)), (q4, .inl (cI, 48, .inl mo)), (q17, .inl (cI, 8, .inl ce)), (q18, .inl (cI, 8, .inl se))]
          refine J_if_ne h 30 dX9_spoil_25 (by decide) (fun z => absurd z (by decide)) (fun _ => ?_)
          refine J_iconst h (v := (-1)) dX9_spoil_28 (by decide) ?_
          exact hR ((-1)) (ce, se, bs, bh) (by trivial) 29 _ dX9_spoil_29
    · obtain ⟨rfl, f0_8, -⟩ := p_8
      show J X 4 0 0 11 [(0, .ref q0), (1, .int p0), (2, .int p1), (3, .int p2)] [.int (nI 0)] [(q0, .inr (9, [.int (nI ro), .int (nI co), .int sl, .ref q3, .ref q4, .int sn, .ref q6, .ref q7, .ref q8, .ref q9, .int ts, .int ra, .int rr, .int rw, .ref q14, .ref q15, .int rn, .ref q17, .ref q18, .ref q19, .int um, .int bs, .int bh, .ref q23, .ref q24, .ref q25, .int km])), (q3, .inl (cI, 48, .inl th)), (q4, .inl (cI, 48, .inl mo)), (q17, .inl (cI, 8, .inl ce)), (q18, .inl (cI, 8, .inl se))]
      refine J_if_eq h 28 dX9_spoil_11 (by decide) (fun _ => ?_) (fun z => absurd z (by decide))
      refine J_iconst h (v := (-1)) dX9_spoil_28 (by decide) ?_
      exact hR ((-1)) (ce, se, bs, bh) (by trivial) 29 _ dX9_spoil_29
  · obtain ⟨rfl, f0_1, -⟩ := p_1
    show J X 4 0 0 4 [(0, .ref q0), (1, .int p0), (2, .int p1), (3, .int p2)] [.int (nI 0)] [(q0, .inr (9, [.int (nI ro), .int (nI co), .int sl, .ref q3, .ref q4, .int sn, .ref q6, .ref q7, .ref q8, .ref q9, .int ts, .int ra, .int rr, .int rw, .ref q14, .ref q15, .int rn, .ref q17, .ref q18, .ref q19, .int um, .int bs, .int bh, .ref q23, .ref q24, .ref q25, .int km])), (q3, .inl (cI, 48, .inl th)), (q4, .inl (cI, 48, .inl mo)), (q17, .inl (cI, 8, .inl ce)), (q18, .inl (cI, 8, .inl se))]
    refine J_if_eq h 28 dX9_spoil_4 (by decide) (fun _ => ?_) (fun z => absurd z (by decide))
    refine J_iconst h (v := (-1)) dX9_spoil_28 (by decide) ?_
    exact hR ((-1)) (ce, se, bs, bh) (by trivial) 29 _ dX9_spoil_29
theorem c_X9_spoil (l : Launch) (D : va_G) (cI cE : ClassId) (q0 : Nat) (q3 : Nat) (q4 : Nat) (q6 : Nat) (q7 : Nat) (q8 : Nat) (q9 : Nat) (q14 : Nat) (q15 : Nat) (q17 : Nat) (q18 : Nat) (q19 : Nat) (q23 : Nat) (q24 : Nat) (q25 : Nat) (ro : Nat) (co : Nat) (sl : Int32) (sn : Int32) (ts : Int32) (ra : Int32) (rr : Int32) (rw : Int32) (rn : Int32) (um : Int32) (bs : Int32) (bh : Int32) (km : Int32) (th : Nat → Int32) (mo : Nat → Int32) (ce : Nat → Int32) (se : Nat → Int32) (cth : Nat → Int32) (cow : Nat → Int32) (p0 : Int32) (p1 : Int32) (p2 : Int32) (hrc : ro * co ≤ 48) (hco : co ≤ 6) (hro : ro ≤ 8) (hrel : rel (ro * co) th mo cth cow) : Ci l D cI cE yX9_spoil cX9_spoil 4 (some .int) 4 0 0 [.ref q0, .int p0, .int p1, .int p2] [(q0, .inr (9, [.int (nI ro), .int (nI co), .int sl, .ref q3, .ref q4, .int sn, .ref q6, .ref q7, .ref q8, .ref q9, .int ts, .int ra, .int rr, .int rw, .ref q14, .ref q15, .int rn, .ref q17, .ref q18, .ref q19, .int um, .int bs, .int bh, .ref q23, .ref q24, .ref q25, .int km])), (q3, .inl (cI, 48, .inl th)), (q4, .inl (cI, 48, .inl mo)), (q17, .inl (cI, 8, .inl ce)), (q18, .inl (cI, 8, .inl se))] (fun (r : Int32) (u : (Nat → Int32) × (Nat → Int32) × (Int32) × (Int32)) => ((True))) (fun (u : (Nat → Int32) × (Nat → Int32) × (Int32) × (Int32)) => ([(q0, .inr (9, [.int (nI ro), .int (nI co), .int sl, .ref q3, .ref q4, .int sn, .ref q6, .ref q7, .ref q8, .ref q9, .int ts, .int ra, .int rr, .int rw, .ref q14, .ref q15, .int rn, .ref q17, .ref q18, .ref q19, .int um, .int u.2.2.1, .int u.2.2.2, .ref q23, .ref q24, .ref q25, .int km])), (q3, .inl (cI, 48, .inl th)), (q4, .inl (cI, 48, .inl mo)), (q17, .inl (cI, 8, .inl u.1)), (q18, .inl (cI, 8, .inl u.2.1))] : va_W)) :=
  Ci.of (by decide) (Nat.le_of_ble_eq_true rfl) (fun _ _ _ => rfl) (fun X h hR => w_X9_spoil X h q0 q3 q4 q6 q7 q8 q9 q14 q15 q17 q18 q19 q23 q24 q25 ro co sl sn ts ra rr rw rn um bs bh km th mo ce se cth cow p0 p1 p2 hrc hco hro hrel hR)
theorem yv_X9_spoil : YV yX9_spoil cX9_spoil 4 (some .int) 3 := ⟨no_X9_spoil, nv_X9_spoil, ni_X9, nk_X9_spoil, by decide +kernel⟩
set_option maxRecDepth 100000 in
set_option maxHeartbeats 4000000 in
theorem w_X9_has (X : Cx) {cI cE : ClassId} (h : Ok X cX9_has RX9 2 cI cE 0 0 0) (p0 : Int32) (p1 : Int32)  (hR : ∀ (r : Int32) (u : Unit), ((nI 1 = r) ∧ ((p0 >>> (p1 &&& 31)) &&& nI 1 = nI 1) ∧ (True)) ∨ ((nI 0 = r) ∧ (¬ ((p0 >>> (p1 &&& 31)) &&& nI 1 = nI 1)) ∧ (True)) → RetI X cX9_has 2 0 0 r []) : J X 2 0 0 0 [(0, .int p0), (1, .int p1)] [] [] := by
  refine J_iload_n h (i := 0) dX9_has_0 rfl 0 rfl ?_
  refine J_iload_n h (i := 1) dX9_has_1 rfl 1 rfl ?_
  refine J_ishr h dX9_has_2 ?_
  refine J_iconst h (v := nI 1) dX9_has_3 (by decide) ?_
  refine J_iand h dX9_has_4 ?_
  refine J_iconst h (v := nI 1) dX9_has_5 (by decide) ?_
  refine J_icmp_ne h 13 dX9_has_6 (by decide) (fun c_6 => ?_) (fun c_6 => ?_)
  · skip
    refine J_iconst h (v := nI 0) dX9_has_13 (by decide) ?_
    exact hR (nI 0) () (Or.inr (⟨rfl, (by first | assumption | omega | rfl), trivial⟩)) 14 _ dX9_has_14
  · skip
    refine J_iconst h (v := nI 1) dX9_has_9 (by decide) ?_
    refine J_goto h 14 dX9_has_10 (by decide) ?_
    exact hR (nI 1) () (Or.inl ⟨rfl, (by first | assumption | omega | rfl), trivial⟩) 14 _ dX9_has_14
theorem c_X9_has (l : Launch) (D : va_G) (cI cE : ClassId) (p0 : Int32) (p1 : Int32)  : Ci l D cI cE yX9_has cX9_has 2 (some .boolean) 0 0 0 [.int p0, .int p1] [] (fun (r : Int32) (u : Unit) => ((nI 1 = r) ∧ ((p0 >>> (p1 &&& 31)) &&& nI 1 = nI 1) ∧ (True)) ∨ ((nI 0 = r) ∧ (¬ ((p0 >>> (p1 &&& 31)) &&& nI 1 = nI 1)) ∧ (True))) (fun (u : Unit) => ([] : va_W)) :=
  Ci.of (by decide) (Nat.le_of_ble_eq_true rfl) (fun r u hp => by rcases hp with ⟨hp, _⟩ | ⟨hp, _⟩ <;> (rw [← hp]; rfl)) (fun X h hR => w_X9_has X h p0 p1 hR)
theorem yv_X9_has : YS yX9_has cX9_has 2 (some .boolean) 2 := ⟨ns_X9_has, ni_X9, nk_X9_has, by decide +kernel⟩
set_option maxRecDepth 100000 in
set_option maxHeartbeats 4000000 in
theorem w_X9_isBeside (X : Cx) {cI cE : ClassId} (h : Ok X cX9_isBeside RX9 4 cI cE 0 0 0) (q0 : Nat) (q3 : Nat) (q4 : Nat) (q6 : Nat) (q7 : Nat) (q8 : Nat) (q9 : Nat) (q14 : Nat) (q15 : Nat) (q17 : Nat) (q18 : Nat) (q19 : Nat) (q23 : Nat) (q24 : Nat) (q25 : Nat) (ro : Nat) (co : Nat) (sl : Int32) (sn : Int32) (ts : Int32) (ra : Int32) (rr : Int32) (rw : Int32) (rn : Int32) (um : Int32) (bs : Int32) (bh : Int32) (km : Int32) (p0 : Nat) (p1 : Nat) (hco : co ≤ 6) (hp0 : p0 < 48) (hp1 : p1 < 48) (hc0 : 0 < co) (hR : ∀ (r : Int32) (u : Unit), ((nI 1 = r) ∧ (p1 = p0 + co ∨ p0 = p1 + co ∨ (p0 / co = p1 / co ∧ (p1 = p0 + 1 ∨ p0 = p1 + 1))) ∧ (True)) ∨ ((nI 0 = r) ∧ (¬ (p1 = p0 + co ∨ p0 = p1 + co ∨ (p0 / co = p1 / co ∧ (p1 = p0 + 1 ∨ p0 = p1 + 1)))) ∧ (True)) → RetI X cX9_isBeside 4 0 0 r [(q0, .inr (9, [.int (nI ro), .int (nI co), .int sl, .ref q3, .ref q4, .int sn, .ref q6, .ref q7, .ref q8, .ref q9, .int ts, .int ra, .int rr, .int rw, .ref q14, .ref q15, .int rn, .ref q17, .ref q18, .ref q19, .int um, .int bs, .int bh, .ref q23, .ref q24, .ref q25, .int km]))]) : J X 4 0 0 0 [(0, .ref q0), (1, .int (nI p0)), (2, .int (nI p1))] [] [(q0, .inr (9, [.int (nI ro), .int (nI co), .int sl, .ref q3, .ref q4, .int sn, .ref q6, .ref q7, .ref q8, .ref q9, .int ts, .int ra, .int rr, .int rw, .ref q14, .ref q15, .int rn, .ref q17, .ref q18, .ref q19, .int um, .int bs, .int bh, .ref q23, .ref q24, .ref q25, .int km]))] := by
  have hqa := Nat.div_le_self p0 co
  have hqb := Nat.div_le_self p1 co
  refine J_iload_n h (i := 2) dX9_isBeside_0 rfl 2 rfl ?_
  refine J_iload_n h (i := 1) dX9_isBeside_1 rfl 1 rfl ?_
  refine J_isub h dX9_isBeside_2 ?_
  refine J_istore_n h (i := 3) (lv' := [(3, .int ((nI p1) - (nI p0))), (0, .ref q0), (1, .int (nI p0)), (2, .int (nI p1))]) dX9_isBeside_3 rfl (by decide) rfl ?_
  refine J_iload_n h (i := 3) dX9_isBeside_4 rfl 0 rfl ?_
  refine J_aload_n h (i := 0) dX9_isBeside_5 rfl 1 rfl ?_
  refine J_get h inX9 rfl 0 1 (by decide) rfl rfl nf_X9_52 dX9_isBeside_6 ?_
  refine T_icmp_eq h (A := ((p1 : Nat) : Int) - ((p0 : Nat) : Int)) (B := ((co : Nat) : Int)) 46 dX9_isBeside_9 (by decide) (pk_sub_toInt (by omega) (by omega)) (nI_toInt (by omega)) (fun c_9 => ?_) (fun c_9 => ?_)
  · skip
    refine J_iconst h (v := nI 1) dX9_isBeside_46 (by decide) ?_
    refine J_goto h 51 dX9_isBeside_47 (by decide) ?_
    exact hR (nI 1) () (by first | exact Or.inl ⟨rfl, by omega, trivial⟩ | exact Or.inr ⟨rfl, by omega, trivial⟩) 51 _ dX9_isBeside_51
  · skip
    refine J_iload_n h (i := 3) dX9_isBeside_12 rfl 0 rfl ?_
    refine J_aload_n h (i := 0) dX9_isBeside_13 rfl 1 rfl ?_
    refine J_get h inX9 rfl 0 1 (by decide) rfl rfl nf_X9_52 dX9_isBeside_14 ?_
    refine J_ineg h dX9_isBeside_17 ?_
    refine T_icmp_eq h (A := ((p1 : Nat) : Int) - ((p0 : Nat) : Int)) (B := -((co : Nat) : Int)) 46 dX9_isBeside_18 (by decide) (pk_sub_toInt (by omega) (by omega)) (neg_toI (by omega)) (fun c_18 => ?_) (fun c_18 => ?_)
    · skip
      refine J_iconst h (v := nI 1) dX9_isBeside_46 (by decide) ?_
      refine J_goto h 51 dX9_isBeside_47 (by decide) ?_
      exact hR (nI 1) () (by first | exact Or.inl ⟨rfl, by omega, trivial⟩ | exact Or.inr ⟨rfl, by omega, trivial⟩) 51 _ dX9_isBeside_51
    · skip
      refine J_iload_n h (i := 1) dX9_isBeside_21 rfl 2 rfl ?_
      refine J_aload_n h (i := 0) dX9_isBeside_22 rfl 1 rfl ?_
      refine J_get h inX9 rfl 0 1 (by decide) rfl rfl nf_X9_52 dX9_isBeside_23 ?_
      refine N_idiv h (by omega) (by omega) (by omega) dX9_isBeside_26 ?_
      refine J_iload_n h (i := 2) dX9_isBeside_27 rfl 3 rfl ?_
      refine J_aload_n h (i := 0) dX9_isBeside_28 rfl 1 rfl ?_
      refine J_get h inX9 rfl 0 1 (by decide) rfl rfl nf_X9_52 dX9_isBeside_29 ?_
      refine N_idiv h (by omega) (by omega) (by omega) dX9_isBeside_32 ?_
      refine N_icmp_ne h 50 dX9_isBeside_33 (by decide) (by omega) (by omega) (fun c_33 => ?_) (fun c_33 => ?_)
      · skip
        refine J_iconst h (v := nI 0) dX9_isBeside_50 (by decide) ?_
        exact hR (nI 0) () (by first | exact Or.inl ⟨rfl, by omega, trivial⟩ | exact Or.inr ⟨rfl, by omega, trivial⟩) 51 _ dX9_isBeside_51
      · skip
        refine J_iload_n h (i := 3) dX9_isBeside_36 rfl 0 rfl ?_
        refine J_iconst h (v := nI 1) dX9_isBeside_37 (by decide) ?_
        refine T_icmp_eq h (A := ((p1 : Nat) : Int) - ((p0 : Nat) : Int)) (B := 1) 46 dX9_isBeside_38 (by decide) (pk_sub_toInt (by omega) (by omega)) (nI_toInt (by omega)) (fun c_38 => ?_) (fun c_38 => ?_)
        · skip
          refine J_iconst h (v := nI 1) dX9_isBeside_46 (by decide) ?_
          refine J_goto h 51 dX9_isBeside_47 (by decide) ?_
          exact hR (nI 1) () (by first | exact Or.inl ⟨rfl, by omega, trivial⟩ | exact Or.inr ⟨rfl, by omega, trivial⟩) 51 _ dX9_isBeside_51
        · skip
          refine J_iload_n h (i := 3) dX9_isBeside_41 rfl 0 rfl ?_
          refine J_iconst h (v := (-1)) dX9_isBeside_42 (by decide) ?_
          refine T_icmp_ne h (A := ((p1 : Nat) : Int) - ((p0 : Nat) : Int)) (B := (-1)) 50 dX9_isBeside_43 (by decide) (pk_sub_toInt (by omega) (by omega)) (by decide) (fun c_43 => ?_) (fun c_43 => ?_)
          · skip
            refine J_iconst h (v := nI 0) dX9_isBeside_50 (by decide) ?_
            exact hR (nI 0) () (by first | exact Or.inl ⟨rfl, by omega, trivial⟩ | exact Or.inr ⟨rfl, by omega, trivial⟩) 51 _ dX9_isBeside_51
          · skip
            refine J_iconst h (v := nI 1) dX9_isBeside_46 (by decide) ?_
            refine J_goto h 51 dX9_isBeside_47 (by decide) ?_
            exact hR (nI 1) () (by first | exact Or.inl ⟨rfl, by omega, trivial⟩ | exact Or.inr ⟨rfl, by omega, trivial⟩) 51 _ dX9_isBeside_51
theorem c_X9_isBeside (l : Launch) (D : va_G) (cI cE : ClassId) (q0 : Nat) (q3 : Nat) (q4 : Nat) (q6 : Nat) (q7 : Nat) (q8 : Nat) (q9 : Nat) (q14 : Nat) (q15 : Nat) (q17 : Nat) (q18 : Nat) (q19 : Nat) (q23 : Nat) (q24 : Nat) (q25 : Nat) (ro : Nat) (co : Nat) (sl : Int32) (sn : Int32) (ts : Int32) (ra : Int32) (rr : Int32) (rw : Int32) (rn : Int32) (um : Int32) (bs : Int32) (bh : Int32) (km : Int32) (p0 : Nat) (p1 : Nat) (hco : co ≤ 6) (hp0 : p0 < 48) (hp1 : p1 < 48) (hc0 : 0 < co) : Ci l D cI cE yX9_isBeside cX9_isBeside 4 (some .boolean) 0 0 0 [.ref q0, .int (nI p0), .int (nI p1)] [(q0, .inr (9, [.int (nI ro), .int (nI co), .int sl, .ref q3, .ref q4, .int sn, .ref q6, .ref q7, .ref q8, .ref q9, .int ts, .int ra, .int rr, .int rw, .ref q14, .ref q15, .int rn, .ref q17, .ref q18, .ref q19, .int um, .int bs, .int bh, .ref q23, .ref q24, .ref q25, .int km]))] (fun (r : Int32) (u : Unit) => ((nI 1 = r) ∧ (p1 = p0 + co ∨ p0 = p1 + co ∨ (p0 / co = p1 / co ∧ (p1 = p0 + 1 ∨ p0 = p1 + 1))) ∧ (True)) ∨ ((nI 0 = r) ∧ (¬ (p1 = p0 + co ∨ p0 = p1 + co ∨ (p0 / co = p1 / co ∧ (p1 = p0 + 1 ∨ p0 = p1 + 1)))) ∧ (True))) (fun (u : Unit) => ([(q0, .inr (9, [.int (nI ro), .int (nI co), .int sl, .ref q3, .ref q4, .int sn, .ref q6, .ref q7, .ref q8, .ref q9, .int ts, .int ra, .int rr, .int rw, .ref q14, .ref q15, .int rn, .ref q17, .ref q18, .ref q19, .int um, .int bs, .int bh, .ref q23, .ref q24, .ref q25, .int km]))] : va_W)) :=
  Ci.of (by decide) (Nat.le_of_ble_eq_true rfl) (fun r u hp => by rcases hp with ⟨hp, _⟩ | ⟨hp, _⟩ <;> (rw [← hp]; rfl)) (fun X h hR => w_X9_isBeside X h q0 q3 q4 q6 q7 q8 q9 q14 q15 q17 q18 q19 q23 q24 q25 ro co sl sn ts ra rr rw rn um bs bh km p0 p1 hco hp0 hp1 hc0 hR)
theorem yv_X9_isBeside : YV yX9_isBeside cX9_isBeside 4 (some .boolean) 2 := ⟨no_X9_isBeside, nv_X9_isBeside, ni_X9, nk_X9_isBeside, by decide +kernel⟩
set_option maxRecDepth 100000 in
set_option maxHeartbeats 4000000 in
theorem w_X9_pieces_144 (X : Cx) {cI cE : ClassId} (h : Ok X cX9_pieces RX9 5 cI cE 2 0 0) (q0 : Nat) (q3 : Nat) (q4 : Nat) (q6 : Nat) (q7 : Nat) (q8 : Nat) (q9 : Nat) (q14 : Nat) (q15 : Nat) (q17 : Nat) (q18 : Nat) (q19 : Nat) (q23 : Nat) (q24 : Nat) (q25 : Nat) (ro : Nat) (co : Nat) (sl : Int32) (sn : Int32) (ts : Int32) (ra : Int32) (rr : Int32) (rw : Int32) (rn : Int32) (um : Int32) (bs : Int32) (bh : Int32) (km : Int32) (mo : Nat → Int32) (mk : Nat → Int32) (p0 : Int32) (hrc : ro * co ≤ 48) (hco : co ≤ 6) (hro : ro ≤ 8) (hc0 : 0 < co) (hR : ∀ (r : Int32) (u : (Nat → Int32)), ((True)) → RetI X cX9_pieces 5 0 0 r [(q0, .inr (9, [.int (nI ro), .int (nI co), .int sl, .ref q3, .ref q4, .int sn, .ref q6, .ref q7, .ref q8, .ref q9, .int ts, .int ra, .int rr, .int rw, .ref q14, .ref q15, .int rn, .ref q17, .ref q18, .ref q19, .int um, .int bs, .int bh, .ref q23, .ref q24, .ref q25, .int km])), (q4, .inl (cI, 48, .inl mo)), (q23, .inl (cI, 48, .inl u))]) : ∀ (n_144 : Nat) (i : Nat) (n : Nat) (m : Nat → Nat), (i ≤ ro * co) → (n ≤ i) → (∀ j, j < ro * co → m j ≤ 1048576) → ro * co - i < n_144 → J X 5 0 0 144 [(0, .ref q0), (1, .int p0), (3, .int (nI n)), (4, .int (nI i))] [] [(q0, .inr (9, [.int (nI ro), .int (nI co), .int sl, .ref q3, .ref q4, .int sn, .ref q6, .ref q7, .ref q8, .ref q9, .int ts, .int ra, .int rr, .int rw, .ref q14, .ref q15, .int rn, .ref q17, .ref q18, .ref q19, .int um, .int bs, .int bh, .ref q23, .ref q24, .ref q25, .int km])), (q4, .inl (cI, 48, .inl mo)), (q23, .inl (cI, 48, .inl (mrk mk (ro * co) m)))] := by
  intro n_144
  induction n_144 with
  | zero => intro i n m hi hn hmb hn_; exact absurd hn_ (Nat.not_lt_zero _)
  | succ n_144 ih_144 =>
    intro i n m hi hn hmb hn_144
    refine J_iload h dX9_pieces_144 3 rfl ?_
    refine J_aload_n h (i := 0) dX9_pieces_146 rfl 0 rfl ?_
    refine K_vi h (wr := [(q4, .inl (cI, 48, .inl mo)), (q23, .inl (cI, 48, .inl (mrk mk (ro * co) m)))]) (c_X9_cells (xl X) (xD X) cI cE q0 q3 q4 q6 q7 q8 q9 q14 q15 q17 q18 q19 q23 q24 q25 ro co sl sn ts ra rr rw rn um bs bh km ) yv_X9_cells nm_X9_63 (by decide) (by decide) rfl rfl 0 rfl rfl rfl rfl (Nat.le_of_ble_eq_true rfl) (Nat.le_refl _) (Nat.le_refl _) dX9_pieces_147 (fun r_147 u_147 p_147 => ?_)
    obtain ⟨rfl, -⟩ := p_147
    show J X 5 0 0 150 [(0, .ref q0), (1, .int p0), (3, .int (nI n)), (4, .int (nI i))] [.int (nI (ro * co)), .int (nI i)] [(q0, .inr (9, [.int (nI ro), .int (nI co), .int sl, .ref q3, .ref q4, .int sn, .ref q6, .ref q7, .ref q8, .ref q9, .int ts, .int ra, .int rr, .int rw, .ref q14, .ref q15, .int rn, .ref q17, .ref q18, .ref q19, .int um, .int bs, .int bh, .ref q23, .ref q24, .ref q25, .int km])), (q4, .inl (cI, 48, .inl mo)), (q23, .inl (cI, 48, .inl (mrk mk (ro * co) m)))]
    refine N_icmp_ge h 190 dX9_pieces_150 (by decide) (by omega) (by omega) (fun c_150 => ?_) (fun c_150 => ?_)
    · skip
      refine J_iload_n h (i := 3) dX9_pieces_190 rfl 2 rfl ?_
      exact hR (nI n) (mrk mk (ro * co) m) (by trivial) 191 _ dX9_pieces_191
    · skip
      refine J_iload_n h (i := 3) dX9_pieces_153 rfl 2 rfl ?_
      refine J_aload_n h (i := 0) dX9_pieces_154 rfl 0 rfl ?_
      refine J_get h inX9 rfl 0 4 (by decide) rfl rfl nf_X9_13 dX9_pieces_155 ?_
      refine J_iload h dX9_pieces_158 3 rfl ?_
      refine N_iald h 1 rfl (by decide) (by omega) dX9_pieces_160 ?_
      refine J_iload_n h (i := 1) dX9_pieces_161 rfl 1 rfl ?_
      refine J_icmp_ne h 181 dX9_pieces_162 (by decide) (fun c_162 => ?_) (fun c_162 => ?_)
      · skip
        refine J_iconst h (v := nI 0) dX9_pieces_181 (by decide) ?_
        refine N_iadd h dX9_pieces_182 ?_
        refine J_istore_n h (i := 3) (lv' := [(3, .int (nI (n + 0))), (0, .ref q0), (1, .int p0), (4, .int (nI i))]) dX9_pieces_183 rfl (by decide) rfl ?_
        refine J_iinc h (v := nI (i + 1)) (lv' := [(4, .int (nI (i + 1))), (3, .int (nI (n + 0))), (0, .ref q0), (1, .int p0)]) dX9_pieces_184 3 rfl (inc_ok _ 1) (by decide) rfl ?_
        refine J_goto h 144 dX9_pieces_187 (by decide) ?_
        refine J.loc [2, 3, 1, 0] (lv' := [(0, .ref q0), (1, .int p0), (3, .int (nI (n + 0))), (4, .int (nI (i + 1)))]) rfl ?_
        exact ih_144 (i + 1) (n + 0) _ (by first | exact hi |  assumption | omega | rfl) (by first | exact hn |  assumption | omega | rfl) (by first | exact hmb |  assumption | omega | rfl) (by omega)
      · skip
        refine J_aload_n h (i := 0) dX9_pieces_165 rfl 0 rfl ?_
        refine J_get h inX9 rfl 0 23 (by decide) rfl rfl nf_X9_43 dX9_pieces_166 ?_
        refine J_iload h dX9_pieces_169 3 rfl ?_
        refine N_iald h 2 rfl (by decide) (by omega) dX9_pieces_171 ?_
        have hmi := hmb i (by omega)
        refine J_eqs (st' := [.int (nI (m i)), .int (nI n)]) (by rw [mrk_at (by omega)]) ?_
        refine J_iload h dX9_pieces_172 3 rfl ?_
        refine N_icmp_ne h 181 dX9_pieces_174 (by decide) (by omega) (by omega) (fun c_174 => ?_) (fun c_174 => ?_)
        · skip
          refine J_iconst h (v := nI 0) dX9_pieces_181 (by decide) ?_
          refine N_iadd h dX9_pieces_182 ?_
          refine J_istore_n h (i := 3) (lv' := [(3, .int (nI (n + 0))), (0, .ref q0), (1, .int p0), (4, .int (nI i))]) dX9_pieces_183 rfl (by decide) rfl ?_
          refine J_iinc h (v := nI (i + 1)) (lv' := [(4, .int (nI (i + 1))), (3, .int (nI (n + 0))), (0, .ref q0), (1, .int p0)]) dX9_pieces_184 3 rfl (inc_ok _ 1) (by decide) rfl ?_
          refine J_goto h 144 dX9_pieces_187 (by decide) ?_
          refine J.loc [2, 3, 1, 0] (lv' := [(0, .ref q0), (1, .int p0), (3, .int (nI (n + 0))), (4, .int (nI (i + 1)))]) rfl ?_
          exact ih_144 (i + 1) (n + 0) _ (by first | exact hi |  assumption | omega | rfl) (by first | exact hn |  assumption | omega | rfl) (by first | exact hmb |  assumption | omega | rfl) (by omega)
        · skip
          refine J_iconst h (v := nI 1) dX9_pieces_177 (by decide) ?_
          refine J_goto h 182 dX9_pieces_178 (by decide) ?_
          refine N_iadd h dX9_pieces_182 ?_
          refine J_istore_n h (i := 3) (lv' := [(3, .int (nI (n + 1))), (0, .ref q0), (1, .int p0), (4, .int (nI i))]) dX9_pieces_183 rfl (by decide) rfl ?_
          refine J_iinc h (v := nI (i + 1)) (lv' := [(4, .int (nI (i + 1))), (3, .int (nI (n + 1))), (0, .ref q0), (1, .int p0)]) dX9_pieces_184 3 rfl (inc_ok _ 1) (by decide) rfl ?_
          refine J_goto h 144 dX9_pieces_187 (by decide) ?_
          refine J.loc [2, 3, 1, 0] (lv' := [(0, .ref q0), (1, .int p0), (3, .int (nI (n + 1))), (4, .int (nI (i + 1)))]) rfl ?_
          exact ih_144 (i + 1) (n + 1) _ (by first | exact hi |  assumption | omega | rfl) (by first | exact hn |  assumption | omega | rfl) (by first | exact hmb |  assumption | omega | rfl) (by omega)
set_option maxRecDepth 100000 in
set_option maxHeartbeats 4000000 in
theorem w_X9_pieces_53 (X : Cx) {cI cE : ClassId} (h : Ok X cX9_pieces RX9 5 cI cE 2 0 0) (q0 : Nat) (q3 : Nat) (q4 : Nat) (q6 : Nat) (q7 : Nat) (q8 : Nat) (q9 : Nat) (q14 : Nat) (q15 : Nat) (q17 : Nat) (q18 : Nat) (q19 : Nat) (q23 : Nat) (q24 : Nat) (q25 : Nat) (ro : Nat) (co : Nat) (sl : Int32) (sn : Int32) (ts : Int32) (ra : Int32) (rr : Int32) (rw : Int32) (rn : Int32) (um : Int32) (bs : Int32) (bh : Int32) (km : Int32) (mo : Nat → Int32) (mk : Nat → Int32) (p0 : Int32) (hrc : ro * co ≤ 48) (hco : co ≤ 6) (hro : ro ≤ 8) (hc0 : 0 < co) (hR : ∀ (r : Int32) (u : (Nat → Int32)), ((True)) → RetI X cX9_pieces 5 0 0 r [(q0, .inr (9, [.int (nI ro), .int (nI co), .int sl, .ref q3, .ref q4, .int sn, .ref q6, .ref q7, .ref q8, .ref q9, .int ts, .int ra, .int rr, .int rw, .ref q14, .ref q15, .int rn, .ref q17, .ref q18, .ref q19, .int um, .int bs, .int bh, .ref q23, .ref q24, .ref q25, .int km])), (q4, .inl (cI, 48, .inl mo)), (q23, .inl (cI, 48, .inl u))]) (n_34 : Nat) (ih_34 : ∀ (fl : Nat) (m : Nat → Nat), (fl ≤ 1) → (∀ j, j < ro * co → m j ≤ 1048576) → 2 * sumP m (ro * co) + fl < n_34 → J X 5 0 0 34 [(0, .ref q0), (1, .int p0), (2, .int (nI fl))] [] [(q0, .inr (9, [.int (nI ro), .int (nI co), .int sl, .ref q3, .ref q4, .int sn, .ref q6, .ref q7, .ref q8, .ref q9, .int ts, .int ra, .int rr, .int rw, .ref q14, .ref q15, .int rn, .ref q17, .ref q18, .ref q19, .int um, .int bs, .int bh, .ref q23, .ref q24, .ref q25, .int km])), (q4, .inl (cI, 48, .inl mo)), (q23, .inl (cI, 48, .inl (mrk mk (ro * co) m)))]) (n_42 : Nat) (ih_42 : ∀ (a : Nat) (fl : Nat) (m : Nat → Nat) (s0 : Nat), (a ≤ ro * co) → (∀ j, j < ro * co → m j ≤ 1048576) → ((fl = 0 ∧ sumP m (ro * co) ≤ s0) ∨ (fl = 1 ∧ sumP m (ro * co) < s0)) → (2 * s0 + 1 < n_34 + 1) → ro * co - a < n_42 → J X 5 0 0 42 [(0, .ref q0), (1, .int p0), (2, .int (nI fl)), (3, .int (nI a))] [] [(q0, .inr (9, [.int (nI ro), .int (nI co), .int sl, .ref q3, .ref q4, .int sn, .ref q6, .ref q7, .ref q8, .ref q9, .int ts, .int ra, .int rr, .int rw, .ref q14, .ref q15, .int rn, .ref q17, .ref q18, .ref q19, .int um, .int bs, .int bh, .ref q23, .ref q24, .ref q25, .int km])), (q4, .inl (cI, 48, .inl mo)), (q23, .inl (cI, 48, .inl (mrk mk (ro * co) m)))]) : ∀ (n_53 : Nat) (a : Nat) (b : Nat) (fl : Nat) (m : Nat → Nat) (s0 : Nat), (a < ro * co) → (b ≤ ro * co) → (∀ j, j < ro * co → m j ≤ 1048576) → ((fl = 0 ∧ sumP m (ro * co) ≤ s0) ∨ (fl = 1 ∧ sumP m (ro * co) < s0)) → (2 * s0 + 1 < n_34 + 1) → (ro * co - a < n_42 + 1) → ro * co - b < n_53 → J X 5 0 0 53 [(0, .ref q0), (1, .int p0), (2, .int (nI fl)), (3, .int (nI a)), (4, .int (nI b))] [] [(q0, .inr (9, [.int (nI ro), .int (nI co), .int sl, .ref q3, .ref q4, .int sn, .ref q6, .ref q7, .ref q8, .ref q9, .int ts, .int ra, .int rr, .int rw, .ref q14, .ref q15, .int rn, .ref q17, .ref q18, .ref q19, .int um, .int bs, .int bh, .ref q23, .ref q24, .ref q25, .int km])), (q4, .inl (cI, 48, .inl mo)), (q23, .inl (cI, 48, .inl (mrk mk (ro * co) m)))] := by
  intro n_53
  induction n_53 with
  | zero => intro a b fl m s0 ha hb hmb hsm h0 h42 hn_; exact absurd hn_ (Nat.not_lt_zero _)
  | succ n_53 ih_53 =>
    intro a b fl m s0 ha hb hmb hsm h0 h42 hn_53
    refine J_iload h dX9_pieces_53 4 rfl ?_
    refine J_aload_n h (i := 0) dX9_pieces_55 rfl 0 rfl ?_
    refine K_vi h (wr := [(q4, .inl (cI, 48, .inl mo)), (q23, .inl (cI, 48, .inl (mrk mk (ro * co) m)))]) (c_X9_cells (xl X) (xD X) cI cE q0 q3 q4 q6 q7 q8 q9 q14 q15 q17 q18 q19 q23 q24 q25 ro co sl sn ts ra rr rw rn um bs bh km ) yv_X9_cells nm_X9_63 (by decide) (by decide) rfl rfl 0 rfl rfl rfl rfl (Nat.le_of_ble_eq_true rfl) (Nat.le_refl _) (Nat.le_refl _) dX9_pieces_56 (fun r_56 u_56 p_56 => ?_)
    obtain ⟨rfl, -⟩ := p_56
    show J X 5 0 0 59 [(0, .ref q0), (1, .int p0), (2, .int (nI fl)), (3, .int (nI a)), (4, .int (nI b))] [.int (nI (ro * co)), .int (nI b)] [(q0, .inr (9, [.int (nI ro), .int (nI co), .int sl, .ref q3, .ref q4, .int sn, .ref q6, .ref q7, .ref q8, .ref q9, .int ts, .int ra, .int rr, .int rw, .ref q14, .ref q15, .int rn, .ref q17, .ref q18, .ref q19, .int um, .int bs, .int bh, .ref q23, .ref q24, .ref q25, .int km])), (q4, .inl (cI, 48, .inl mo)), (q23, .inl (cI, 48, .inl (mrk mk (ro * co) m)))]
    refine N_icmp_ge h 130 dX9_pieces_59 (by decide) (by omega) (by omega) (fun c_59 => ?_) (fun c_59 => ?_)
    · skip
      refine J_iinc h (v := nI (a + 1)) (lv' := [(3, .int (nI (a + 1))), (0, .ref q0), (1, .int p0), (2, .int (nI fl)), (4, .int (nI b))]) dX9_pieces_130 3 rfl (inc_ok _ 1) (by decide) rfl ?_
      refine J_goto h 42 dX9_pieces_133 (by decide) ?_
      refine J.loc [1, 2, 3, 0] (lv' := [(0, .ref q0), (1, .int p0), (2, .int (nI fl)), (3, .int (nI (a + 1)))]) rfl ?_
      exact ih_42 (a + 1) fl _ s0 (by first | exact ha |  assumption | omega | rfl) (by first | exact hmb |  assumption | omega | rfl) (by first | exact hsm |  assumption | omega | rfl) (by first | exact h0 |  assumption | omega | rfl) (by omega)
    · skip
      have hma := hmb a (by omega)
      have hmb1 := hmb b (by omega)
      refine J_aload_n h (i := 0) dX9_pieces_62 rfl 0 rfl ?_
      refine J_iload_n h (i := 3) dX9_pieces_63 rfl 3 rfl ?_
      refine J_iload h dX9_pieces_64 4 rfl ?_
      refine K_vi h (wr := [(q4, .inl (cI, 48, .inl mo)), (q23, .inl (cI, 48, .inl (mrk mk (ro * co) m)))]) (c_X9_isBeside (xl X) (xD X) cI cE q0 q3 q4 q6 q7 q8 q9 q14 q15 q17 q18 q19 q23 q24 q25 ro co sl sn ts ra rr rw rn um bs bh km a b (by first | exact hco |  assumption | omega | rfl) (by first | assumption | omega | rfl) (by first | assumption | omega | rfl) (by first | exact hc0 |  assumption | omega | rfl)) yv_X9_isBeside nm_X9_183 (by decide) (by decide) rfl rfl 0 rfl rfl rfl rfl (Nat.le_of_ble_eq_true rfl) (Nat.le_refl _) (Nat.le_refl _) dX9_pieces_66 (fun r_66 u_66 p_66 => ?_)
      rcases p_66 with p_66 | p_66
      · obtain ⟨rfl, f0_66, -⟩ := p_66
        show J X 5 0 0 69 [(0, .ref q0), (1, .int p0), (2, .int (nI fl)), (3, .int (nI a)), (4, .int (nI b))] [.int (nI 1)] [(q0, .inr (9, [.int (nI ro), .int (nI co), .int sl, .ref q3, .ref q4, .int sn, .ref q6, .ref q7, .ref q8, .ref q9, .int ts, .int ra, .int rr, .int rw, .ref q14, .ref q15, .int rn, .ref q17, .ref q18, .ref q19, .int um, .int bs, .int bh, .ref q23, .ref q24, .ref q25, .int km])), (q4, .inl (cI, 48, .inl mo)), (q23, .inl (cI, 48, .inl (mrk mk (ro * co) m)))]
        refine J_if_eq h 124 dX9_pieces_69 (by decide) (fun z => absurd z (by decide)) (fun _ => ?_)
        refine J_aload_n h (i := 0) dX9_pieces_72 rfl 0 rfl ?_
        refine J_get h inX9 rfl 0 4 (by decide) rfl rfl nf_X9_13 dX9_pieces_73 ?_
        refine J_iload_n h (i := 3) dX9_pieces_76 rfl 3 rfl ?_
        refine N_iald h 1 rfl (by decide) (by omega) dX9_pieces_77 ?_
        refine J_iload_n h (i := 1) dX9_pieces_78 rfl 1 rfl ?_
        refine J_icmp_ne h 124 dX9_pieces_79 (by decide) (fun c_79 => ?_) (fun c_79 => ?_)
        · skip
          refine J_iinc h (v := nI (b + 1)) (lv' := [(4, .int (nI (b + 1))), (0, .ref q0), (1, .int p0), (2, .int (nI fl)), (3, .int (nI a))]) dX9_pieces_124 4 rfl (inc_ok _ 1) (by decide) rfl ?_
          refine J_goto h 53 dX9_pieces_127 (by decide) ?_
          refine J.loc [1, 2, 3, 4, 0] (lv' := [(0, .ref q0), (1, .int p0), (2, .int (nI fl)), (3, .int (nI a)), (4, .int (nI (b + 1)))]) rfl ?_
          exact ih_53 a (b + 1) fl _ s0 (by first | exact ha |  assumption | omega | rfl) (by first | exact hb |  assumption | omega | rfl) (by first | exact hmb | exact mb_up hmb (hmb _ (by omega))) (by first | exact hsm | (have hlt := sumP_lt (m := m) (a := a) (x := m b) (by omega) ha; exact Or.inr ⟨rfl, by omega⟩)) (by first | exact h0 |  assumption | omega | rfl) (by first | exact h42 |  assumption | omega | rfl) (by omega)
        · skip
          refine J_aload_n h (i := 0) dX9_pieces_82 rfl 0 rfl ?_
          refine J_get h inX9 rfl 0 4 (by decide) rfl rfl nf_X9_13 dX9_pieces_83 ?_
          refine J_iload h dX9_pieces_86 4 rfl ?_
          refine N_iald h 1 rfl (by decide) (by omega) dX9_pieces_88 ?_
          refine J_iload_n h (i := 1) dX9_pieces_89 rfl 1 rfl ?_
          refine J_icmp_ne h 124 dX9_pieces_90 (by decide) (fun c_90 => ?_) (fun c_90 => ?_)
          · skip
            refine J_iinc h (v := nI (b + 1)) (lv' := [(4, .int (nI (b + 1))), (0, .ref q0), (1, .int p0), (2, .int (nI fl)), (3, .int (nI a))]) dX9_pieces_124 4 rfl (inc_ok _ 1) (by decide) rfl ?_
            refine J_goto h 53 dX9_pieces_127 (by decide) ?_
            refine J.loc [1, 2, 3, 4, 0] (lv' := [(0, .ref q0), (1, .int p0), (2, .int (nI fl)), (3, .int (nI a)), (4, .int (nI (b + 1)))]) rfl ?_
            exact ih_53 a (b + 1) fl _ s0 (by first | exact ha |  assumption | omega | rfl) (by first | exact hb |  assumption | omega | rfl) (by first | exact hmb | exact mb_up hmb (hmb _ (by omega))) (by first | exact hsm | (have hlt := sumP_lt (m := m) (a := a) (x := m b) (by omega) ha; exact Or.inr ⟨rfl, by omega⟩)) (by first | exact h0 |  assumption | omega | rfl) (by first | exact h42 |  assumption | omega | rfl) (by omega)
          · skip
            refine J_aload_n h (i := 0) dX9_pieces_93 rfl 0 rfl ?_
            refine J_get h inX9 rfl 0 23 (by decide) rfl rfl nf_X9_43 dX9_pieces_94 ?_
            refine J_iload h dX9_pieces_97 4 rfl ?_
            refine N_iald h 2 rfl (by decide) (by omega) dX9_pieces_99 ?_
            refine J_eqs (st' := [.int (nI (m b))]) (by rw [mrk_at (by omega)]) ?_
            refine J_aload_n h (i := 0) dX9_pieces_100 rfl 0 rfl ?_
            refine J_get h inX9 rfl 0 23 (by decide) rfl rfl nf_X9_43 dX9_pieces_101 ?_
            refine J_iload_n h (i := 3) dX9_pieces_104 rfl 3 rfl ?_
            refine N_iald h 2 rfl (by decide) (by omega) dX9_pieces_105 ?_
            refine J_eqs (st' := [.int (nI (m a)), .int (nI (m b))]) (by rw [mrk_at (by omega)]) ?_
            refine N_icmp_ge h 124 dX9_pieces_106 (by decide) (by omega) (by omega) (fun c_106 => ?_) (fun c_106 => ?_)
            · skip
              refine J_iinc h (v := nI (b + 1)) (lv' := [(4, .int (nI (b + 1))), (0, .ref q0), (1, .int p0), (2, .int (nI fl)), (3, .int (nI a))]) dX9_pieces_124 4 rfl (inc_ok _ 1) (by decide) rfl ?_
              refine J_goto h 53 dX9_pieces_127 (by decide) ?_
              refine J.loc [1, 2, 3, 4, 0] (lv' := [(0, .ref q0), (1, .int p0), (2, .int (nI fl)), (3, .int (nI a)), (4, .int (nI (b + 1)))]) rfl ?_
              exact ih_53 a (b + 1) fl _ s0 (by first | exact ha |  assumption | omega | rfl) (by first | exact hb |  assumption | omega | rfl) (by first | exact hmb | exact mb_up hmb (hmb _ (by omega))) (by first | exact hsm | (have hlt := sumP_lt (m := m) (a := a) (x := m b) (by omega) ha; exact Or.inr ⟨rfl, by omega⟩)) (by first | exact h0 |  assumption | omega | rfl) (by first | exact h42 |  assumption | omega | rfl) (by omega)
            · skip
              refine J_aload_n h (i := 0) dX9_pieces_109 rfl 0 rfl ?_
              refine J_get h inX9 rfl 0 23 (by decide) rfl rfl nf_X9_43 dX9_pieces_110 ?_
              refine J_iload_n h (i := 3) dX9_pieces_113 rfl 3 rfl ?_
              refine J_aload_n h (i := 0) dX9_pieces_114 rfl 0 rfl ?_
              refine J_get h inX9 rfl 0 23 (by decide) rfl rfl nf_X9_43 dX9_pieces_115 ?_
              refine J_iload h dX9_pieces_118 4 rfl ?_
              refine N_iald h 2 rfl (by decide) (by omega) dX9_pieces_120 ?_
              refine J_eqs (st' := [.int (nI (m b)), .int (nI a), .ref q23]) (by rw [mrk_at (by omega)]) ?_
              refine N_iast h (ws' := [(q0, .inr (9, [.int (nI ro), .int (nI co), .int sl, .ref q3, .ref q4, .int sn, .ref q6, .ref q7, .ref q8, .ref q9, .int ts, .int ra, .int rr, .int rw, .ref q14, .ref q15, .int rn, .ref q17, .ref q18, .ref q19, .int um, .int bs, .int bh, .ref q23, .ref q24, .ref q25, .int km])), (q4, .inl (cI, 48, .inl mo)), (q23, .inl (cI, 48, .inl (upd (mrk mk (ro * co) m) a (nI (m b)))))]) 2 rfl (by decide) (by omega) dX9_pieces_121 rfl ?_
              refine J_eqw (ws' := [(q0, .inr (9, [.int (nI ro), .int (nI co), .int sl, .ref q3, .ref q4, .int sn, .ref q6, .ref q7, .ref q8, .ref q9, .int ts, .int ra, .int rr, .int rw, .ref q14, .ref q15, .int rn, .ref q17, .ref q18, .ref q19, .int um, .int bs, .int bh, .ref q23, .ref q24, .ref q25, .int km])), (q4, .inl (cI, 48, .inl mo)), (q23, .inl (cI, 48, .inl (mrk mk (ro * co) (va_up m a (m b)))))]) (by rw [mrk_up ha]) ?_
              refine J_iconst h (v := nI 1) dX9_pieces_122 (by decide) ?_
              refine J_istore_n h (i := 2) (lv' := [(2, .int (nI 1)), (0, .ref q0), (1, .int p0), (3, .int (nI a)), (4, .int (nI b))]) dX9_pieces_123 rfl (by decide) rfl ?_
              refine J_iinc h (v := nI (b + 1)) (lv' := [(4, .int (nI (b + 1))), (2, .int (nI 1)), (0, .ref q0), (1, .int p0), (3, .int (nI a))]) dX9_pieces_124 4 rfl (inc_ok _ 1) (by decide) rfl ?_
              refine J_goto h 53 dX9_pieces_127 (by decide) ?_
              refine J.loc [2, 3, 1, 4, 0] (lv' := [(0, .ref q0), (1, .int p0), (2, .int (nI 1)), (3, .int (nI a)), (4, .int (nI (b + 1)))]) rfl ?_
              exact ih_53 a (b + 1) 1 _ s0 (by first | exact ha |  assumption | omega | rfl) (by first | exact hb |  assumption | omega | rfl) (by first | exact hmb | exact mb_up hmb (hmb _ (by omega))) (by first | exact hsm | (have hlt := sumP_lt (m := m) (a := a) (x := m b) (by omega) ha; exact Or.inr ⟨rfl, by omega⟩)) (by first | exact h0 |  assumption | omega | rfl) (by first | exact h42 |  assumption | omega | rfl) (by omega)
      · obtain ⟨rfl, f0_66, -⟩ := p_66
        show J X 5 0 0 69 [(0, .ref q0), (1, .int p0), (2, .int (nI fl)), (3, .int (nI a)), (4, .int (nI b))] [.int (nI 0)] [(q0, .inr (9, [.int (nI ro), .int (nI co), .int sl, .ref q3, .ref q4, .int sn, .ref q6, .ref q7, .ref q8, .ref q9, .int ts, .int ra, .int rr, .int rw, .ref q14, .ref q15, .int rn, .ref q17, .ref q18, .ref q19, .int um, .int bs, .int bh, .ref q23, .ref q24, .ref q25, .int km])), (q4, .inl (cI, 48, .inl mo)), (q23, .inl (cI, 48, .inl (mrk mk (ro * co) m)))]
        refine J_if_eq h 124 dX9_pieces_69 (by decide) (fun _ => ?_) (fun z => absurd z (by decide))
        refine J_iinc h (v := nI (b + 1)) (lv' := [(4, .int (nI (b + 1))), (0, .ref q0), (1, .int p0), (2, .int (nI fl)), (3, .int (nI a))]) dX9_pieces_124 4 rfl (inc_ok _ 1) (by decide) rfl ?_
        refine J_goto h 53 dX9_pieces_127 (by decide) ?_
        refine J.loc [1, 2, 3, 4, 0] (lv' := [(0, .ref q0), (1, .int p0), (2, .int (nI fl)), (3, .int (nI a)), (4, .int (nI (b + 1)))]) rfl ?_
        exact ih_53 a (b + 1) fl _ s0 (by first | exact ha |  assumption | omega | rfl) (by first | exact hb |  assumption | omega | rfl) (by first | exact hmb | exact mb_up hmb (hmb _ (by omega))) (by first | exact hsm | (have hlt := sumP_lt (m := m) (a := a) (x := m b) (by omega) ha; exact Or.inr ⟨rfl, by omega⟩)) (by first | exact h0 |  assumption | omega | rfl) (by first | exact h42 |  assumption | omega | rfl) (by omega)
set_option maxRecDepth 100000 in
set_option maxHeartbeats 4000000 in
theorem w_X9_pieces_42 (X : Cx) {cI cE : ClassId} (h : Ok X cX9_pieces RX9 5 cI cE 2 0 0) (q0 : Nat) (q3 : Nat) (q4 : Nat) (q6 : Nat) (q7 : Nat) (q8 : Nat) (q9 : Nat) (q14 : Nat) (q15 : Nat) (q17 : Nat) (q18 : Nat) (q19 : Nat) (q23 : Nat) (q24 : Nat) (q25 : Nat) (ro : Nat) (co : Nat) (sl : Int32) (sn : Int32) (ts : Int32) (ra : Int32) (rr : Int32) (rw : Int32) (rn : Int32) (um : Int32) (bs : Int32) (bh : Int32) (km : Int32) (mo : Nat → Int32) (mk : Nat → Int32) (p0 : Int32) (hrc : ro * co ≤ 48) (hco : co ≤ 6) (hro : ro ≤ 8) (hc0 : 0 < co) (hR : ∀ (r : Int32) (u : (Nat → Int32)), ((True)) → RetI X cX9_pieces 5 0 0 r [(q0, .inr (9, [.int (nI ro), .int (nI co), .int sl, .ref q3, .ref q4, .int sn, .ref q6, .ref q7, .ref q8, .ref q9, .int ts, .int ra, .int rr, .int rw, .ref q14, .ref q15, .int rn, .ref q17, .ref q18, .ref q19, .int um, .int bs, .int bh, .ref q23, .ref q24, .ref q25, .int km])), (q4, .inl (cI, 48, .inl mo)), (q23, .inl (cI, 48, .inl u))]) (n_34 : Nat) (ih_34 : ∀ (fl : Nat) (m : Nat → Nat), (fl ≤ 1) → (∀ j, j < ro * co → m j ≤ 1048576) → 2 * sumP m (ro * co) + fl < n_34 → J X 5 0 0 34 [(0, .ref q0), (1, .int p0), (2, .int (nI fl))] [] [(q0, .inr (9, [.int (nI ro), .int (nI co), .int sl, .ref q3, .ref q4, .int sn, .ref q6, .ref q7, .ref q8, .ref q9, .int ts, .int ra, .int rr, .int rw, .ref q14, .ref q15, .int rn, .ref q17, .ref q18, .ref q19, .int um, .int bs, .int bh, .ref q23, .ref q24, .ref q25, .int km])), (q4, .inl (cI, 48, .inl mo)), (q23, .inl (cI, 48, .inl (mrk mk (ro * co) m)))]) : ∀ (n_42 : Nat) (a : Nat) (fl : Nat) (m : Nat → Nat) (s0 : Nat), (a ≤ ro * co) → (∀ j, j < ro * co → m j ≤ 1048576) → ((fl = 0 ∧ sumP m (ro * co) ≤ s0) ∨ (fl = 1 ∧ sumP m (ro * co) < s0)) → (2 * s0 + 1 < n_34 + 1) → ro * co - a < n_42 → J X 5 0 0 42 [(0, .ref q0), (1, .int p0), (2, .int (nI fl)), (3, .int (nI a))] [] [(q0, .inr (9, [.int (nI ro), .int (nI co), .int sl, .ref q3, .ref q4, .int sn, .ref q6, .ref q7, .ref q8, .ref q9, .int ts, .int ra, .int rr, .int rw, .ref q14, .ref q15, .int rn, .ref q17, .ref q18, .ref q19, .int um, .int bs, .int bh, .ref q23, .ref q24, .ref q25, .int km])), (q4, .inl (cI, 48, .inl mo)), (q23, .inl (cI, 48, .inl (mrk mk (ro * co) m)))] := by
  intro n_42
  induction n_42 with
  | zero => intro a fl m s0 ha hmb hsm h0 hn_; exact absurd hn_ (Nat.not_lt_zero _)
  | succ n_42 ih_42 =>
    intro a fl m s0 ha hmb hsm h0 hn_42
    refine J_iload_n h (i := 3) dX9_pieces_42 rfl 3 rfl ?_
    refine J_aload_n h (i := 0) dX9_pieces_43 rfl 0 rfl ?_
    refine K_vi h (wr := [(q4, .inl (cI, 48, .inl mo)), (q23, .inl (cI, 48, .inl (mrk mk (ro * co) m)))]) (c_X9_cells (xl X) (xD X) cI cE q0 q3 q4 q6 q7 q8 q9 q14 q15 q17 q18 q19 q23 q24 q25 ro co sl sn ts ra rr rw rn um bs bh km ) yv_X9_cells nm_X9_63 (by decide) (by decide) rfl rfl 0 rfl rfl rfl rfl (Nat.le_of_ble_eq_true rfl) (Nat.le_refl _) (Nat.le_refl _) dX9_pieces_44 (fun r_44 u_44 p_44 => ?_)
    obtain ⟨rfl, -⟩ := p_44
    show J X 5 0 0 47 [(0, .ref q0), (1, .int p0), (2, .int (nI fl)), (3, .int (nI a))] [.int (nI (ro * co)), .int (nI a)] [(q0, .inr (9, [.int (nI ro), .int (nI co), .int sl, .ref q3, .ref q4, .int sn, .ref q6, .ref q7, .ref q8, .ref q9, .int ts, .int ra, .int rr, .int rw, .ref q14, .ref q15, .int rn, .ref q17, .ref q18, .ref q19, .int um, .int bs, .int bh, .ref q23, .ref q24, .ref q25, .int km])), (q4, .inl (cI, 48, .inl mo)), (q23, .inl (cI, 48, .inl (mrk mk (ro * co) m)))]
    refine N_icmp_ge h 136 dX9_pieces_47 (by decide) (by omega) (by omega) (fun c_47 => ?_) (fun c_47 => ?_)
    · skip
      refine J_goto h 34 dX9_pieces_136 (by decide) ?_
      refine J.loc [0, 1, 2] (lv' := [(0, .ref q0), (1, .int p0), (2, .int (nI fl))]) rfl ?_
      exact ih_34 fl _ (by first | assumption | omega | rfl) (by first | exact hmb |  assumption | omega | rfl) (by omega)
    · skip
      refine J_iconst h (v := nI 0) dX9_pieces_50 (by decide) ?_
      refine J_istore h (lv' := [(4, .int (nI 0)), (0, .ref q0), (1, .int p0), (2, .int (nI fl)), (3, .int (nI a))]) dX9_pieces_51 (by decide) rfl ?_
      refine J.loc [1, 2, 3, 4, 0] (lv' := [(0, .ref q0), (1, .int p0), (2, .int (nI fl)), (3, .int (nI a)), (4, .int (nI 0))]) rfl ?_
      exact w_X9_pieces_53 X h q0 q3 q4 q6 q7 q8 q9 q14 q15 q17 q18 q19 q23 q24 q25 ro co sl sn ts ra rr rw rn um bs bh km mo mk p0 hrc hco hro hc0 hR n_34 ih_34 n_42 ih_42 (ro * co - 0 + 1) a 0 fl _ s0 (by first | exact ha |  assumption | omega | rfl) (by first | assumption | omega | rfl) (by first | exact hmb |  assumption | omega | rfl) (by first | exact hsm |  assumption | omega | rfl) (by first | exact h0 |  assumption | omega | rfl) (by first | assumption | omega | rfl) (by omega)
set_option maxRecDepth 100000 in
set_option maxHeartbeats 4000000 in
theorem w_X9_pieces_34 (X : Cx) {cI cE : ClassId} (h : Ok X cX9_pieces RX9 5 cI cE 2 0 0) (q0 : Nat) (q3 : Nat) (q4 : Nat) (q6 : Nat) (q7 : Nat) (q8 : Nat) (q9 : Nat) (q14 : Nat) (q15 : Nat) (q17 : Nat) (q18 : Nat) (q19 : Nat) (q23 : Nat) (q24 : Nat) (q25 : Nat) (ro : Nat) (co : Nat) (sl : Int32) (sn : Int32) (ts : Int32) (ra : Int32) (rr : Int32) (rw : Int32) (rn : Int32) (um : Int32) (bs : Int32) (bh : Int32) (km : Int32) (mo : Nat → Int32) (mk : Nat → Int32) (p0 : Int32) (hrc : ro * co ≤ 48) (hco : co ≤ 6) (hro : ro ≤ 8) (hc0 : 0 < co) (hR : ∀ (r : Int32) (u : (Nat → Int32)), ((True)) → RetI X cX9_pieces 5 0 0 r [(q0, .inr (9, [.int (nI ro), .int (nI co), .int sl, .ref q3, .ref q4, .int sn, .ref q6, .ref q7, .ref q8, .ref q9, .int ts, .int ra, .int rr, .int rw, .ref q14, .ref q15, .int rn, .ref q17, .ref q18, .ref q19, .int um, .int bs, .int bh, .ref q23, .ref q24, .ref q25, .int km])), (q4, .inl (cI, 48, .inl mo)), (q23, .inl (cI, 48, .inl u))]) : ∀ (n_34 : Nat) (fl : Nat) (m : Nat → Nat), (fl ≤ 1) → (∀ j, j < ro * co → m j ≤ 1048576) → 2 * sumP m (ro * co) + fl < n_34 → J X 5 0 0 34 [(0, .ref q0), (1, .int p0), (2, .int (nI fl))] [] [(q0, .inr (9, [.int (nI ro), .int (nI co), .int sl, .ref q3, .ref q4, .int sn, .ref q6, .ref q7, .ref q8, .ref q9, .int ts, .int ra, .int rr, .int rw, .ref q14, .ref q15, .int rn, .ref q17, .ref q18, .ref q19, .int um, .int bs, .int bh, .ref q23, .ref q24, .ref q25, .int km])), (q4, .inl (cI, 48, .inl mo)), (q23, .inl (cI, 48, .inl (mrk mk (ro * co) m)))] := by
  intro n_34
  induction n_34 with
  | zero => intro fl m hfl hmb hn_; exact absurd hn_ (Nat.not_lt_zero _)
  | succ n_34 ih_34 =>
    intro fl m hfl hmb hn_34
    refine J_iload_n h (i := 2) dX9_pieces_34 rfl 2 rfl ?_
    refine N_if_eq h 139 dX9_pieces_35 (by decide) (by omega) (fun c_35 => ?_) (fun c_35 => ?_)
    · skip
      refine J_iconst h (v := nI 0) dX9_pieces_139 (by decide) ?_
      refine J_istore_n h (i := 3) (lv' := [(3, .int (nI 0)), (0, .ref q0), (1, .int p0), (2, .int (nI fl))]) dX9_pieces_140 rfl (by decide) rfl ?_
      refine J_iconst h (v := nI 0) dX9_pieces_141 (by decide) ?_
      refine J_istore h (lv' := [(4, .int (nI 0)), (3, .int (nI 0)), (0, .ref q0), (1, .int p0), (2, .int (nI fl))]) dX9_pieces_142 (by decide) rfl ?_
      refine J.loc [2, 3, 1, 0] (lv' := [(0, .ref q0), (1, .int p0), (3, .int (nI 0)), (4, .int (nI 0))]) rfl ?_
      exact w_X9_pieces_144 X h q0 q3 q4 q6 q7 q8 q9 q14 q15 q17 q18 q19 q23 q24 q25 ro co sl sn ts ra rr rw rn um bs bh km mo mk p0 hrc hco hro hc0 hR  (ro * co - 0 + 1) 0 0 _ (by first | assumption | omega | rfl) (by first | assumption | omega | rfl) (by first | exact hmb |  assumption | omega | rfl) (by omega)
    · skip
      refine J_iconst h (v := nI 0) dX9_pieces_38 (by decide) ?_
      refine J_istore_n h (i := 2) (lv' := [(2, .int (nI 0)), (0, .ref q0), (1, .int p0)]) dX9_pieces_39 rfl (by decide) rfl ?_
      refine J_iconst h (v := nI 0) dX9_pieces_40 (by decide) ?_
      refine J_istore_n h (i := 3) (lv' := [(3, .int (nI 0)), (2, .int (nI 0)), (0, .ref q0), (1, .int p0)]) dX9_pieces_41 rfl (by decide) rfl ?_
      refine J.loc [2, 3, 1, 0] (lv' := [(0, .ref q0), (1, .int p0), (2, .int (nI 0)), (3, .int (nI 0))]) rfl ?_
      exact w_X9_pieces_42 X h q0 q3 q4 q6 q7 q8 q9 q14 q15 q17 q18 q19 q23 q24 q25 ro co sl sn ts ra rr rw rn um bs bh km mo mk p0 hrc hco hro hc0 hR n_34 ih_34 (ro * co - 0 + 1) 0 0 m (sumP m (ro * co)) (by first | assumption | omega | rfl) (by first | exact hmb |  assumption | omega | rfl) (by exact Or.inl ⟨rfl, Nat.le_refl _⟩) (by first | assumption | omega | rfl) (by omega)
set_option maxRecDepth 100000 in
set_option maxHeartbeats 4000000 in
theorem w_X9_pieces_11 (X : Cx) {cI cE : ClassId} (h : Ok X cX9_pieces RX9 5 cI cE 2 0 0) (q0 : Nat) (q3 : Nat) (q4 : Nat) (q6 : Nat) (q7 : Nat) (q8 : Nat) (q9 : Nat) (q14 : Nat) (q15 : Nat) (q17 : Nat) (q18 : Nat) (q19 : Nat) (q23 : Nat) (q24 : Nat) (q25 : Nat) (ro : Nat) (co : Nat) (sl : Int32) (sn : Int32) (ts : Int32) (ra : Int32) (rr : Int32) (rw : Int32) (rn : Int32) (um : Int32) (bs : Int32) (bh : Int32) (km : Int32) (mo : Nat → Int32) (mk : Nat → Int32) (p0 : Int32) (hrc : ro * co ≤ 48) (hco : co ≤ 6) (hro : ro ≤ 8) (hc0 : 0 < co) (hR : ∀ (r : Int32) (u : (Nat → Int32)), ((True)) → RetI X cX9_pieces 5 0 0 r [(q0, .inr (9, [.int (nI ro), .int (nI co), .int sl, .ref q3, .ref q4, .int sn, .ref q6, .ref q7, .ref q8, .ref q9, .int ts, .int ra, .int rr, .int rw, .ref q14, .ref q15, .int rn, .ref q17, .ref q18, .ref q19, .int um, .int bs, .int bh, .ref q23, .ref q24, .ref q25, .int km])), (q4, .inl (cI, 48, .inl mo)), (q23, .inl (cI, 48, .inl u))]) : ∀ (n_11 : Nat) (i : Nat), (i ≤ ro * co) → ro * co - i < n_11 → J X 5 0 0 11 [(0, .ref q0), (1, .int p0), (2, .int (nI i))] [] [(q0, .inr (9, [.int (nI ro), .int (nI co), .int sl, .ref q3, .ref q4, .int sn, .ref q6, .ref q7, .ref q8, .ref q9, .int ts, .int ra, .int rr, .int rw, .ref q14, .ref q15, .int rn, .ref q17, .ref q18, .ref q19, .int um, .int bs, .int bh, .ref q23, .ref q24, .ref q25, .int km])), (q4, .inl (cI, 48, .inl mo)), (q23, .inl (cI, 48, .inl (mrk mk i (fun j => j))))] := by
  intro n_11
  induction n_11 with
  | zero => intro i hi hn_; exact absurd hn_ (Nat.not_lt_zero _)
  | succ n_11 ih_11 =>
    intro i hi hn_11
    refine J_iload_n h (i := 2) dX9_pieces_11 rfl 2 rfl ?_
    refine J_aload_n h (i := 0) dX9_pieces_12 rfl 0 rfl ?_
    refine K_vi h (wr := [(q4, .inl (cI, 48, .inl mo)), (q23, .inl (cI, 48, .inl (mrk mk i (fun j => j))))]) (c_X9_cells (xl X) (xD X) cI cE q0 q3 q4 q6 q7 q8 q9 q14 q15 q17 q18 q19 q23 q24 q25 ro co sl sn ts ra rr rw rn um bs bh km ) yv_X9_cells nm_X9_63 (by decide) (by decide) rfl rfl 0 rfl rfl rfl rfl (Nat.le_of_ble_eq_true rfl) (Nat.le_refl _) (Nat.le_refl _) dX9_pieces_13 (fun r_13 u_13 p_13 => ?_)
    obtain ⟨rfl, -⟩ := p_13
    show J X 5 0 0 16 [(0, .ref q0), (1, .int p0), (2, .int (nI i))] [.int (nI (ro * co)), .int (nI i)] [(q0, .inr (9, [.int (nI ro), .int (nI co), .int sl, .ref q3, .ref q4, .int sn, .ref q6, .ref q7, .ref q8, .ref q9, .int ts, .int ra, .int rr, .int rw, .ref q14, .ref q15, .int rn, .ref q17, .ref q18, .ref q19, .int um, .int bs, .int bh, .ref q23, .ref q24, .ref q25, .int km])), (q4, .inl (cI, 48, .inl mo)), (q23, .inl (cI, 48, .inl (mrk mk i (fun j => j))))]
    refine N_icmp_ge h 32 dX9_pieces_16 (by decide) (by omega) (by omega) (fun c_16 => ?_) (fun c_16 => ?_)
    · skip
      refine J_eqw (ws' := [(q0, .inr (9, [.int (nI ro), .int (nI co), .int sl, .ref q3, .ref q4, .int sn, .ref q6, .ref q7, .ref q8, .ref q9, .int ts, .int ra, .int rr, .int rw, .ref q14, .ref q15, .int rn, .ref q17, .ref q18, .ref q19, .int um, .int bs, .int bh, .ref q23, .ref q24, .ref q25, .int km])), (q4, .inl (cI, 48, .inl mo)), (q23, .inl (cI, 48, .inl (mrk mk (ro * co) (fun j => j))))]) (by rw [show i = ro * co by omega]) ?_
      refine J_iconst h (v := nI 1) dX9_pieces_32 (by decide) ?_
      refine J_istore_n h (i := 2) (lv' := [(2, .int (nI 1)), (0, .ref q0), (1, .int p0)]) dX9_pieces_33 rfl (by decide) rfl ?_
      refine J.loc [1, 2, 0] (lv' := [(0, .ref q0), (1, .int p0), (2, .int (nI 1))]) rfl ?_
      exact w_X9_pieces_34 X h q0 q3 q4 q6 q7 q8 q9 q14 q15 q17 q18 q19 q23 q24 q25 ro co sl sn ts ra rr rw rn um bs bh km mo mk p0 hrc hco hro hc0 hR  (2 * sumP (fun j => j) (ro * co) + 1 + 1) 1 (fun j => j) (by first | assumption | omega | rfl) (by intro j hj; omega) (by omega)
    · skip
      refine J_aload_n h (i := 0) dX9_pieces_19 rfl 0 rfl ?_
      refine J_get h inX9 rfl 0 23 (by decide) rfl rfl nf_X9_43 dX9_pieces_20 ?_
      refine J_iload_n h (i := 2) dX9_pieces_23 rfl 2 rfl ?_
      refine J_iload_n h (i := 2) dX9_pieces_24 rfl 2 rfl ?_
      refine N_iast h (ws' := [(q0, .inr (9, [.int (nI ro), .int (nI co), .int sl, .ref q3, .ref q4, .int sn, .ref q6, .ref q7, .ref q8, .ref q9, .int ts, .int ra, .int rr, .int rw, .ref q14, .ref q15, .int rn, .ref q17, .ref q18, .ref q19, .int um, .int bs, .int bh, .ref q23, .ref q24, .ref q25, .int km])), (q4, .inl (cI, 48, .inl mo)), (q23, .inl (cI, 48, .inl (upd (mrk mk i (fun j => j)) i (nI i))))]) 2 rfl (by decide) (by omega) dX9_pieces_25 rfl ?_
      refine J_eqw (ws' := [(q0, .inr (9, [.int (nI ro), .int (nI co), .int sl, .ref q3, .ref q4, .int sn, .ref q6, .ref q7, .ref q8, .ref q9, .int ts, .int ra, .int rr, .int rw, .ref q14, .ref q15, .int rn, .ref q17, .ref q18, .ref q19, .int um, .int bs, .int bh, .ref q23, .ref q24, .ref q25, .int km])), (q4, .inl (cI, 48, .inl mo)), (q23, .inl (cI, 48, .inl (mrk mk (i + 1) (fun j => j))))]) (by rw [← mrk_s]) ?_
      refine J_iinc h (v := nI (i + 1)) (lv' := [(2, .int (nI (i + 1))), (0, .ref q0), (1, .int p0)]) dX9_pieces_26 2 rfl (inc_ok _ 1) (by decide) rfl ?_
      refine J_goto h 11 dX9_pieces_29 (by decide) ?_
      refine J.loc [1, 2, 0] (lv' := [(0, .ref q0), (1, .int p0), (2, .int (nI (i + 1)))]) rfl ?_
      exact ih_11 (i + 1) (by first | exact hi |  assumption | omega | rfl) (by omega)
set_option maxRecDepth 100000 in
set_option maxHeartbeats 4000000 in
theorem w_X9_pieces (X : Cx) {cI cE : ClassId} (h : Ok X cX9_pieces RX9 5 cI cE 2 0 0) (q0 : Nat) (q3 : Nat) (q4 : Nat) (q6 : Nat) (q7 : Nat) (q8 : Nat) (q9 : Nat) (q14 : Nat) (q15 : Nat) (q17 : Nat) (q18 : Nat) (q19 : Nat) (q23 : Nat) (q24 : Nat) (q25 : Nat) (ro : Nat) (co : Nat) (sl : Int32) (sn : Int32) (ts : Int32) (ra : Int32) (rr : Int32) (rw : Int32) (rn : Int32) (um : Int32) (bs : Int32) (bh : Int32) (km : Int32) (mo : Nat → Int32) (mk : Nat → Int32) (p0 : Int32) (hrc : ro * co ≤ 48) (hco : co ≤ 6) (hro : ro ≤ 8) (hc0 : 0 < co) (hR : ∀ (r : Int32) (u : (Nat → Int32)), ((True)) → RetI X cX9_pieces 5 0 0 r [(q0, .inr (9, [.int (nI ro), .int (nI co), .int sl, .ref q3, .ref q4, .int sn, .ref q6, .ref q7, .ref q8, .ref q9, .int ts, .int ra, .int rr, .int rw, .ref q14, .ref q15, .int rn, .ref q17, .ref q18, .ref q19, .int um, .int bs, .int bh, .ref q23, .ref q24, .ref q25, .int km])), (q4, .inl (cI, 48, .inl mo)), (q23, .inl (cI, 48, .inl u))]) : J X 5 0 0 0 [(0, .ref q0), (1, .int p0)] [] [(q0, .inr (9, [.int (nI ro), .int (nI co), .int sl, .ref q3, .ref q4, .int sn, .ref q6, .ref q7, .ref q8, .ref q9, .int ts, .int ra, .int rr, .int rw, .ref q14, .ref q15, .int rn, .ref q17, .ref q18, .ref q19, .int um, .int bs, .int bh, .ref q23, .ref q24, .ref q25, .int km])), (q4, .inl (cI, 48, .inl mo)), (q23, .inl (cI, 48, .inl mk))] := by
  refine J_iload_n h (i := 1) dX9_pieces_0 rfl 1 rfl ?_
  refine K_si h (wr := [(q0, .inr (9, [.int (nI ro), .int (nI co), .int sl, .ref q3, .ref q4, .int sn, .ref q6, .ref q7, .ref q8, .ref q9, .int ts, .int ra, .int rr, .int rw, .ref q14, .ref q15, .int rn, .ref q17, .ref q18, .ref q19, .int um, .int bs, .int bh, .ref q23, .ref q24, .ref q25, .int km])), (q4, .inl (cI, 48, .inl mo)), (q23, .inl (cI, 48, .inl mk))]) (c_X9_isSide (xl X) (xD X) cI cE p0 ((p0).toInt) (by exact rfl)) yv_X9_isSide nm_X9_141 (by decide) (by decide) rfl rfl rfl (Nat.le_of_ble_eq_true rfl) (Nat.le_refl _) (Nat.le_refl _) dX9_pieces_1 (fun r_1 u_1 p_1 => ?_)
  rcases p_1 with p_1 | p_1
  · obtain ⟨rfl, f0_1, -⟩ := p_1
    show J X 5 0 0 4 [(0, .ref q0), (1, .int p0)] [.int (nI 1)] [(q0, .inr (9, [.int (nI ro), .int (nI co), .int sl, .ref q3, .ref q4, .int sn, .ref q6, .ref q7, .ref q8, .ref q9, .int ts, .int ra, .int rr, .int rw, .ref q14, .ref q15, .int rn, .ref q17, .ref q18, .ref q19, .int um, .int bs, .int bh, .ref q23, .ref q24, .ref q25, .int km])), (q4, .inl (cI, 48, .inl mo)), (q23, .inl (cI, 48, .inl mk))]
    refine J_if_ne h 9 dX9_pieces_4 (by decide) (fun _ => ?_) (fun z => absurd z (by decide))
    refine J_eqw (ws' := [(q0, .inr (9, [.int (nI ro), .int (nI co), .int sl, .ref q3, .ref q4, .int sn, .ref q6, .ref q7, .ref q8, .ref q9, .int ts, .int ra, .int rr, .int rw, .ref q14, .ref q15, .int rn, .ref q17, .ref q18, .ref q19, .int um, .int bs, .int bh, .ref q23, .ref q24, .ref q25, .int km])), (q4, .inl (cI, 48, .inl mo)), (q23, .inl (cI, 48, .inl (mrk mk 0 (fun j => j))))]) (by rw [mrk_0]) ?_
    refine J_iconst h (v := nI 0) dX9_pieces_9 (by decide) ?_
    refine J_istore_n h (i := 2) (lv' := [(2, .int (nI 0)), (0, .ref q0), (1, .int p0)]) dX9_pieces_10 rfl (by decide) rfl ?_
    refine J.loc [1, 2, 0] (lv' := [(0, .ref q0), (1, .int p0), (2, .int (nI 0))]) rfl ?_
    exact w_X9_pieces_11 X h q0 q3 q4 q6 q7 q8 q9 q14 q15 q17 q18 q19 q23 q24 q25 ro co sl sn ts ra rr rw rn um bs bh km mo mk p0 hrc hco hro hc0 hR  (ro * co - 0 + 1) 0 (by first | assumption | omega | rfl) (by omega)
  · obtain ⟨rfl, f0_1, -⟩ := p_1
    show J X 5 0 0 4 [(0, .ref q0), (1, .int p0)] [.int (nI 0)] [(q0, .inr (9, [.int (nI ro), .int (nI co), .int sl, .ref q3, .ref q4, .int sn, .ref q6, .ref q7, .ref q8, .ref q9, .int ts, .int ra, .int rr, .int rw, .ref q14, .ref q15, .int rn, .ref q17, .ref q18, .ref q19, .int um, .int bs, .int bh, .ref q23, .ref q24, .ref q25, .int km])), (q4, .inl (cI, 48, .inl mo)), (q23, .inl (cI, 48, .inl mk))]
    refine J_if_ne h 9 dX9_pieces_4 (by decide) (fun z => absurd z (by decide)) (fun _ => ?_)
    refine J_iconst h (v := (-1)) dX9_pieces_7 (by decide) ?_
    exact hR ((-1)) mk (by trivial) 8 _ dX9_pieces_8
theorem c_X9_pieces (l : Launch) (D : va_G) (cI cE : ClassId) (q0 : Nat) (q3 : Nat) (q4 : Nat) (q6 : Nat) (q7 : Nat) (q8 : Nat) (q9 : Nat) (q14 : Nat) (q15 : Nat) (q17 : Nat) (q18 : Nat) (q19 : Nat) (q23 : Nat) (q24 : Nat) (q25 : Nat) (ro : Nat) (co : Nat) (sl : Int32) (sn : Int32) (ts : Int32) (ra : Int32) (rr : Int32) (rw : Int32) (rn : Int32) (um : Int32) (bs : Int32) (bh : Int32) (km : Int32) (mo : Nat → Int32) (mk : Nat → Int32) (p0 : Int32) (hrc : ro * co ≤ 48) (hco : co ≤ 6) (hro : ro ≤ 8) (hc0 : 0 < co) : Ci l D cI cE yX9_pieces cX9_pieces 5 (some .int) 2 0 0 [.ref q0, .int p0] [(q0, .inr (9, [.int (nI ro), .int (nI co), .int sl, .ref q3, .ref q4, .int sn, .ref q6, .ref q7, .ref q8, .ref q9, .int ts, .int ra, .int rr, .int rw, .ref q14, .ref q15, .int rn, .ref q17, .ref q18, .ref q19, .int um, .int bs, .int bh, .ref q23, .ref q24, .ref q25, .int km])), (q4, .inl (cI, 48, .inl mo)), (q23, .inl (cI, 48, .inl mk))] (fun (r : Int32) (u : (Nat → Int32)) => ((True))) (fun (u : (Nat → Int32)) => ([(q0, .inr (9, [.int (nI ro), .int (nI co), .int sl, .ref q3, .ref q4, .int sn, .ref q6, .ref q7, .ref q8, .ref q9, .int ts, .int ra, .int rr, .int rw, .ref q14, .ref q15, .int rn, .ref q17, .ref q18, .ref q19, .int um, .int bs, .int bh, .ref q23, .ref q24, .ref q25, .int km])), (q4, .inl (cI, 48, .inl mo)), (q23, .inl (cI, 48, .inl u))] : va_W)) :=
  Ci.of (by decide) (Nat.le_of_ble_eq_true rfl) (fun _ _ _ => rfl) (fun X h hR => w_X9_pieces X h q0 q3 q4 q6 q7 q8 q9 q14 q15 q17 q18 q19 q23 q24 q25 ro co sl sn ts ra rr rw rn um bs bh km mo mk p0 hrc hco hro hc0 hR)
theorem yv_X9_pieces : YV yX9_pieces cX9_pieces 5 (some .int) 1 := ⟨no_X9_pieces, nv_X9_pieces, ni_X9, nk_X9_pieces, by decide +kernel⟩
set_option maxRecDepth 100000 in
set_option maxHeartbeats 4000000 in
theorem w_X9_bridge_111 (X : Cx) {cI cE : ClassId} (h : Ok X cX9_bridge RX9 8 cI cE 2 0 0) (q0 : Nat) (q3 : Nat) (q4 : Nat) (q6 : Nat) (q7 : Nat) (q8 : Nat) (q9 : Nat) (q14 : Nat) (q15 : Nat) (q17 : Nat) (q18 : Nat) (q19 : Nat) (q23 : Nat) (q24 : Nat) (q25 : Nat) (ro : Nat) (co : Nat) (sl : Int32) (sn : Int32) (ts : Int32) (ra : Int32) (rr : Int32) (rw : Int32) (rn : Int32) (um : Int32) (bs : Int32) (bh : Int32) (km : Int32) (mo : Nat → Int32) (mk : Nat → Int32) (p0 : Int32) (p1 : Int32) (p2 : Int32) (hrc : ro * co ≤ 48) (hco : co ≤ 6) (hro : ro ≤ 8) (hc0 : 0 < co) (hR : ∀ (r : Int32) (u : (Nat → Int32)), ((True)) → RetI X cX9_bridge 8 0 0 r [(q0, .inr (9, [.int (nI ro), .int (nI co), .int sl, .ref q3, .ref q4, .int sn, .ref q6, .ref q7, .ref q8, .ref q9, .int ts, .int ra, .int rr, .int rw, .ref q14, .ref q15, .int rn, .ref q17, .ref q18, .ref q19, .int um, .int bs, .int bh, .ref q23, .ref q24, .ref q25, .int km])), (q4, .inl (cI, 48, .inl mo)), (q23, .inl (cI, 48, .inl u))]) (n_88 : Nat) (ih_88 : ∀ (fl : Nat) (m : Nat → Nat) (jb : Nat), (fl ≤ 1) → (∀ j, j < ro * co → m j ≤ 1048576) → (jb < ro * co) → 2 * sumP m (ro * co) + fl < n_88 → J X 8 0 0 88 [(0, .ref q0), (1, .int p0), (3, .int (nI jb)), (4, .int (nI fl))] [] [(q0, .inr (9, [.int (nI ro), .int (nI co), .int sl, .ref q3, .ref q4, .int sn, .ref q6, .ref q7, .ref q8, .ref q9, .int ts, .int ra, .int rr, .int rw, .ref q14, .ref q15, .int rn, .ref q17, .ref q18, .ref q19, .int um, .int bs, .int bh, .ref q23, .ref q24, .ref q25, .int km])), (q4, .inl (cI, 48, .inl mo)), (q23, .inl (cI, 48, .inl (mrk mk (ro * co) m)))]) (n_99 : Nat) (ih_99 : ∀ (c : Nat) (fl : Nat) (m : Nat → Nat) (s0 : Nat) (jb : Nat), (c ≤ ro * co) → (∀ j, j < ro * co → m j ≤ 1048576) → ((fl = 0 ∧ sumP m (ro * co) ≤ s0) ∨ (fl = 1 ∧ sumP m (ro * co) < s0)) → (2 * s0 + 1 < n_88 + 1) → (jb < ro * co) → ro * co - c < n_99 → J X 8 0 0 99 [(0, .ref q0), (1, .int p0), (3, .int (nI jb)), (4, .int (nI fl)), (5, .int (nI c))] [] [(q0, .inr (9, [.int (nI ro), .int (nI co), .int sl, .ref q3, .ref q4, .int sn, .ref q6, .ref q7, .ref q8, .ref q9, .int ts, .int ra, .int rr, .int rw, .ref q14, .ref q15, .int rn, .ref q17, .ref q18, .ref q19, .int um, .int bs, .int bh, .ref q23, .ref q24, .ref q25, .int km])), (q4, .inl (cI, 48, .inl mo)), (q23, .inl (cI, 48, .inl (mrk mk (ro * co) m)))]) : ∀ (n_111 : Nat) (c : Nat) (e : Nat) (fl : Nat) (m : Nat → Nat) (s0 : Nat) (jb : Nat), (c < ro * co) → (e ≤ ro * co) → (∀ j, j < ro * co → m j ≤ 1048576) → ((fl = 0 ∧ sumP m (ro * co) ≤ s0) ∨ (fl = 1 ∧ sumP m (ro * co) < s0)) → (2 * s0 + 1 < n_88 + 1) → (ro * co - c < n_99 + 1) → (jb < ro * co) → ro * co - e < n_111 → J X 8 0 0 111 [(0, .ref q0), (1, .int p0), (3, .int (nI jb)), (4, .int (nI fl)), (5, .int (nI c)), (6, .int (nI e))] [] [(q0, .inr (9, [.int (nI ro), .int (nI co), .int sl, .ref q3, .ref q4, .int sn, .ref q6, .ref q7, .ref q8, .ref q9, .int ts, .int ra, .int rr, .int rw, .ref q14, .ref q15, .int rn, .ref q17, .ref q18, .ref q19, .int um, .int bs, .int bh, .ref q23, .ref q24, .ref q25, .int km])), (q4, .inl (cI, 48, .inl mo)), (q23, .inl (cI, 48, .inl (mrk mk (ro * co) m)))] := by
  intro n_111
  induction n_111 with
  | zero => intro c e fl m s0 jb hc hel hmb hsm h0 h42 hjb hn_; exact absurd hn_ (Nat.not_lt_zero _)
  | succ n_111 ih_111 =>
    intro c e fl m s0 jb hc hel hmb hsm h0 h42 hjb hn_111
    refine J_iload h dX9_bridge_111 5 rfl ?_
    refine J_aload_n h (i := 0) dX9_bridge_113 rfl 0 rfl ?_
    refine K_vi h (wr := [(q4, .inl (cI, 48, .inl mo)), (q23, .inl (cI, 48, .inl (mrk mk (ro * co) m)))]) (c_X9_cells (xl X) (xD X) cI cE q0 q3 q4 q6 q7 q8 q9 q14 q15 q17 q18 q19 q23 q24 q25 ro co sl sn ts ra rr rw rn um bs bh km ) yv_X9_cells nm_X9_63 (by decide) (by decide) rfl rfl 0 rfl rfl rfl rfl (Nat.le_of_ble_eq_true rfl) (Nat.le_refl _) (Nat.le_refl _) dX9_bridge_114 (fun r_114 u_114 p_114 => ?_)
    obtain ⟨rfl, -⟩ := p_114
    show J X 8 0 0 117 [(0, .ref q0), (1, .int p0), (3, .int (nI jb)), (4, .int (nI fl)), (5, .int (nI c)), (6, .int (nI e))] [.int (nI (ro * co)), .int (nI e)] [(q0, .inr (9, [.int (nI ro), .int (nI co), .int sl, .ref q3, .ref q4, .int sn, .ref q6, .ref q7, .ref q8, .ref q9, .int ts, .int ra, .int rr, .int rw, .ref q14, .ref q15, .int rn, .ref q17, .ref q18, .ref q19, .int um, .int bs, .int bh, .ref q23, .ref q24, .ref q25, .int km])), (q4, .inl (cI, 48, .inl mo)), (q23, .inl (cI, 48, .inl (mrk mk (ro * co) m)))]
    refine N_icmp_ge h 187 dX9_bridge_117 (by decide) (by omega) (by omega) (fun c_117 => ?_) (fun c_117 => ?_)
    · skip
      refine J_iinc h (v := nI (c + 1)) (lv' := [(5, .int (nI (c + 1))), (0, .ref q0), (1, .int p0), (3, .int (nI jb)), (4, .int (nI fl)), (6, .int (nI e))]) dX9_bridge_187 4 rfl (inc_ok _ 1) (by decide) rfl ?_
      refine J_goto h 99 dX9_bridge_190 (by decide) ?_
      refine J.loc [1, 2, 3, 4, 0] (lv' := [(0, .ref q0), (1, .int p0), (3, .int (nI jb)), (4, .int (nI fl)), (5, .int (nI (c + 1)))]) rfl ?_
      exact ih_99 (c + 1) fl _ s0 jb (by first | exact hc |  assumption | omega | rfl) (by first | exact hmb |  assumption | omega | rfl) (by first | exact hsm |  assumption | omega | rfl) (by first | exact h0 |  assumption | omega | rfl) (by first | exact hjb |  assumption | omega | rfl) (by omega)
    · skip
      have he : e < ro * co := by omega
      have hmc := hmb c (by omega)
      have hme := hmb e he
      refine J_aload_n h (i := 0) dX9_bridge_120 rfl 0 rfl ?_
      refine J_get h inX9 rfl 0 23 (by decide) rfl rfl nf_X9_43 dX9_bridge_121 ?_
      refine J_iload h dX9_bridge_124 4 rfl ?_
      refine N_iald h 2 rfl (by decide) (by omega) dX9_bridge_126 ?_
      refine J_eqs (st' := [.int (nI (m c))]) (by rw [mrk_at (by omega)]) ?_
      refine J_aload_n h (i := 0) dX9_bridge_127 rfl 0 rfl ?_
      refine J_get h inX9 rfl 0 4 (by decide) rfl rfl nf_X9_13 dX9_bridge_128 ?_
      refine J_iload h dX9_bridge_131 5 rfl ?_
      refine N_iald h 1 rfl (by decide) (by omega) dX9_bridge_133 ?_
      refine J_iload_n h (i := 1) dX9_bridge_134 rfl 1 rfl ?_
      refine J_icmp_ne h 142 dX9_bridge_135 (by decide) (fun c_135 => ?_) (fun c_135 => ?_)
      · skip
        refine J_iconst h (v := nI 1) dX9_bridge_142 (by decide) ?_
        refine N_iadd h dX9_bridge_143 ?_
        refine J_istore h (lv' := [(7, .int (nI ((m c) + 1))), (0, .ref q0), (1, .int p0), (3, .int (nI jb)), (4, .int (nI fl)), (5, .int (nI c)), (6, .int (nI e))]) dX9_bridge_144 (by decide) rfl ?_
        refine J_aload_n h (i := 0) dX9_bridge_146 rfl 1 rfl ?_
        refine J_iload h dX9_bridge_147 5 rfl ?_
        refine J_iload h dX9_bridge_149 6 rfl ?_
        refine K_vi h (wr := [(q4, .inl (cI, 48, .inl mo)), (q23, .inl (cI, 48, .inl (mrk mk (ro * co) m)))]) (c_X9_isBeside (xl X) (xD X) cI cE q0 q3 q4 q6 q7 q8 q9 q14 q15 q17 q18 q19 q23 q24 q25 ro co sl sn ts ra rr rw rn um bs bh km c e (by first | exact hco |  assumption | omega | rfl) (by first | assumption | omega | rfl) (by first | assumption | omega | rfl) (by first | exact hc0 |  assumption | omega | rfl)) yv_X9_isBeside nm_X9_183 (by decide) (by decide) rfl rfl 0 rfl rfl rfl rfl (Nat.le_of_ble_eq_true rfl) (Nat.le_refl _) (Nat.le_refl _) dX9_bridge_151 (fun r_151 u_151 p_151 => ?_)
        rcases p_151 with p_151 | p_151
        · obtain ⟨rfl, f0_151, -⟩ := p_151
          show J X 8 0 0 154 [(7, .int (nI ((m c) + 1))), (0, .ref q0), (1, .int p0), (3, .int (nI jb)), (4, .int (nI fl)), (5, .int (nI c)), (6, .int (nI e))] [.int (nI 1)] [(q0, .inr (9, [.int (nI ro), .int (nI co), .int sl, .ref q3, .ref q4, .int sn, .ref q6, .ref q7, .ref q8, .ref q9, .int ts, .int ra, .int rr, .int rw, .ref q14, .ref q15, .int rn, .ref q17, .ref q18, .ref q19, .int um, .int bs, .int bh, .ref q23, .ref q24, .ref q25, .int km])), (q4, .inl (cI, 48, .inl mo)), (q23, .inl (cI, 48, .inl (mrk mk (ro * co) m)))]
          refine J_if_eq h 181 dX9_bridge_154 (by decide) (fun z => absurd z (by decide)) (fun _ => ?_)
          refine J_iload h dX9_bridge_157 0 rfl ?_
          refine J_aload_n h (i := 0) dX9_bridge_159 rfl 1 rfl ?_
          refine J_get h inX9 rfl 0 23 (by decide) rfl rfl nf_X9_43 dX9_bridge_160 ?_
          refine J_iload h dX9_bridge_163 6 rfl ?_
          refine N_iald h 2 rfl (by decide) (by omega) dX9_bridge_165 ?_
          refine J_eqs (st' := [.int (nI (m e)), .int (nI ((m c) + 1))]) (by rw [mrk_at (by omega)]) ?_
          refine N_icmp_ge h 181 dX9_bridge_166 (by decide) (by omega) (by omega) (fun c_166 => ?_) (fun c_166 => ?_)
          · skip
            refine J_iinc h (v := nI (e + 1)) (lv' := [(6, .int (nI (e + 1))), (7, .int (nI ((m c) + 1))), (0, .ref q0), (1, .int p0), (3, .int (nI jb)), (4, .int (nI fl)), (5, .int (nI c))]) dX9_bridge_181 6 rfl (inc_ok _ 1) (by decide) rfl ?_
            refine J_goto h 111 dX9_bridge_184 (by decide) ?_
            refine J.loc [2, 3, 4, 5, 6, 0] (lv' := [(0, .ref q0), (1, .int p0), (3, .int (nI jb)), (4, .int (nI fl)), (5, .int (nI c)), (6, .int (nI (e + 1)))]) rfl ?_
            exact ih_111 c (e + 1) fl _ s0 jb (by first | exact hc |  assumption | omega | rfl) (by first | exact hel |  assumption | omega | rfl) (by first | exact hmb | exact mb_up hmb (by omega)) (by first | exact hsm | exact Or.inr ⟨rfl, by omega⟩) (by first | exact h0 |  assumption | omega | rfl) (by first | exact h42 |  assumption | omega | rfl) (by first | exact hjb |  assumption | omega | rfl) (by omega)
          · skip
            refine J_aload_n h (i := 0) dX9_bridge_169 rfl 1 rfl ?_
            refine J_get h inX9 rfl 0 23 (by decide) rfl rfl nf_X9_43 dX9_bridge_170 ?_
            refine J_iload h dX9_bridge_173 6 rfl ?_
            refine J_iload h dX9_bridge_175 0 rfl ?_
            refine N_iast h (ws' := [(q0, .inr (9, [.int (nI ro), .int (nI co), .int sl, .ref q3, .ref q4, .int sn, .ref q6, .ref q7, .ref q8, .ref q9, .int ts, .int ra, .int rr, .int rw, .ref q14, .ref q15, .int rn, .ref q17, .ref q18, .ref q19, .int um, .int bs, .int bh, .ref q23, .ref q24, .ref q25, .int km])), (q4, .inl (cI, 48, .inl mo)), (q23, .inl (cI, 48, .inl (upd (mrk mk (ro * co) m) e (nI ((m c) + 1)))))]) 2 rfl (by decide) (by omega) dX9_bridge_177 rfl ?_
            refine J_eqw (ws' := [(q0, .inr (9, [.int (nI ro), .int (nI co), .int sl, .ref q3, .ref q4, .int sn, .ref q6, .ref q7, .ref q8, .ref q9, .int ts, .int ra, .int rr, .int rw, .ref q14, .ref q15, .int rn, .ref q17, .ref q18, .ref q19, .int um, .int bs, .int bh, .ref q23, .ref q24, .ref q25, .int km])), (q4, .inl (cI, 48, .inl mo)), (q23, .inl (cI, 48, .inl (mrk mk (ro * co) (va_up m e ((m c) + 1)))))]) (by rw [mrk_up he]) ?_
            have hlt0 : m c + 0 < m e → sumP (va_up m e (m c + 0)) (ro * co) < sumP m (ro * co) := fun q => sumP_lt q he
            have hlt1 : m c + 1 < m e → sumP (va_up m e (m c + 1)) (ro * co) < sumP m (ro * co) := fun q => sumP_lt q he
            refine J_iconst h (v := nI 1) dX9_bridge_178 (by decide) ?_
            refine J_istore h (lv' := [(4, .int (nI 1)), (7, .int (nI ((m c) + 1))), (0, .ref q0), (1, .int p0), (3, .int (nI jb)), (5, .int (nI c)), (6, .int (nI e))]) dX9_bridge_179 (by decide) rfl ?_
            refine J_iinc h (v := nI (e + 1)) (lv' := [(6, .int (nI (e + 1))), (4, .int (nI 1)), (7, .int (nI ((m c) + 1))), (0, .ref q0), (1, .int p0), (3, .int (nI jb)), (5, .int (nI c))]) dX9_bridge_181 6 rfl (inc_ok _ 1) (by decide) rfl ?_
            refine J_goto h 111 dX9_bridge_184 (by decide) ?_
            refine J.loc [3, 4, 5, 1, 6, 0] (lv' := [(0, .ref q0), (1, .int p0), (3, .int (nI jb)), (4, .int (nI 1)), (5, .int (nI c)), (6, .int (nI (e + 1)))]) rfl ?_
            exact ih_111 c (e + 1) 1 _ s0 jb (by first | exact hc |  assumption | omega | rfl) (by first | exact hel |  assumption | omega | rfl) (by first | exact hmb | exact mb_up hmb (by omega)) (by first | exact hsm | exact Or.inr ⟨rfl, by omega⟩) (by first | exact h0 |  assumption | omega | rfl) (by first | exact h42 |  assumption | omega | rfl) (by first | exact hjb |  assumption | omega | rfl) (by omega)
        · obtain ⟨rfl, f0_151, -⟩ := p_151
          show J X 8 0 0 154 [(7, .int (nI ((m c) + 1))), (0, .ref q0), (1, .int p0), (3, .int (nI jb)), (4, .int (nI fl)), (5, .int (nI c)), (6, .int (nI e))] [.int (nI 0)] [(q0, .inr (9, [.int (nI ro), .int (nI co), .int sl, .ref q3, .ref q4, .int sn, .ref q6, .ref q7, .ref q8, .ref q9, .int ts, .int ra, .int rr, .int rw, .ref q14, .ref q15, .int rn, .ref q17, .ref q18, .ref q19, .int um, .int bs, .int bh, .ref q23, .ref q24, .ref q25, .int km])), (q4, .inl (cI, 48, .inl mo)), (q23, .inl (cI, 48, .inl (mrk mk (ro * co) m)))]
          refine J_if_eq h 181 dX9_bridge_154 (by decide) (fun _ => ?_) (fun z => absurd z (by decide))
          refine J_iinc h (v := nI (e + 1)) (lv' := [(6, .int (nI (e + 1))), (7, .int (nI ((m c) + 1))), (0, .ref q0), (1, .int p0), (3, .int (nI jb)), (4, .int (nI fl)), (5, .int (nI c))]) dX9_bridge_181 6 rfl (inc_ok _ 1) (by decide) rfl ?_
          refine J_goto h 111 dX9_bridge_184 (by decide) ?_
          refine J.loc [2, 3, 4, 5, 6, 0] (lv' := [(0, .ref q0), (1, .int p0), (3, .int (nI jb)), (4, .int (nI fl)), (5, .int (nI c)), (6, .int (nI (e + 1)))]) rfl ?_
          exact ih_111 c (e + 1) fl _ s0 jb (by first | exact hc |  assumption | omega | rfl) (by first | exact hel |  assumption | omega | rfl) (by first | exact hmb | exact mb_up hmb (by omega)) (by first | exact hsm | exact Or.inr ⟨rfl, by omega⟩) (by first | exact h0 |  assumption | omega | rfl) (by first | exact h42 |  assumption | omega | rfl) (by first | exact hjb |  assumption | omega | rfl) (by omega)
      · skip
        refine J_iconst h (v := nI 0) dX9_bridge_138 (by decide) ?_
        refine J_goto h 143 dX9_bridge_139 (by decide) ?_
        refine N_iadd h dX9_bridge_143 ?_
        refine J_istore h (lv' := [(7, .int (nI ((m c) + 0))), (0, .ref q0), (1, .int p0), (3, .int (nI jb)), (4, .int (nI fl)), (5, .int (nI c)), (6, .int (nI e))]) dX9_bridge_144 (by decide) rfl ?_
        refine J_aload_n h (i := 0) dX9_bridge_146 rfl 1 rfl ?_
        refine J_iload h dX9_bridge_147 5 rfl ?_
        refine J_iload h dX9_bridge_149 6 rfl ?_
        refine K_vi h (wr := [(q4, .inl (cI, 48, .inl mo)), (q23, .inl (cI, 48, .inl (mrk mk (ro * co) m)))]) (c_X9_isBeside (xl X) (xD X) cI cE q0 q3 q4 q6 q7 q8 q9 q14 q15 q17 q18 q19 q23 q24 q25 ro co sl sn ts ra rr rw rn um bs bh km c e (by first | exact hco |  assumption | omega | rfl) (by first | assumption | omega | rfl) (by first | assumption | omega | rfl) (by first | exact hc0 |  assumption | omega | rfl)) yv_X9_isBeside nm_X9_183 (by decide) (by decide) rfl rfl 0 rfl rfl rfl rfl (Nat.le_of_ble_eq_true rfl) (Nat.le_refl _) (Nat.le_refl _) dX9_bridge_151 (fun r_151 u_151 p_151 => ?_)
        rcases p_151 with p_151 | p_151
        · obtain ⟨rfl, f0_151, -⟩ := p_151
          show J X 8 0 0 154 [(7, .int (nI ((m c) + 0))), (0, .ref q0), (1, .int p0), (3, .int (nI jb)), (4, .int (nI fl)), (5, .int (nI c)), (6, .int (nI e))] [.int (nI 1)] [(q0, .inr (9, [.int (nI ro), .int (nI co), .int sl, .ref q3, .ref q4, .int sn, .ref q6, .ref q7, .ref q8, .ref q9, .int ts, .int ra, .int rr, .int rw, .ref q14, .ref q15, .int rn, .ref q17, .ref q18, .ref q19, .int um, .int bs, .int bh, .ref q23, .ref q24, .ref q25, .int km])), (q4, .inl (cI, 48, .inl mo)), (q23, .inl (cI, 48, .inl (mrk mk (ro * co) m)))]
          refine J_if_eq h 181 dX9_bridge_154 (by decide) (fun z => absurd z (by decide)) (fun _ => ?_)
          refine J_iload h dX9_bridge_157 0 rfl ?_
          refine J_aload_n h (i := 0) dX9_bridge_159 rfl 1 rfl ?_
          refine J_get h inX9 rfl 0 23 (by decide) rfl rfl nf_X9_43 dX9_bridge_160 ?_
          refine J_iload h dX9_bridge_163 6 rfl ?_
          refine N_iald h 2 rfl (by decide) (by omega) dX9_bridge_165 ?_
          refine J_eqs (st' := [.int (nI (m e)), .int (nI ((m c) + 0))]) (by rw [mrk_at (by omega)]) ?_
          refine N_icmp_ge h 181 dX9_bridge_166 (by decide) (by omega) (by omega) (fun c_166 => ?_) (fun c_166 => ?_)
          · skip
            refine J_iinc h (v := nI (e + 1)) (lv' := [(6, .int (nI (e + 1))), (7, .int (nI ((m c) + 0))), (0, .ref q0), (1, .int p0), (3, .int (nI jb)), (4, .int (nI fl)), (5, .int (nI c))]) dX9_bridge_181 6 rfl (inc_ok _ 1) (by decide) rfl ?_
            refine J_goto h 111 dX9_bridge_184 (by decide) ?_
            refine J.loc [2, 3, 4, 5, 6, 0] (lv' := [(0, .ref q0), (1, .int p0), (3, .int (nI jb)), (4, .int (nI fl)), (5, .int (nI c)), (6, .int (nI (e + 1)))]) rfl ?_
            exact ih_111 c (e + 1) fl _ s0 jb (by first | exact hc |  assumption | omega | rfl) (by first | exact hel |  assumption | omega | rfl) (by first | exact hmb | exact mb_up hmb (by omega)) (by first | exact hsm | exact Or.inr ⟨rfl, by omega⟩) (by first | exact h0 |  assumption | omega | rfl) (by first | exact h42 |  assumption | omega | rfl) (by first | exact hjb |  assumption | omega | rfl) (by omega)
          · skip
            refine J_aload_n h (i := 0) dX9_bridge_169 rfl 1 rfl ?_
            refine J_get h inX9 rfl 0 23 (by decide) rfl rfl nf_X9_43 dX9_bridge_170 ?_
            refine J_iload h dX9_bridge_173 6 rfl ?_
            refine J_iload h dX9_bridge_175 0 rfl ?_
            refine N_iast h (ws' := [(q0, .inr (9, [.int (nI ro), .int (nI co), .int sl, .ref q3, .ref q4, .int sn, .ref q6, .ref q7, .ref q8, .ref q9, .int ts, .int ra, .int rr, .int rw, .ref q14, .ref q15, .int rn, .ref q17, .ref q18, .ref q19, .int um, .int bs, .int bh, .ref q23, .ref q24, .ref q25, .int km])), (q4, .inl (cI, 48, .inl mo)), (q23, .inl (cI, 48, .inl (upd (mrk mk (ro * co) m) e (nI ((m c) + 0)))))]) 2 rfl (by decide) (by omega) dX9_bridge_177 rfl ?_
            refine J_eqw (ws' := [(q0, .inr (9, [.int (nI ro), .int (nI co), .int sl, .ref q3, .ref q4, .int sn, .ref q6, .ref q7, .ref q8, .ref q9, .int ts, .int ra, .int rr, .int rw, .ref q14, .ref q15, .int rn, .ref q17, .ref q18, .ref q19, .int um, .int bs, .int bh, .ref q23, .ref q24, .ref q25, .int km])), (q4, .inl (cI, 48, .inl mo)), (q23, .inl (cI, 48, .inl (mrk mk (ro * co) (va_up m e ((m c) + 0)))))]) (by rw [mrk_up he]) ?_
            have hlt0 : m c + 0 < m e → sumP (va_up m e (m c + 0)) (ro * co) < sumP m (ro * co) := fun q => sumP_lt q he
            have hlt1 : m c + 1 < m e → sumP (va_up m e (m c + 1)) (ro * co) < sumP m (ro * co) := fun q => sumP_lt q he
            refine J_iconst h (v := nI 1) dX9_bridge_178 (by decide) ?_
            refine J_istore h (lv' := [(4, .int (nI 1)), (7, .int (nI ((m c) + 0))), (0, .ref q0), (1, .int p0), (3, .int (nI jb)), (5, .int (nI c)), (6, .int (nI e))]) dX9_bridge_179 (by decide) rfl ?_
            refine J_iinc h (v := nI (e + 1)) (lv' := [(6, .int (nI (e + 1))), (4, .int (nI 1)), (7, .int (nI ((m c) + 0))), (0, .ref q0), (1, .int p0), (3, .int (nI jb)), (5, .int (nI c))]) dX9_bridge_181 6 rfl (inc_ok _ 1) (by decide) rfl ?_
            refine J_goto h 111 dX9_bridge_184 (by decide) ?_
            refine J.loc [3, 4, 5, 1, 6, 0] (lv' := [(0, .ref q0), (1, .int p0), (3, .int (nI jb)), (4, .int (nI 1)), (5, .int (nI c)), (6, .int (nI (e + 1)))]) rfl ?_
            exact ih_111 c (e + 1) 1 _ s0 jb (by first | exact hc |  assumption | omega | rfl) (by first | exact hel |  assumption | omega | rfl) (by first | exact hmb | exact mb_up hmb (by omega)) (by first | exact hsm | exact Or.inr ⟨rfl, by omega⟩) (by first | exact h0 |  assumption | omega | rfl) (by first | exact h42 |  assumption | omega | rfl) (by first | exact hjb |  assumption | omega | rfl) (by omega)
        · obtain ⟨rfl, f0_151, -⟩ := p_151
          show J X 8 0 0 154 [(7, .int (nI ((m c) + 0))), (0, .ref q0), (1, .int p0), (3, .int (nI jb)), (4, .int (nI fl)), (5, .int (nI c)), (6, .int (nI e))] [.int (nI 0)] [(q0, .inr (9, [.int (nI ro), .int (nI co), .int sl, .ref q3, .ref q4, .int sn, .ref q6, .ref q7, .ref q8, .ref q9, .int ts, .int ra, .int rr, .int rw, .ref q14, .ref q15, .int rn, .ref q17, .ref q18, .ref q19, .int um, .int bs, .int bh, .ref q23, .ref q24, .ref q25, .int km])), (q4, .inl (cI, 48, .inl mo)), (q23, .inl (cI, 48, .inl (mrk mk (ro * co) m)))]
          refine J_if_eq h 181 dX9_bridge_154 (by decide) (fun _ => ?_) (fun z => absurd z (by decide))
          refine J_iinc h (v := nI (e + 1)) (lv' := [(6, .int (nI (e + 1))), (7, .int (nI ((m c) + 0))), (0, .ref q0), (1, .int p0), (3, .int (nI jb)), (4, .int (nI fl)), (5, .int (nI c))]) dX9_bridge_181 6 rfl (inc_ok _ 1) (by decide) rfl ?_
          refine J_goto h 111 dX9_bridge_184 (by decide) ?_
          refine J.loc [2, 3, 4, 5, 6, 0] (lv' := [(0, .ref q0), (1, .int p0), (3, .int (nI jb)), (4, .int (nI fl)), (5, .int (nI c)), (6, .int (nI (e + 1)))]) rfl ?_
          exact ih_111 c (e + 1) fl _ s0 jb (by first | exact hc |  assumption | omega | rfl) (by first | exact hel |  assumption | omega | rfl) (by first | exact hmb | exact mb_up hmb (by omega)) (by first | exact hsm | exact Or.inr ⟨rfl, by omega⟩) (by first | exact h0 |  assumption | omega | rfl) (by first | exact h42 |  assumption | omega | rfl) (by first | exact hjb |  assumption | omega | rfl) (by omega)
set_option maxRecDepth 100000 in
set_option maxHeartbeats 4000000 in
theorem w_X9_bridge_99 (X : Cx) {cI cE : ClassId} (h : Ok X cX9_bridge RX9 8 cI cE 2 0 0) (q0 : Nat) (q3 : Nat) (q4 : Nat) (q6 : Nat) (q7 : Nat) (q8 : Nat) (q9 : Nat) (q14 : Nat) (q15 : Nat) (q17 : Nat) (q18 : Nat) (q19 : Nat) (q23 : Nat) (q24 : Nat) (q25 : Nat) (ro : Nat) (co : Nat) (sl : Int32) (sn : Int32) (ts : Int32) (ra : Int32) (rr : Int32) (rw : Int32) (rn : Int32) (um : Int32) (bs : Int32) (bh : Int32) (km : Int32) (mo : Nat → Int32) (mk : Nat → Int32) (p0 : Int32) (p1 : Int32) (p2 : Int32) (hrc : ro * co ≤ 48) (hco : co ≤ 6) (hro : ro ≤ 8) (hc0 : 0 < co) (hR : ∀ (r : Int32) (u : (Nat → Int32)), ((True)) → RetI X cX9_bridge 8 0 0 r [(q0, .inr (9, [.int (nI ro), .int (nI co), .int sl, .ref q3, .ref q4, .int sn, .ref q6, .ref q7, .ref q8, .ref q9, .int ts, .int ra, .int rr, .int rw, .ref q14, .ref q15, .int rn, .ref q17, .ref q18, .ref q19, .int um, .int bs, .int bh, .ref q23, .ref q24, .ref q25, .int km])), (q4, .inl (cI, 48, .inl mo)), (q23, .inl (cI, 48, .inl u))]) (n_88 : Nat) (ih_88 : ∀ (fl : Nat) (m : Nat → Nat) (jb : Nat), (fl ≤ 1) → (∀ j, j < ro * co → m j ≤ 1048576) → (jb < ro * co) → 2 * sumP m (ro * co) + fl < n_88 → J X 8 0 0 88 [(0, .ref q0), (1, .int p0), (3, .int (nI jb)), (4, .int (nI fl))] [] [(q0, .inr (9, [.int (nI ro), .int (nI co), .int sl, .ref q3, .ref q4, .int sn, .ref q6, .ref q7, .ref q8, .ref q9, .int ts, .int ra, .int rr, .int rw, .ref q14, .ref q15, .int rn, .ref q17, .ref q18, .ref q19, .int um, .int bs, .int bh, .ref q23, .ref q24, .ref q25, .int km])), (q4, .inl (cI, 48, .inl mo)), (q23, .inl (cI, 48, .inl (mrk mk (ro * co) m)))]) : ∀ (n_99 : Nat) (c : Nat) (fl : Nat) (m : Nat → Nat) (s0 : Nat) (jb : Nat), (c ≤ ro * co) → (∀ j, j < ro * co → m j ≤ 1048576) → ((fl = 0 ∧ sumP m (ro * co) ≤ s0) ∨ (fl = 1 ∧ sumP m (ro * co) < s0)) → (2 * s0 + 1 < n_88 + 1) → (jb < ro * co) → ro * co - c < n_99 → J X 8 0 0 99 [(0, .ref q0), (1, .int p0), (3, .int (nI jb)), (4, .int (nI fl)), (5, .int (nI c))] [] [(q0, .inr (9, [.int (nI ro), .int (nI co), .int sl, .ref q3, .ref q4, .int sn, .ref q6, .ref q7, .ref q8, .ref q9, .int ts, .int ra, .int rr, .int rw, .ref q14, .ref q15, .int rn, .ref q17, .ref q18, .ref q19, .int um, .int bs, .int bh, .ref q23, .ref q24, .ref q25, .int km])), (q4, .inl (cI, 48, .inl mo)), (q23, .inl (cI, 48, .inl (mrk mk (ro * co) m)))] := by
  intro n_99
  induction n_99 with
  | zero => intro c fl m s0 jb hc hmb hsm h0 hjb hn_; exact absurd hn_ (Nat.not_lt_zero _)
  | succ n_99 ih_99 =>
    intro c fl m s0 jb hc hmb hsm h0 hjb hn_99
    refine J_iload h dX9_bridge_99 4 rfl ?_
    refine J_aload_n h (i := 0) dX9_bridge_101 rfl 0 rfl ?_
    refine K_vi h (wr := [(q4, .inl (cI, 48, .inl mo)), (q23, .inl (cI, 48, .inl (mrk mk (ro * co) m)))]) (c_X9_cells (xl X) (xD X) cI cE q0 q3 q4 q6 q7 q8 q9 q14 q15 q17 q18 q19 q23 q24 q25 ro co sl sn ts ra rr rw rn um bs bh km ) yv_X9_cells nm_X9_63 (by decide) (by decide) rfl rfl 0 rfl rfl rfl rfl (Nat.le_of_ble_eq_true rfl) (Nat.le_refl _) (Nat.le_refl _) dX9_bridge_102 (fun r_102 u_102 p_102 => ?_)
    obtain ⟨rfl, -⟩ := p_102
    show J X 8 0 0 105 [(0, .ref q0), (1, .int p0), (3, .int (nI jb)), (4, .int (nI fl)), (5, .int (nI c))] [.int (nI (ro * co)), .int (nI c)] [(q0, .inr (9, [.int (nI ro), .int (nI co), .int sl, .ref q3, .ref q4, .int sn, .ref q6, .ref q7, .ref q8, .ref q9, .int ts, .int ra, .int rr, .int rw, .ref q14, .ref q15, .int rn, .ref q17, .ref q18, .ref q19, .int um, .int bs, .int bh, .ref q23, .ref q24, .ref q25, .int km])), (q4, .inl (cI, 48, .inl mo)), (q23, .inl (cI, 48, .inl (mrk mk (ro * co) m)))]
    refine N_icmp_ge h 193 dX9_bridge_105 (by decide) (by omega) (by omega) (fun c_105 => ?_) (fun c_105 => ?_)
    · skip
      refine J_goto h 88 dX9_bridge_193 (by decide) ?_
      refine J.loc [0, 1, 2, 3] (lv' := [(0, .ref q0), (1, .int p0), (3, .int (nI jb)), (4, .int (nI fl))]) rfl ?_
      exact ih_88 fl _ jb (by first | assumption | omega | rfl) (by first | exact hmb |  assumption | omega | rfl) (by first | exact hjb |  assumption | omega | rfl) (by omega)
    · skip
      refine J_iconst h (v := nI 0) dX9_bridge_108 (by decide) ?_
      refine J_istore h (lv' := [(6, .int (nI 0)), (0, .ref q0), (1, .int p0), (3, .int (nI jb)), (4, .int (nI fl)), (5, .int (nI c))]) dX9_bridge_109 (by decide) rfl ?_
      refine J.loc [1, 2, 3, 4, 5, 0] (lv' := [(0, .ref q0), (1, .int p0), (3, .int (nI jb)), (4, .int (nI fl)), (5, .int (nI c)), (6, .int (nI 0))]) rfl ?_
      exact w_X9_bridge_111 X h q0 q3 q4 q6 q7 q8 q9 q14 q15 q17 q18 q19 q23 q24 q25 ro co sl sn ts ra rr rw rn um bs bh km mo mk p0 p1 p2 hrc hco hro hc0 hR n_88 ih_88 n_99 ih_99 (ro * co - 0 + 1) c 0 fl _ s0 jb (by first | exact hc |  assumption | omega | rfl) (by first | assumption | omega | rfl) (by first | exact hmb |  assumption | omega | rfl) (by first | exact hsm |  assumption | omega | rfl) (by first | exact h0 |  assumption | omega | rfl) (by first | assumption | omega | rfl) (by first | exact hjb |  assumption | omega | rfl) (by omega)
set_option maxRecDepth 100000 in
set_option maxHeartbeats 4000000 in
theorem w_X9_bridge_88 (X : Cx) {cI cE : ClassId} (h : Ok X cX9_bridge RX9 8 cI cE 2 0 0) (q0 : Nat) (q3 : Nat) (q4 : Nat) (q6 : Nat) (q7 : Nat) (q8 : Nat) (q9 : Nat) (q14 : Nat) (q15 : Nat) (q17 : Nat) (q18 : Nat) (q19 : Nat) (q23 : Nat) (q24 : Nat) (q25 : Nat) (ro : Nat) (co : Nat) (sl : Int32) (sn : Int32) (ts : Int32) (ra : Int32) (rr : Int32) (rw : Int32) (rn : Int32) (um : Int32) (bs : Int32) (bh : Int32) (km : Int32) (mo : Nat → Int32) (mk : Nat → Int32) (p0 : Int32) (p1 : Int32) (p2 : Int32) (hrc : ro * co ≤ 48) (hco : co ≤ 6) (hro : ro ≤ 8) (hc0 : 0 < co) (hR : ∀ (r : Int32) (u : (Nat → Int32)), ((True)) → RetI X cX9_bridge 8 0 0 r [(q0, .inr (9, [.int (nI ro), .int (nI co), .int sl, .ref q3, .ref q4, .int sn, .ref q6, .ref q7, .ref q8, .ref q9, .int ts, .int ra, .int rr, .int rw, .ref q14, .ref q15, .int rn, .ref q17, .ref q18, .ref q19, .int um, .int bs, .int bh, .ref q23, .ref q24, .ref q25, .int km])), (q4, .inl (cI, 48, .inl mo)), (q23, .inl (cI, 48, .inl u))]) : ∀ (n_88 : Nat) (fl : Nat) (m : Nat → Nat) (jb : Nat), (fl ≤ 1) → (∀ j, j < ro * co → m j ≤ 1048576) → (jb < ro * co) → 2 * sumP m (ro * co) + fl < n_88 → J X 8 0 0 88 [(0, .ref q0), (1, .int p0), (3, .int (nI jb)), (4, .int (nI fl))] [] [(q0, .inr (9, [.int (nI ro), .int (nI co), .int sl, .ref q3, .ref q4, .int sn, .ref q6, .ref q7, .ref q8, .ref q9, .int ts, .int ra, .int rr, .int rw, .ref q14, .ref q15, .int rn, .ref q17, .ref q18, .ref q19, .int um, .int bs, .int bh, .ref q23, .ref q24, .ref q25, .int km])), (q4, .inl (cI, 48, .inl mo)), (q23, .inl (cI, 48, .inl (mrk mk (ro * co) m)))] := by
  intro n_88
  induction n_88 with
  | zero => intro fl m jb hfl hmb hjb hn_; exact absurd hn_ (Nat.not_lt_zero _)
  | succ n_88 ih_88 =>
    intro fl m jb hfl hmb hjb hn_88
    refine J_iload h dX9_bridge_88 3 rfl ?_
    refine N_if_eq h 196 dX9_bridge_90 (by decide) (by omega) (fun c_90 => ?_) (fun c_90 => ?_)
    · skip
      refine J_aload_n h (i := 0) dX9_bridge_196 rfl 0 rfl ?_
      refine J_get h inX9 rfl 0 23 (by decide) rfl rfl nf_X9_43 dX9_bridge_197 ?_
      refine J_iload_n h (i := 3) dX9_bridge_200 rfl 2 rfl ?_
      refine N_iald h 2 rfl (by decide) (by omega) dX9_bridge_201 ?_
      exact hR ((mrk mk (ro * co) m) jb) (mrk mk (ro * co) m) (by trivial) 202 _ dX9_bridge_202
    · skip
      refine J_iconst h (v := nI 0) dX9_bridge_93 (by decide) ?_
      refine J_istore h (lv' := [(4, .int (nI 0)), (0, .ref q0), (1, .int p0), (3, .int (nI jb))]) dX9_bridge_94 (by decide) rfl ?_
      refine J_iconst h (v := nI 0) dX9_bridge_96 (by decide) ?_
      refine J_istore h (lv' := [(5, .int (nI 0)), (4, .int (nI 0)), (0, .ref q0), (1, .int p0), (3, .int (nI jb))]) dX9_bridge_97 (by decide) rfl ?_
      refine J.loc [2, 3, 4, 1, 0] (lv' := [(0, .ref q0), (1, .int p0), (3, .int (nI jb)), (4, .int (nI 0)), (5, .int (nI 0))]) rfl ?_
      exact w_X9_bridge_99 X h q0 q3 q4 q6 q7 q8 q9 q14 q15 q17 q18 q19 q23 q24 q25 ro co sl sn ts ra rr rw rn um bs bh km mo mk p0 p1 p2 hrc hco hro hc0 hR n_88 ih_88 (ro * co - 0 + 1) 0 0 m (sumP m (ro * co)) jb (by first | assumption | omega | rfl) (by first | exact hmb |  assumption | omega | rfl) (by exact Or.inl ⟨rfl, Nat.le_refl _⟩) (by first | assumption | omega | rfl) (by first | exact hjb |  assumption | omega | rfl) (by omega)
set_option maxRecDepth 100000 in
set_option maxHeartbeats 4000000 in
theorem w_X9_bridge_51 (X : Cx) {cI cE : ClassId} (h : Ok X cX9_bridge RX9 8 cI cE 2 0 0) (q0 : Nat) (q3 : Nat) (q4 : Nat) (q6 : Nat) (q7 : Nat) (q8 : Nat) (q9 : Nat) (q14 : Nat) (q15 : Nat) (q17 : Nat) (q18 : Nat) (q19 : Nat) (q23 : Nat) (q24 : Nat) (q25 : Nat) (ro : Nat) (co : Nat) (sl : Int32) (sn : Int32) (ts : Int32) (ra : Int32) (rr : Int32) (rw : Int32) (rn : Int32) (um : Int32) (bs : Int32) (bh : Int32) (km : Int32) (mo : Nat → Int32) (mk : Nat → Int32) (p0 : Int32) (p1 : Int32) (p2 : Int32) (hrc : ro * co ≤ 48) (hco : co ≤ 6) (hro : ro ≤ 8) (hc0 : 0 < co) (hR : ∀ (r : Int32) (u : (Nat → Int32)), ((True)) → RetI X cX9_bridge 8 0 0 r [(q0, .inr (9, [.int (nI ro), .int (nI co), .int sl, .ref q3, .ref q4, .int sn, .ref q6, .ref q7, .ref q8, .ref q9, .int ts, .int ra, .int rr, .int rw, .ref q14, .ref q15, .int rn, .ref q17, .ref q18, .ref q19, .int um, .int bs, .int bh, .ref q23, .ref q24, .ref q25, .int km])), (q4, .inl (cI, 48, .inl mo)), (q23, .inl (cI, 48, .inl u))]) : ∀ (n_51 : Nat) (i : Nat) (ja : Nat) (jb : Nat), (i ≤ ro * co) → (ja < ro * co) → (jb < ro * co) → ro * co - i < n_51 → J X 8 0 0 51 [(0, .ref q0), (1, .int p0), (3, .int (nI jb)), (2, .int (nI ja)), (4, .int (nI i))] [] [(q0, .inr (9, [.int (nI ro), .int (nI co), .int sl, .ref q3, .ref q4, .int sn, .ref q6, .ref q7, .ref q8, .ref q9, .int ts, .int ra, .int rr, .int rw, .ref q14, .ref q15, .int rn, .ref q17, .ref q18, .ref q19, .int um, .int bs, .int bh, .ref q23, .ref q24, .ref q25, .int km])), (q4, .inl (cI, 48, .inl mo)), (q23, .inl (cI, 48, .inl (mrk mk i (bm0 ja))))] := by
  intro n_51
  induction n_51 with
  | zero => intro i ja jb hi hja hjb hn_; exact absurd hn_ (Nat.not_lt_zero _)
  | succ n_51 ih_51 =>
    intro i ja jb hi hja hjb hn_51
    refine J_iload h dX9_bridge_51 4 rfl ?_
    refine J_aload_n h (i := 0) dX9_bridge_53 rfl 0 rfl ?_
    refine K_vi h (wr := [(q4, .inl (cI, 48, .inl mo)), (q23, .inl (cI, 48, .inl (mrk mk i (bm0 ja))))]) (c_X9_cells (xl X) (xD X) cI cE q0 q3 q4 q6 q7 q8 q9 q14 q15 q17 q18 q19 q23 q24 q25 ro co sl sn ts ra rr rw rn um bs bh km ) yv_X9_cells nm_X9_63 (by decide) (by decide) rfl rfl 0 rfl rfl rfl rfl (Nat.le_of_ble_eq_true rfl) (Nat.le_refl _) (Nat.le_refl _) dX9_bridge_54 (fun r_54 u_54 p_54 => ?_)
    obtain ⟨rfl, -⟩ := p_54
    show J X 8 0 0 57 [(0, .ref q0), (1, .int p0), (3, .int (nI jb)), (2, .int (nI ja)), (4, .int (nI i))] [.int (nI (ro * co)), .int (nI i)] [(q0, .inr (9, [.int (nI ro), .int (nI co), .int sl, .ref q3, .ref q4, .int sn, .ref q6, .ref q7, .ref q8, .ref q9, .int ts, .int ra, .int rr, .int rw, .ref q14, .ref q15, .int rn, .ref q17, .ref q18, .ref q19, .int um, .int bs, .int bh, .ref q23, .ref q24, .ref q25, .int km])), (q4, .inl (cI, 48, .inl mo)), (q23, .inl (cI, 48, .inl (mrk mk i (bm0 ja))))]
    refine N_icmp_ge h 85 dX9_bridge_57 (by decide) (by omega) (by omega) (fun c_57 => ?_) (fun c_57 => ?_)
    · skip
      refine J_eqw (ws' := [(q0, .inr (9, [.int (nI ro), .int (nI co), .int sl, .ref q3, .ref q4, .int sn, .ref q6, .ref q7, .ref q8, .ref q9, .int ts, .int ra, .int rr, .int rw, .ref q14, .ref q15, .int rn, .ref q17, .ref q18, .ref q19, .int um, .int bs, .int bh, .ref q23, .ref q24, .ref q25, .int km])), (q4, .inl (cI, 48, .inl mo)), (q23, .inl (cI, 48, .inl (mrk mk (ro * co) (bm0 ja))))]) (by rw [show i = ro * co by omega]) ?_
      refine J_iconst h (v := nI 1) dX9_bridge_85 (by decide) ?_
      refine J_istore h (lv' := [(4, .int (nI 1)), (0, .ref q0), (1, .int p0), (3, .int (nI jb)), (2, .int (nI ja))]) dX9_bridge_86 (by decide) rfl ?_
      refine J.loc [1, 2, 3, 0] (lv' := [(0, .ref q0), (1, .int p0), (3, .int (nI jb)), (4, .int (nI 1))]) rfl ?_
      exact w_X9_bridge_88 X h q0 q3 q4 q6 q7 q8 q9 q14 q15 q17 q18 q19 q23 q24 q25 ro co sl sn ts ra rr rw rn um bs bh km mo mk p0 p1 p2 hrc hco hro hc0 hR  (2 * sumP (bm0 ja) (ro * co) + 1 + 1) 1 (bm0 ja) jb (by first | assumption | omega | rfl) (by exact bm0_le _ _) (by first | exact hjb |  assumption | omega | rfl) (by omega)
    · skip
      refine J_aload_n h (i := 0) dX9_bridge_60 rfl 0 rfl ?_
      refine J_get h inX9 rfl 0 23 (by decide) rfl rfl nf_X9_43 dX9_bridge_61 ?_
      refine J_iload h dX9_bridge_64 4 rfl ?_
      refine J_iload h dX9_bridge_66 4 rfl ?_
      refine J_iload_n h (i := 2) dX9_bridge_68 rfl 3 rfl ?_
      refine N_icmp_ne h 76 dX9_bridge_69 (by decide) (by omega) (by omega) (fun c_69 => ?_) (fun c_69 => ?_)
      · skip
        refine J_ldc h nl_X9_187 dX9_bridge_76 ?_
        refine J_eqs (st' := [.int (nI 1048576), .int (nI i), .ref q23]) (by rfl) ?_
        refine N_iast h (ws' := [(q0, .inr (9, [.int (nI ro), .int (nI co), .int sl, .ref q3, .ref q4, .int sn, .ref q6, .ref q7, .ref q8, .ref q9, .int ts, .int ra, .int rr, .int rw, .ref q14, .ref q15, .int rn, .ref q17, .ref q18, .ref q19, .int um, .int bs, .int bh, .ref q23, .ref q24, .ref q25, .int km])), (q4, .inl (cI, 48, .inl mo)), (q23, .inl (cI, 48, .inl (upd (mrk mk i (bm0 ja)) i (nI 1048576))))]) 2 rfl (by decide) (by omega) dX9_bridge_78 rfl ?_
        refine J_eqw (ws' := [(q0, .inr (9, [.int (nI ro), .int (nI co), .int sl, .ref q3, .ref q4, .int sn, .ref q6, .ref q7, .ref q8, .ref q9, .int ts, .int ra, .int rr, .int rw, .ref q14, .ref q15, .int rn, .ref q17, .ref q18, .ref q19, .int um, .int bs, .int bh, .ref q23, .ref q24, .ref q25, .int km])), (q4, .inl (cI, 48, .inl mo)), (q23, .inl (cI, 48, .inl (mrk mk (i + 1) (bm0 ja))))]) (by first | (rw [bm0_s (if_pos c_69)]; done) | (rw [bm0_s (if_neg c_69)]; done)) ?_
        refine J_iinc h (v := nI (i + 1)) (lv' := [(4, .int (nI (i + 1))), (0, .ref q0), (1, .int p0), (3, .int (nI jb)), (2, .int (nI ja))]) dX9_bridge_79 4 rfl (inc_ok _ 1) (by decide) rfl ?_
        refine J_goto h 51 dX9_bridge_82 (by decide) ?_
        refine J.loc [1, 2, 3, 4, 0] (lv' := [(0, .ref q0), (1, .int p0), (3, .int (nI jb)), (2, .int (nI ja)), (4, .int (nI (i + 1)))]) rfl ?_
        exact ih_51 (i + 1) ja jb (by first | exact hi |  assumption | omega | rfl) (by first | exact hja |  assumption | omega | rfl) (by first | exact hjb |  assumption | omega | rfl) (by omega)
      · skip
        refine J_iconst h (v := nI 0) dX9_bridge_72 (by decide) ?_
        refine J_goto h 78 dX9_bridge_73 (by decide) ?_
        refine N_iast h (ws' := [(q0, .inr (9, [.int (nI ro), .int (nI co), .int sl, .ref q3, .ref q4, .int sn, .ref q6, .ref q7, .ref q8, .ref q9, .int ts, .int ra, .int rr, .int rw, .ref q14, .ref q15, .int rn, .ref q17, .ref q18, .ref q19, .int um, .int bs, .int bh, .ref q23, .ref q24, .ref q25, .int km])), (q4, .inl (cI, 48, .inl mo)), (q23, .inl (cI, 48, .inl (upd (mrk mk i (bm0 ja)) i (nI 0))))]) 2 rfl (by decide) (by omega) dX9_bridge_78 rfl ?_
        refine J_eqw (ws' := [(q0, .inr (9, [.int (nI ro), .int (nI co), .int sl, .ref q3, .ref q4, .int sn, .ref q6, .ref q7, .ref q8, .ref q9, .int ts, .int ra, .int rr, .int rw, .ref q14, .ref q15, .int rn, .ref q17, .ref q18, .ref q19, .int um, .int bs, .int bh, .ref q23, .ref q24, .ref q25, .int km])), (q4, .inl (cI, 48, .inl mo)), (q23, .inl (cI, 48, .inl (mrk mk (i + 1) (bm0 ja))))]) (by first | (rw [bm0_s (if_pos c_69)]; done) | (rw [bm0_s (if_neg c_69)]; done)) ?_
        refine J_iinc h (v := nI (i + 1)) (lv' := [(4, .int (nI (i + 1))), (0, .ref q0), (1, .int p0), (3, .int (nI jb)), (2, .int (nI ja))]) dX9_bridge_79 4 rfl (inc_ok _ 1) (by decide) rfl ?_
        refine J_goto h 51 dX9_bridge_82 (by decide) ?_
        refine J.loc [1, 2, 3, 4, 0] (lv' := [(0, .ref q0), (1, .int p0), (3, .int (nI jb)), (2, .int (nI ja)), (4, .int (nI (i + 1)))]) rfl ?_
        exact ih_51 (i + 1) ja jb (by first | exact hi |  assumption | omega | rfl) (by first | exact hja |  assumption | omega | rfl) (by first | exact hjb |  assumption | omega | rfl) (by omega)
set_option maxRecDepth 100000 in
set_option maxHeartbeats 4000000 in
theorem w_X9_bridge (X : Cx) {cI cE : ClassId} (h : Ok X cX9_bridge RX9 8 cI cE 2 0 0) (q0 : Nat) (q3 : Nat) (q4 : Nat) (q6 : Nat) (q7 : Nat) (q8 : Nat) (q9 : Nat) (q14 : Nat) (q15 : Nat) (q17 : Nat) (q18 : Nat) (q19 : Nat) (q23 : Nat) (q24 : Nat) (q25 : Nat) (ro : Nat) (co : Nat) (sl : Int32) (sn : Int32) (ts : Int32) (ra : Int32) (rr : Int32) (rw : Int32) (rn : Int32) (um : Int32) (bs : Int32) (bh : Int32) (km : Int32) (mo : Nat → Int32) (mk : Nat → Int32) (p0 : Int32) (p1 : Int32) (p2 : Int32) (hrc : ro * co ≤ 48) (hco : co ≤ 6) (hro : ro ≤ 8) (hc0 : 0 < co) (hR : ∀ (r : Int32) (u : (Nat → Int32)), ((True)) → RetI X cX9_bridge 8 0 0 r [(q0, .inr (9, [.int (nI ro), .int (nI co), .int sl, .ref q3, .ref q4, .int sn, .ref q6, .ref q7, .ref q8, .ref q9, .int ts, .int ra, .int rr, .int rw, .ref q14, .ref q15, .int rn, .ref q17, .ref q18, .ref q19, .int um, .int bs, .int bh, .ref q23, .ref q24, .ref q25, .int km])), (q4, .inl (cI, 48, .inl mo)), (q23, .inl (cI, 48, .inl u))]) : J X 8 0 0 0 [(0, .ref q0), (1, .int p0), (2, .int p1), (3, .int p2)] [] [(q0, .inr (9, [.int (nI ro), .int (nI co), .int sl, .ref q3, .ref q4, .int sn, .ref q6, .ref q7, .ref q8, .ref q9, .int ts, .int ra, .int rr, .int rw, .ref q14, .ref q15, .int rn, .ref q17, .ref q18, .ref q19, .int um, .int bs, .int bh, .ref q23, .ref q24, .ref q25, .int km])), (q4, .inl (cI, 48, .inl mo)), (q23, .inl (cI, 48, .inl mk))] := by
  refine J_iload_n h (i := 1) dX9_bridge_0 rfl 1 rfl ?_
  refine K_si h (wr := [(q0, .inr (9, [.int (nI ro), .int (nI co), .int sl, .ref q3, .ref q4, .int sn, .ref q6, .ref q7, .ref q8, .ref q9, .int ts, .int ra, .int rr, .int rw, .ref q14, .ref q15, .int rn, .ref q17, .ref q18, .ref q19, .int um, .int bs, .int bh, .ref q23, .ref q24, .ref q25, .int km])), (q4, .inl (cI, 48, .inl mo)), (q23, .inl (cI, 48, .inl mk))]) (c_X9_isSide (xl X) (xD X) cI cE p0 ((p0).toInt) (by exact rfl)) yv_X9_isSide nm_X9_141 (by decide) (by decide) rfl rfl rfl (Nat.le_of_ble_eq_true rfl) (Nat.le_refl _) (Nat.le_refl _) dX9_bridge_1 (fun r_1 u_1 p_1 => ?_)
  rcases p_1 with p_1 | p_1
  · obtain ⟨rfl, f0_1, -⟩ := p_1
    show J X 8 0 0 4 [(0, .ref q0), (1, .int p0), (2, .int p1), (3, .int p2)] [.int (nI 1)] [(q0, .inr (9, [.int (nI ro), .int (nI co), .int sl, .ref q3, .ref q4, .int sn, .ref q6, .ref q7, .ref q8, .ref q9, .int ts, .int ra, .int rr, .int rw, .ref q14, .ref q15, .int rn, .ref q17, .ref q18, .ref q19, .int um, .int bs, .int bh, .ref q23, .ref q24, .ref q25, .int km])), (q4, .inl (cI, 48, .inl mo)), (q23, .inl (cI, 48, .inl mk))]
    refine J_if_eq h 23 dX9_bridge_4 (by decide) (fun z => absurd z (by decide)) (fun _ => ?_)
    refine J_aload_n h (i := 0) dX9_bridge_7 rfl 0 rfl ?_
    refine J_iload_n h (i := 2) dX9_bridge_8 rfl 2 rfl ?_
    refine K_vi h (wr := [(q4, .inl (cI, 48, .inl mo)), (q23, .inl (cI, 48, .inl mk))]) (c_X9_isCell (xl X) (xD X) cI cE q0 q3 q4 q6 q7 q8 q9 q14 q15 q17 q18 q19 q23 q24 q25 ro co sl sn ts ra rr rw rn um bs bh km p1 (by first | exact hrc |  assumption | omega | rfl)) yv_X9_isCell nm_X9_131 (by decide) (by decide) rfl rfl 0 rfl rfl rfl rfl (Nat.le_of_ble_eq_true rfl) (Nat.le_refl _) (Nat.le_refl _) dX9_bridge_9 (fun r_9 u_9 p_9 => ?_)
    rcases p_9 with p_9 | p_9
    · obtain ⟨j_9, rfl, f0_9, rfl, -⟩ := p_9
      show J X 8 0 0 12 [(0, .ref q0), (1, .int p0), (2, .int (nI j_9)), (3, .int p2)] [.int (nI 1)] [(q0, .inr (9, [.int (nI ro), .int (nI co), .int sl, .ref q3, .ref q4, .int sn, .ref q6, .ref q7, .ref q8, .ref q9, .int ts, .int ra, .int rr, .int rw, .ref q14, .ref q15, .int rn, .ref q17, .ref q18, .ref q19, .int um, .int bs, .int bh, .ref q23, .ref q24, .ref q25, .int km])), (q4, .inl (cI, 48, .inl mo)), (q23, .inl (cI, 48, .inl mk))]
      refine J_if_eq h 23 dX9_bridge_12 (by decide) (fun z => absurd z (by decide)) (fun _ => ?_)
      refine J_aload_n h (i := 0) dX9_bridge_15 rfl 0 rfl ?_
      refine J_iload_n h (i := 3) dX9_bridge_16 rfl 3 rfl ?_
      refine K_vi h (wr := [(q4, .inl (cI, 48, .inl mo)), (q23, .inl (cI, 48, .inl mk))]) (c_X9_isCell (xl X) (xD X) cI cE q0 q3 q4 q6 q7 q8 q9 q14 q15 q17 q18 q19 q23 q24 q25 ro co sl sn ts ra rr rw rn um bs bh km p2 (by first | exact hrc |  assumption | omega | rfl)) yv_X9_isCell nm_X9_131 (by decide) (by decide) rfl rfl 0 rfl rfl rfl rfl (Nat.le_of_ble_eq_true rfl) (Nat.le_refl _) (Nat.le_refl _) dX9_bridge_17 (fun r_17 u_17 p_17 => ?_)
      rcases p_17 with p_17 | p_17
      · obtain ⟨j_17, rfl, f0_17, rfl, -⟩ := p_17
        show J X 8 0 0 20 [(0, .ref q0), (1, .int p0), (2, .int (nI j_9)), (3, .int (nI j_17))] [.int (nI 1)] [(q0, .inr (9, [.int (nI ro), .int (nI co), .int sl, .ref q3, .ref q4, .int sn, .ref q6, .ref q7, .ref q8, .ref q9, .int ts, .int ra, .int rr, .int rw, .ref q14, .ref q15, .int rn, .ref q17, .ref q18, .ref q19, .int um, .int bs, .int bh, .ref q23, .ref q24, .ref q25, .int km])), (q4, .inl (cI, 48, .inl mo)), (q23, .inl (cI, 48, .inl mk))]
        refine J_if_ne h 25 dX9_bridge_20 (by decide) (fun _ => ?_) (fun z => absurd z (by decide))
        refine J_aload_n h (i := 0) dX9_bridge_25 rfl 0 rfl ?_
        refine J_get h inX9 rfl 0 4 (by decide) rfl rfl nf_X9_13 dX9_bridge_26 ?_
        refine J_iload_n h (i := 2) dX9_bridge_29 rfl 2 rfl ?_
        refine N_iald h 1 rfl (by decide) (by omega) dX9_bridge_30 ?_
        refine J_iload_n h (i := 1) dX9_bridge_31 rfl 1 rfl ?_
        refine J_icmp_ne h 45 dX9_bridge_32 (by decide) (fun c_32 => ?_) (fun c_32 => ?_)
        · skip
          refine J_bipush h (v := (-2)) dX9_bridge_45 (by decide) ?_
          exact hR ((-2)) mk (by trivial) 47 _ dX9_bridge_47
        · skip
          refine J_aload_n h (i := 0) dX9_bridge_35 rfl 0 rfl ?_
          refine J_get h inX9 rfl 0 4 (by decide) rfl rfl nf_X9_13 dX9_bridge_36 ?_
          refine J_iload_n h (i := 3) dX9_bridge_39 rfl 3 rfl ?_
          refine N_iald h 1 rfl (by decide) (by omega) dX9_bridge_40 ?_
          refine J_iload_n h (i := 1) dX9_bridge_41 rfl 1 rfl ?_
          refine J_icmp_eq h 48 dX9_bridge_42 (by decide) (fun c_42 => ?_) (fun c_42 => ?_)
          · skip
            refine J_eqw (ws' := [(q0, .inr (9, [.int (nI ro), .int (nI co), .int sl, .ref q3, .ref q4, .int sn, .ref q6, .ref q7, .ref q8, .ref q9, .int ts, .int ra, .int rr, .int rw, .ref q14, .ref q15, .int rn, .ref q17, .ref q18, .ref q19, .int um, .int bs, .int bh, .ref q23, .ref q24, .ref q25, .int km])), (q4, .inl (cI, 48, .inl mo)), (q23, .inl (cI, 48, .inl (mrk mk 0 (bm0 j_9))))]) (by rw [mrk_0]) ?_
            refine J_iconst h (v := nI 0) dX9_bridge_48 (by decide) ?_
            refine J_istore h (lv' := [(4, .int (nI 0)), (0, .ref q0), (1, .int p0), (2, .int (nI j_9)), (3, .int (nI j_17))]) dX9_bridge_49 (by decide) rfl ?_
            refine J.loc [1, 2, 4, 3, 0] (lv' := [(0, .ref q0), (1, .int p0), (3, .int (nI j_17)), (2, .int (nI j_9)), (4, .int (nI 0))]) rfl ?_
            exact w_X9_bridge_51 X h q0 q3 q4 q6 q7 q8 q9 q14 q15 q17 q18 q19 q23 q24 q25 ro co sl sn ts ra rr rw rn um bs bh km mo mk p0 (nI j_9) (nI j_17) hrc hco hro hc0 hR  (ro * co - 0 + 1) 0 j_9 j_17 (by first | assumption | omega | rfl) (by first | assumption | omega | rfl) (by first | assumption | omega | rfl) (by omega)
          · skip
            refine J_bipush h (v := (-2)) dX9_bridge_45 (by decide) ?_
            exact hR ((-2)) mk (by trivial) 47 _ dX9_bridge_47
      · obtain ⟨rfl, f0_17, -⟩ := p_17
        show J X 8 0 0 20 [(0, .ref q0), (1, .int p0), (2, .int (nI j_9)), (3, .int p2)] [.int (nI 0)] [(q0, .inr (9, [.int (nI ro), .int (nI co), .int sl, .ref q3, .ref q4, .int sn, .ref q6, .ref q7, .ref q8, .ref q9, .int ts, .int ra, .int rr, .int rw, .ref q14, .ref q15, .int rn, .ref q17, .ref q18, .ref q19, .int um, .int bs, .int bh, .ref q23, .ref q24, .ref q25, .int km])), (q4, .inl (cI, 48, .inl mo)), (q23, .inl (cI, 48, .inl mk))]
        refine J_if_ne h 25 dX9_bridge_20 (by decide) (fun z => absurd z (by decide)) (fun _ => ?_)
        refine J_iconst h (v := (-1)) dX9_bridge_23 (by decide) ?_
        exact hR ((-1)) mk (by trivial) 24 _ dX9_bridge_24
    · obtain ⟨rfl, f0_9, -⟩ := p_9
      show J X 8 0 0 12 [(0, .ref q0), (1, .int p0), (2, .int p1), (3, .int p2)] [.int (nI 0)] [(q0, .inr (9, [.int (nI ro), .int (nI co), .int sl, .ref q3, .ref q4, .int sn, .ref q6, .ref q7, .ref q8, .ref q9, .int ts, .int ra, .int rr, .int rw, .ref q14, .ref q15, .int rn, .ref q17, .ref q18, .ref q19, .int um, .int bs, .int bh, .ref q23, .ref q24, .ref q25, .int km])), (q4, .inl (cI, 48, .inl mo)), (q23, .inl (cI, 48, .inl mk))]
      refine J_if_eq h 23 dX9_bridge_12 (by decide) (fun _ => ?_) (fun z => absurd z (by decide))
      refine J_iconst h (v := (-1)) dX9_bridge_23 (by decide) ?_
      exact hR ((-1)) mk (by trivial) 24 _ dX9_bridge_24
  · obtain ⟨rfl, f0_1, -⟩ := p_1
    show J X 8 0 0 4 [(0, .ref q0), (1, .int p0), (2, .int p1), (3, .int p2)] [.int (nI 0)] [(q0, .inr (9, [.int (nI ro), .int (nI co), .int sl, .ref q3, .ref q4, .int sn, .ref q6, .ref q7, .ref q8, .ref q9, .int ts, .int ra, .int rr, .int rw, .ref q14, .ref q15, .int rn, .ref q17, .ref q18, .ref q19, .int um, .int bs, .int bh, .ref q23, .ref q24, .ref q25, .int km])), (q4, .inl (cI, 48, .inl mo)), (q23, .inl (cI, 48, .inl mk))]
    refine J_if_eq h 23 dX9_bridge_4 (by decide) (fun _ => ?_) (fun z => absurd z (by decide))
    refine J_iconst h (v := (-1)) dX9_bridge_23 (by decide) ?_
    exact hR ((-1)) mk (by trivial) 24 _ dX9_bridge_24
theorem c_X9_bridge (l : Launch) (D : va_G) (cI cE : ClassId) (q0 : Nat) (q3 : Nat) (q4 : Nat) (q6 : Nat) (q7 : Nat) (q8 : Nat) (q9 : Nat) (q14 : Nat) (q15 : Nat) (q17 : Nat) (q18 : Nat) (q19 : Nat) (q23 : Nat) (q24 : Nat) (q25 : Nat) (ro : Nat) (co : Nat) (sl : Int32) (sn : Int32) (ts : Int32) (ra : Int32) (rr : Int32) (rw : Int32) (rn : Int32) (um : Int32) (bs : Int32) (bh : Int32) (km : Int32) (mo : Nat → Int32) (mk : Nat → Int32) (p0 : Int32) (p1 : Int32) (p2 : Int32) (hrc : ro * co ≤ 48) (hco : co ≤ 6) (hro : ro ≤ 8) (hc0 : 0 < co) : Ci l D cI cE yX9_bridge cX9_bridge 8 (some .int) 2 0 0 [.ref q0, .int p0, .int p1, .int p2] [(q0, .inr (9, [.int (nI ro), .int (nI co), .int sl, .ref q3, .ref q4, .int sn, .ref q6, .ref q7, .ref q8, .ref q9, .int ts, .int ra, .int rr, .int rw, .ref q14, .ref q15, .int rn, .ref q17, .ref q18, .ref q19, .int um, .int bs, .int bh, .ref q23, .ref q24, .ref q25, .int km])), (q4, .inl (cI, 48, .inl mo)), (q23, .inl (cI, 48, .inl mk))] (fun (r : Int32) (u : (Nat → Int32)) => ((True))) (fun (u : (Nat → Int32)) => ([(q0, .inr (9, [.int (nI ro), .int (nI co), .int sl, .ref q3, .ref q4, .int sn, .ref q6, .ref q7, .ref q8, .ref q9, .int ts, .int ra, .int rr, .int rw, .ref q14, .ref q15, .int rn, .ref q17, .ref q18, .ref q19, .int um, .int bs, .int bh, .ref q23, .ref q24, .ref q25, .int km])), (q4, .inl (cI, 48, .inl mo)), (q23, .inl (cI, 48, .inl u))] : va_W)) :=
  Ci.of (by decide) (Nat.le_of_ble_eq_true rfl) (fun _ _ _ => rfl) (fun X h hR => w_X9_bridge X h q0 q3 q4 q6 q7 q8 q9 q14 q15 q17 q18 q19 q23 q24 q25 ro co sl sn ts ra rr rw rn um bs bh km mo mk p0 p1 p2 hrc hco hro hc0 hR)
theorem yv_X9_bridge : YV yX9_bridge cX9_bridge 8 (some .int) 3 := ⟨no_X9_bridge, nv_X9_bridge, ni_X9, nk_X9_bridge, by decide +kernel⟩
