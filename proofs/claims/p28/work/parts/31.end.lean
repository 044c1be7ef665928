-- ===== end of PART A; then your names; then what follows =====
/-! THE CLAIM OUT OF ONE WALK OF THE LAW'S BODY. Your part is whole_start (and what it stands on); all else here is the same for every law, but numbers. -/
def R_law : String := "EstateSlopesLaw"
def lw_P (b : Addr) (xs : List Int32) (args : Array Value) (s : State) : Prop := args = #[.ref b] ∧ s.IntsAt b xs ∧ xs.length ≤ 384 ∧ (Jvm.Cond.and given_1 narrow_1).before args s = true
def lw_Q (_ : Array Value) (s : State) (o : Outcome) (t : State) : Prop := o = .returned (some (.int 1)) ∧ Framed s o t [] 600000 7302250
def lw_Z (below : List Frame) (a : Array Value) (s : State) : State → Prop := fun t => ∃ o, t.status = .running ∧ Ended t below o ∧ lw_Q a s o t
/-- the law's own end, with 1 on the stack, nothing written that was there before, its room as the claim has it -/
theorem lw_ret {p : Program} {l : Launch} {e : Env} {s : State} {m : MethodId} {below : List Frame} {meth : Method} {c : Code} {b : Nat} (hx : p.tables.exec = Jvm.exec) (hb : c.code = code) (hr : meth.sig.returnType = ret) (hlocks : meth.locks = false) {pc : Nat} {H : Heap} {ls : Array Slot} (hdg : decode code pc = .ok (.ireturn, 1)) : W p l e room_1 s m #[Value.ref b] below meth c H [] 600000 7302250 (lw_Z below #[Value.ref b] s) (F0 m pc ls [.int 1]) := by
  intro T hT X
  obtain ⟨fs, hret, hrun, hended, hW, hframe⟩ := X.leave (v := some (.int 1)) (hlocks := hlocks) (fun h => by rw [hr] at h; cases h)
  have hmeth' : T.vm.method? m = some meth := X.method'
  refine ⟨T.setFrames fs, ?_, .returned (some (.int 1)), hrun, hended, rfl, ⟨_, rfl⟩, hW, hframe⟩
  jvm_step X.here [X.here.top, hx, hb, hdg, hmeth', hr, ret, narrow_b1]
  (try refine ⟨rfl, ?_⟩); (try refine ⟨rfl, ?_⟩)
  first | (intro acts; rw [hret _ acts rfl rfl rfl]) | rw [hret _ _ rfl rfl rfl]
  exact Steps.refl _
/-- what holds at the law's entry: the machine, the code, the tables' words (any of lw_tbl by 'hts w (by decide +kernel)'), the script of L ints xs at the cell b, what the Statement gives of the start (any of its parts by flat_of_before) -/
def lw_At (p : Program) (s : State) (m : MethodId) (meth : Method) (c : Code) (b L : Nat) (xs : Nat → Int32) : Prop :=
  p.tables.exec = Jvm.exec ∧ c.code = code ∧ meth.sig.returnType = ret ∧ c.maxLocals = 4 ∧ s.vm.findClass R_law = some m.cls ∧ (∀ w ∈ lw_tbl, w.before #[Value.ref b] s = true) ∧ va_X b L xs s s.heap ∧ b < s.heap.size ∧ meth.locks = false ∧ (Jvm.Cond.and given_1 narrow_1).before #[Value.ref b] s = true
theorem iv_0 : IV (tbI 63) 0 th0X ow0X 4 6 (fun _ _ => nI 0) (fun _ _ => nI 0) (fun _ => nI 0) (fun _ => nI 0) 0 0 (fun _ _ => nI 0) (fun _ _ => nI 0) (fun _ => nI 0) (fun _ => nI 0) 0 0 (fun _ => 0) (fun _ => 0) (fun _ => 0) 0 (fun _ => 0) 0 th0M mo0M 4 6 z0F 0 z0F 0 (fun _ => 0) (fun _ => 0) (fun _ => 0) 0 := by
  refine ⟨⟨rfl, rfl, rfl, rfl, rfl, rfl, rfl, rfl, rfl⟩, ⟨tbI_le 63, fun _ => Nat.zero_le _, fun j hj => absurd hj (Nat.not_lt_zero j), Nat.zero_le _⟩, ⟨by decide, by decide, by decide, by decide, by decide⟩, rel0, ⟨by decide, by decide, ring_0 _ _ _ _ _ _ _ _ _⟩, ⟨by decide, by decide, ring_0 _ _ _ _ _ _ _ _ _⟩, by decide, fun i hi => absurd hi (Nat.not_lt_zero i)⟩
theorem ks_0 {s : State} {b : Nat} {A : Nat → Prop} (hts : ∀ w ∈ lw_tbl, w.before #[Value.ref b] s = true) (hgv : (Jvm.Cond.and given_1 narrow_1).before #[Value.ref b] s = true) (hA : ∀ a : Nat, a < s.heap.size → ¬ A a) : ∃ k v : Nat → Nat, KS k v A s := by
  have hs := flat_of_before _ hgv
  have hel : ∀ j : Nat, j < 63 → Cond.eq (.elem (.field (.string "EstateSlopes" 73) "java/lang/String" "value" "[B") (.int (Int32.ofNat j))) (.int (tb0.getD j 0)) ∈ flatC (Jvm.Cond.and given_1 narrow_1) := by decide +kernel
  obtain ⟨k, v, hS, hR⟩ := vk_Sof (args := #[Value.ref b]) (s := s) (N := 1) (tm := fun _ => .string "EstateSlopes" 73) (len := [63]) (byt := [tb0]) (A := A)
    (fun i hi => by rw [show i = 0 by omega]; decide)
    (fun i hi => hs _ (by decide +kernel)) (fun i hi => hs _ (by decide +kernel)) (fun i hi => hs _ (by decide +kernel))
    (fun i hi => by rw [show i = 0 by omega]; exact hs _ (by decide +kernel))
    (fun i hi j hj => by
      have e : i = 0 := by omega
      subst e
      exact hs _ (hel j hj))
    (fun i j hi hj hne => absurd (by omega) hne) hA
  refine ⟨k, v, va_AO.of (hts _ nw_ao), vk_R.of (hts _ nw_sr) (hR 0 (by decide)), hS, ?_, ?_⟩
  · exact va_Zof (hts _ nw_lc) (hts _ ni_J0) (va_eqt (hs _ (by decide +kernel))) hA
  · exact va_Zqof (hts _ nw_lf) (hts _ ni_J3) (hs _ (by decide +kernel)) hA
theorem vk_0 {s : State} {b : Nat} (hts : ∀ w ∈ lw_tbl, w.before #[Value.ref b] s = true) : ∃ (D : va_G) (cI cE : ClassId), va_K D vwCl (tyl cI cE) s := by
  obtain ⟨c0, i0, hK0⟩ := u_known (C := RX0) (T := TX0) (N := 5) (n := 5) hts inX0 (hts _ nn_X0)
  obtain ⟨c1, i1, hK1⟩ := u_known (C := RX1) (T := TX1) (N := 3) (n := 3) hts inX1 (hts _ nn_X1)
  obtain ⟨c2, i2, hK2⟩ := u_known (C := RX2) (T := TX2) (N := 4) (n := 4) hts inX2 (hts _ nn_X2)
  obtain ⟨c3, i3, hK3⟩ := u_known (C := RX3) (T := TX3) (N := 4) (n := 4) hts inX3 (hts _ nn_X3)
  obtain ⟨c4, i4, hK4⟩ := u_known (C := RX4) (T := TX4) (N := 2) (n := 2) hts inX4 (hts _ nn_X4)
  obtain ⟨c5, i5, hK5⟩ := u_known (C := RX5) (T := TX5) (N := 3) (n := 3) hts inX5 (hts _ nn_X5)
  obtain ⟨c6, i6, hK6⟩ := u_known (C := RX6) (T := TX6) (N := 4) (n := 4) hts inX6 (hts _ nn_X6)
  obtain ⟨c7, i7, hK7⟩ := u_known (C := RX7) (T := TX7) (N := 2) (n := 2) hts inX7 (hts _ nn_X7)
  obtain ⟨c8, i8, hK8⟩ := u_known (C := RX8) (T := TX8) (N := 10) (n := 10) hts inX8 (hts _ nn_X8)
  obtain ⟨c9, i9, hK9⟩ := u_known (C := RX9) (T := TX9) (N := 27) (n := 27) hts inX9 (hts _ nn_X9)
  obtain ⟨cI, kI, pI, a1, a2, a3⟩ := Cond.arrayClass_spec (hts _ nw_arrI)
  obtain ⟨pE, cE, kE, b1, b2, b3, b4, b5⟩ := Cond.arrayOver_spec (hts _ nw_ao)
  refine ⟨(fun k => if k = 0 then c0 else if k = 1 then c1 else if k = 2 then c2 else if k = 3 then c3 else if k = 4 then c4 else if k = 5 then c5 else if k = 6 then c6 else if k = 7 then c7 else if k = 8 then c8 else c9, fun k => if k = 0 then i0 else if k = 1 then i1 else if k = 2 then i2 else if k = 3 then i3 else if k = 4 then i4 else if k = 5 then i5 else if k = 6 then i6 else if k = 7 then i7 else if k = 8 then i8 else i9), cI, cE, ?_, ?_⟩
  · intro k q hq
    match k, hq with
    | 0, hq => cases hq; exact hK0
    | 1, hq => cases hq; exact hK1
    | 2, hq => cases hq; exact hK2
    | 3, hq => cases hq; exact hK3
    | 4, hq => cases hq; exact hK4
    | 5, hq => cases hq; exact hK5
    | 6, hq => cases hq; exact hK6
    | 7, hq => cases hq; exact hK7
    | 8, hq => cases hq; exact hK8
    | 9, hq => cases hq; exact hK9
    | k + 10, hq => simp [vwCl] at hq
  · intro k q hq
    match k, hq with
    | 0, hq => cases hq; exact ⟨fun n z => ⟨fun k h => (by cases h), kI, a2, pI, a3⟩, a1⟩
    | 1, hq => cases hq; exact ⟨fun n z => ⟨fun k h => (by cases h), kE, b3, pE, b4⟩, kE, pE, b3, b4, b1, b5⟩
    | k + 2, hq => simp [tyl] at hq
set_option maxRecDepth 100000 in
set_option maxHeartbeats 8000000 in
/-- YOUR PART: from the entry, for every script of at most 384 ints, the law comes to its end with true ('hflags': the launch's flags, for a law that throws: no stack traces) -/
theorem whole_start {p : Program} {e : Env} {s : State} {m : MethodId} {below : List Frame} {meth : Method} {c : Code} (l : Launch) (hflags : l.flags = flags0) {b L : Nat} {xs : Nat → Int32} (hL : L ≤ 384) (C0 : lw_At p s m meth c b L xs) : W p l e room_1 s m #[Value.ref b] below meth c s.heap [] 0 0 (lw_Z below #[Value.ref b] s) (entryFrame m ([Value.ref b] : List Value).toArray 4) := by
  obtain ⟨hx, hb, hr, hml, hown, hts, hX, hbl, hlocks, hgv⟩ := id C0
  have hbA : ¬ (fun q : Nat => s.heap.size ≤ q) b := Nat.not_le.mpr hbl
  obtain ⟨D, cI, cE, hK⟩ := vk_0 hts
  obtain ⟨kS, vS, hk⟩ := ks_0 (A := fun q : Nat => s.heap.size ≤ q) hts hgv (fun a h1 h2 => by omega)
  obtain ⟨X, eX⟩ : ∃ X : Cx, X = (p, l, e, room_1, s, m, #[Value.ref b], below, meth, c, lw_Z below #[Value.ref b] s, D, fun q : Nat => s.heap.size ≤ q) := ⟨_, rfl⟩
  have hOk : Ok X cL_law RL 4 cI cE 9 72 3197 := by
    rw [eX]
    exact ⟨⟨hx, hb, hml, hown, fun w hw => hts w (List.mem_filter.mp hw).1⟩, hK, fun q hq => hq, Nat.le_of_ble_eq_true rfl, Nat.le_of_ble_eq_true rfl, Nat.le_of_ble_eq_true rfl, Nat.le_of_ble_eq_true rfl, NW.of hts⟩
  have hkX : KS kS vS (xA X) (xS0 X) := by rw [eX]; exact hk
  have hXX : va_X b L xs (xS0 X) (xS0 X).heap := by rw [eX]; exact hX
  have hblX : b < (xS0 X).heap.size := by rw [eX]; exact hbl
  have hbAX : ¬ xA X b := by rw [eX]; exact hbA
  have hend : ∀ (pc : Nat) (lv : Lv) (ws : va_W), decode cL_law pc = .ok (.ireturn, 1) → J X 4 72 3197 pc lv [.int (nI 1)] ws := by
    intro pc lv ws dd
    rw [eX]
    intro H locs ls hP hD hS hl
    refine va_forget (fun q hq => hS.2.2 q hq) (W.widen (k := 600000) (n := 7302250) (Nat.le_of_ble_eq_true rfl) (Nat.le_of_ble_eq_true rfl) ?_)
    exact lw_ret hx hb hr hlocks dd
  have main : J X 4 0 0 0 [(0, .ref b)] [] [] := by
    have h := hOk
    clear eX
    refine J_new h (ci := 8) (fs := [.null, .null, .null, .null, .null, .null, .null, .null, .null, .null]) inX8 tyX8 tyX8_ok rfl nc_L_7 nn_X8 ni_X8 (fun j hj => by rcases (show j = 0 ∨ j = 1 ∨ j = 2 ∨ j = 3 ∨ j = 4 ∨ j = 5 ∨ j = 6 ∨ j = 7 ∨ j = 8 ∨ j = 9 by omega) with rfl | rfl | rfl | rfl | rfl | rfl | rfl | rfl | rfl | rfl <;> rfl) (Nat.le_of_ble_eq_true rfl) (Nat.le_of_ble_eq_true rfl) dL_law_0 (fun z0 => ?_)
    show J X 4 1 10 3 [(0, .ref b)] [.ref z0] [(z0, .inr (8, [.null, .null, .null, .null, .null, .null, .null, .null, .null, .null]))]
    refine J_dup h dL_law_3 rfl ?_
    refine K_kv h hkX (wr := []) (As := []) (rest := [.ref z0]) (c_X8_init kS vS (xl X) (xD X) cI cE z0) yv_X8_init nm_L_9 (by decide) (by decide) rfl rfl rfl (Nat.le_of_ble_eq_true rfl) (Nat.le_of_ble_eq_true rfl) (Nat.le_of_ble_eq_true rfl) dL_law_4 (fun u _ => ?_)
    obtain ⟨g0, a0, f0, s0, k0, v0, d0, y0, m0, o0, g1, a1, a2, f1, f2, s1, eA, tA, oA, k1, eK, tK, oK, v1, v2, v3, d1, d2, m1, m2, o1, o2⟩ := u
    show J X 4 57 1629 7 [(0, .ref b)] [.ref z0] (WX cI cE z0 g0 a0 f0 s0 k0 v0 d0 y0 m0 o0 g1 a1 a2 f1 f2 s1 eA tA oA k1 eK tK oK v1 v2 v3 d1 d2 m1 m2 o1 o2 (tbI 63) 0 th0X ow0X 4 6 (nI 0) th0X ow0X (nI 4) (nI 6) (nI 0) (fun _ _ => nI 0) (fun _ _ => nI 0) (fun _ => nI 0) (fun _ => nI 0) (fun _ => nI 0) 0 0 (fun _ _ => nI 0) (fun _ _ => nI 0) (fun _ => nI 0) (fun _ => nI 0) (fun _ => nI 0) 0 0 (fun _ => 0) (fun _ => 0) (fun _ => 0) 0 z0F z0F (nI 0) (nI 99) (-4) (nI 0) z0F z0F (nI 0) z0F z0F (nI 0) (nI 1))
    refine J_astore_n h (i := 1) (lv' := [(1, .ref z0), (0, .ref b)]) dL_law_7 rfl (by decide) rfl ?_
    refine J_new h (ci := 9) (fs := [.int (nI 0), .int (nI 0), .int (nI 0), .null, .null, .int (nI 0), .null, .null, .null, .null, .int (nI 0), .int (nI 0), .int (nI 0), .int (nI 0), .null, .null, .int (nI 0), .null, .null, .null, .int (nI 0), .int (nI 0), .int (nI 0), .null, .null, .null, .int (nI 0)]) inX9 tyX9 tyX9_ok rfl nc_L_10 nn_X9 ni_X9 (fun j hj => by rcases (show j = 0 ∨ j = 1 ∨ j = 2 ∨ j = 3 ∨ j = 4 ∨ j = 5 ∨ j = 6 ∨ j = 7 ∨ j = 8 ∨ j = 9 ∨ j = 10 ∨ j = 11 ∨ j = 12 ∨ j = 13 ∨ j = 14 ∨ j = 15 ∨ j = 16 ∨ j = 17 ∨ j = 18 ∨ j = 19 ∨ j = 20 ∨ j = 21 ∨ j = 22 ∨ j = 23 ∨ j = 24 ∨ j = 25 ∨ j = 26 by omega) with rfl | rfl | rfl | rfl | rfl | rfl | rfl | rfl | rfl | rfl | rfl | rfl | rfl | rfl | rfl | rfl | rfl | rfl | rfl | rfl | rfl | rfl | rfl | rfl | rfl | rfl | rfl <;> rfl) (Nat.le_of_ble_eq_true rfl) (Nat.le_of_ble_eq_true rfl) dL_law_8 (fun q0 => ?_)
    refine J_dup h dL_law_11 rfl ?_
    refine J.swp ?_
    refine K_iv h (wr := WX cI cE z0 g0 a0 f0 s0 k0 v0 d0 y0 m0 o0 g1 a1 a2 f1 f2 s1 eA tA oA k1 eK tK oK v1 v2 v3 d1 d2 m1 m2 o1 o2 (tbI 63) 0 th0X ow0X 4 6 (nI 0) th0X ow0X (nI 4) (nI 6) (nI 0) (fun _ _ => nI 0) (fun _ _ => nI 0) (fun _ => nI 0) (fun _ => nI 0) (fun _ => nI 0) 0 0 (fun _ _ => nI 0) (fun _ _ => nI 0) (fun _ => nI 0) (fun _ => nI 0) (fun _ => nI 0) 0 0 (fun _ => 0) (fun _ => 0) (fun _ => 0) 0 z0F z0F (nI 0) (nI 99) (-4) (nI 0) z0F z0F (nI 0) z0F z0F (nI 0) (nI 1)) (As := []) (rest := [.ref q0]) (c_X9_init (xl X) (xD X) cI cE q0) yv_X9_init nm_L_12 (by decide) (by decide) rfl rfl rfl (Nat.le_of_ble_eq_true rfl) (Nat.le_of_ble_eq_true rfl) (Nat.le_of_ble_eq_true rfl) dL_law_12 (fun u _ => ?_)
    obtain ⟨q3, q4, q6, q7, q8, q9, q14, q15, q17, q18, q19, q23, q24, q25⟩ := u
    show J X 4 72 3197 15 [(1, .ref z0), (0, .ref b)] [.ref q0] (WM cI q0 q3 q4 q6 q7 q8 q9 q14 q15 q17 q18 q19 q23 q24 q25 6 4 (nI 0) 0 0 (nI 0) (nI 0) (nI 0) (nI 0) 0 (nI 0) (nI 0) 0 th0M mo0M (fun _ => 0) (fun _ => 0) (fun _ => 0) (fun _ => 0) z0F z0F z0F z0F z0F z0F z0F z0F ++ WX cI cE z0 g0 a0 f0 s0 k0 v0 d0 y0 m0 o0 g1 a1 a2 f1 f2 s1 eA tA oA k1 eK tK oK v1 v2 v3 d1 d2 m1 m2 o1 o2 (tbI 63) 0 th0X ow0X 4 6 (nI 0) th0X ow0X (nI 4) (nI 6) (nI 0) (fun _ _ => nI 0) (fun _ _ => nI 0) (fun _ => nI 0) (fun _ => nI 0) (fun _ => nI 0) 0 0 (fun _ _ => nI 0) (fun _ _ => nI 0) (fun _ => nI 0) (fun _ => nI 0) (fun _ => nI 0) 0 0 (fun _ => 0) (fun _ => 0) (fun _ => 0) 0 z0F z0F (nI 0) (nI 99) (-4) (nI 0) z0F z0F (nI 0) z0F z0F (nI 0) (nI 1))
    refine J.swp ?_
    refine J_astore_n h (i := 2) (lv' := [(2, .ref q0), (1, .ref z0), (0, .ref b)]) dL_law_15 rfl (by decide) rfl ?_
    refine J_iconst h (v := nI 0) dL_law_16 (by decide) ?_
    refine J_istore_n h (i := 3) (lv' := [(3, .int (nI 0)), (2, .ref q0), (1, .ref z0), (0, .ref b)]) dL_law_17 rfl (by decide) rfl ?_
    refine J.loc [3, 2, 1, 0] (lv' := [(0, .ref b), (1, .ref z0), (2, .ref q0), (3, .int (nI 0))]) rfl ?_
    exact law_loop X h hXX hblX hbAX hL hend (L + 8) 0 iv_0 (fun _ => rfl) (Nat.zero_le _) (by omega)
  rw [eX] at main
  rw [lg_entry_eq]
  exact main s.heap [] _ (fun k q h => by simp at h) ⟨fun i j p q h => by simp at h, fun k q h => by simp at h⟩ va_S.rf (lv_entry [.ref b] (n := 4) (Nat.le_of_ble_eq_true rfl))
set_option maxHeartbeats 4000000 in
theorem lw_walk (l : Launch) (hflags : l.flags = flags0) (b : Addr) (xs : List Int32) : MetFree l x (headSpec (Jvm.Cond.code x code maxLocals ret :: tables_1) room_1) (lw_P b xs) (fun _ _ _ _ _ => True) lw_Q := by
  refine MetFree.of_bodyS (code := code) (maxLocals := maxLocals) (ret := ret) (by decide) ?_ ?_
  · intro args s m h hn
    obtain ⟨meth, c, h1, h2, h3, h4, h5, h6, -, -⟩ := Cond.code_spec hn (atoms_spec (ws := Jvm.Cond.code x code maxLocals ret :: tables_1) h _ List.mem_cons_self)
    exact ⟨meth, c, h1, h2, h3, h4, h5, h6⟩
  · intro p e s m args below meth c s₁ B hml0 hP _
    obtain ⟨rfl, hx, hbd, hgv⟩ := hP
    obtain ⟨scr, harrAt, hlist, hof, hsmall⟩ := hx
    obtain ⟨hcb, hkn, -, -⟩ := State.arrayAt?_spec harrAt
    have hown : s.vm.findClass R_law = some m.cls := findClass_of_methodNamed B.named
    have hts0 : ∀ c ∈ (Jvm.Cond.code x code maxLocals ret :: tables_1), c.before #[Value.ref b] s = true := atoms_spec (ws := Jvm.Cond.code x code maxLocals ret :: tables_1) B.pre
    have hts : ∀ w ∈ lw_tbl, w.before #[Value.ref b] s = true := k2_hts_sels lw_privs (fun w hw => hts0 w (List.mem_cons_of_mem _ hw)) lw_privs_ok
    have hml : c.maxLocals = 4 := B.maxLocals_eq (hts0 _ List.mem_cons_self)
    have X₀ : Stand p l e room_1 s m #[Value.ref b] below meth c s₁ [] 0 0 := Stand.of_body B
    have hh0 : s₁.heap = s.heap := by rw [B.state]; rfl
    have hsz : scr.slots.size = xs.length := by rw [← Array.length_toList, hlist, List.length_map]
    have hval : ∀ j : Nat, j < xs.length → scr.slots[j]? = some (.int (xs.getD j 0)) := fun j hj => by
      rw [← Array.getElem?_toList, hlist]
      simp [hj]
    have hbl : b < s.heap.size := (Array.getElem?_eq_some_iff.mp hcb).1
    have hX : va_X b xs.length (fun j => xs.getD j 0) s s.heap := ⟨scr, hcb, hof, hkn, hsz, hval⟩
    have K : W p l e room_1 s m #[Value.ref b] below meth c s₁.heap [] 0 0 (lw_Z below #[Value.ref b] s) (entryFrame m ([Value.ref b] : List Value).toArray 4) := by
      rw [hh0]
      exact whole_start l hflags hbd ⟨B.exec, B.bytes, B.returns, hml, hown, hts, hX, hbl, B.notSynchronized, hgv⟩
    obtain ⟨t, a1, o, b1, b2, b3⟩ := K s₁ rfl X₀
    exact ⟨t, o, a1, b1, b2, b3⟩
theorem lw_pre_spec {args : Array Value} {s : State} (h : (Jvm.Cond.and given_1 narrow_1).before args s = true) (hr : rest_1_c.before args s = true) : ∃ (b : Addr) (xs : List Int32), lw_P b xs args s := by
  have hs := flat_of_before _ h
  have hq := flat_of_before _ hr
  have hc : (Cond.count 1).before args s = true := hs _ (by decide +kernel)
  have harr : (Cond.arrayOf (.arg 0) .int).before args s = true := hs _ (by decide +kernel)
  have hle : (Cond.le (.length (.arg 0)) (.int 384)).before args s = true := hs _ (by decide +kernel)
  have hlen : (Cond.isInt (.length (.arg 0))).before args s = true := hq _ (by decide +kernel)
  have hall : (Cond.all (.arg 0) (.isInt (.elem (.arg 0) (.index 0)))).before args s = true := hq _ (by decide +kernel)
  obtain ⟨b, xs, hb, hx⟩ := State.ints_of_pre rfl harr hlen hall
  have hsm : xs.length < 2 ^ 31 := hx.choose_spec.2.2.2
  have hev : (Term.length (.arg 0)).eval args s none [] s = some (.int xs.length.toInt32) := hx.length_eval hb
  have hv := Cond.le_ints hev (show (Term.int 384).eval args s none [] s = some (.int 384) from rfl)
  have hd : xs.length.toInt32 ≤ 384 := by
    simpa [Cond.before, Cond.holds, hv] using hle
  have hN : xs.length ≤ 384 := (Int32.ofNat_le_ofNat hsm (by decide)).mp (show Int32.ofNat xs.length ≤ Int32.ofNat 384 from hd)
  exact ⟨b, xs, Cond.one_arg hc (show args[0]? = some (.ref b) from hb), hx, hN, h⟩
theorem lw_comes (l : Launch) (hflags : l.flags = flags0) : Comes l x (Jvm.Cond.code x code maxLocals ret :: tables_1) room_1 (fun tb e args s => Calls_1 tb e args s ∧ rest_1 tb e args s ∧ Pre_1 tb e args s)
    (fun _ _ args s o t => lw_Q args s o t) := by
  intro p e ha hc hk s m args below hf hfit hheap happ hpre
  obtain ⟨b, xs, hP⟩ := lw_pre_spec hpre.2.2 hpre.2.1
  obtain ⟨k, o, h1, h2, h3, hQ⟩ := lw_walk l hflags b xs p e ha hc hk s m args below hf ((Spec.applies_iff_loose hf).mp happ).1 hP trivial
  exact ⟨k, o, h1, h2, h3, hQ⟩
theorem lw_frame {s t : State} {o : Outcome} {args : Array Value} (h : Framed s o t [] 600000 7302250) :
    Framed s o t (fieldLocs frame_1_writes args s ++ arrayLocs frame_1_arrays args s ++ staticLocs frame_1_statics s) 600000 7302250 := h
theorem lw_limb (L : Cond) (hL : ∀ (args : Array Value) (s t : State), L.after args s (.returned (some (.int 1))) t = true) :
    ArmFor flags0 classFile x code maxLocals ret World_1 tables_1 room_1 Calls_1 rest_1 Pre_1
      (fun tb e a s o t => postC L tb e a s o t ∧ Framed s o t (fieldLocs frame_1_writes a s ++ arrayLocs frame_1_arrays a s ++ staticLocs frame_1_statics s) 600000 7302250) := by
  intro l hflags _ _ p e ha hc hk s m args below hf hfit hheap happ hpre
  obtain ⟨k, o, h1, h2, h3, rfl, hF⟩ := lw_comes l hflags p e ha hc hk s m args below hf hfit hheap happ hpre
  exact ⟨k, _, h1, h2, h3, hL args s _, lw_frame hF⟩
theorem i_vc : Claimed_1_1 ∧ Claimed_1_2 := ⟨lw_limb limb_1_1 (fun args s t => by simp [limb_1_1, Cond.after, Cond.holds, Cond.value]), lw_limb limb_1_2 (fun args s t => Cond.after_iff.mpr (by
  first | (rw [show limb_1_2 = Cond.eq .result (.int 1) from rfl, Cond.eq_ints (x := 1) (y := 1) rfl rfl]; simp; done) | (simp [limb_1_2, Cond.value, Term.eval]; done)))⟩
