/-! MAKING CELLS; the text constant; constructors -/
abbrev tx0 : String := "\x720010;r0103;r1002;r0310;r2001;r0000;o0,0;o5,0;o13,1;o23,2;o9,1;"
def tbL : List Nat := [114, 48, 48, 49, 48, 59, 114, 48, 49, 48, 51, 59, 114, 49, 48, 48, 50, 59, 114, 48, 51, 49, 48, 59, 114, 50, 48, 48, 49, 59, 114, 48, 48, 48, 48, 59, 111, 48, 44, 48, 59, 111, 53, 44, 48, 59, 111, 49, 51, 44, 49, 59, 111, 50, 51, 44, 50, 59, 111, 57, 44, 49, 59]
def tbN (j : Nat) : Nat := tbL.getD j 0
def tb0 : List Int32 := tbL.map nI
/-- what the constant objects are: the text, the flag of String, the row class of estates -/
def KS (k v : Nat → Nat) (A : Nat → Prop) (U : State) : Prop := va_AO RX0 U ∧ vk_R RX8 73 tx0 (k 0) U ∧ vk_S 1 [63] [tb0] k v A U U.heap ∧ va_Z RJ0 "COMPACT_STRINGS" "Z" (.int 1) A U U.heap ∧ va_Zq RJ3 "SIOOBE_FORMATTER" "Ljava/util/function/BiFunction;" A U U.heap
theorem KS.go {k v : Nat → Nat} {A B : Nat → Prop} {s U : State} {H : Heap} {locs : List Loc} (h : KS k v A s) (hS : va_S A s.heap H locs) (hF : ∀ q, B q → A q) (hU : U.heap = H) (hW : s.WarmedH U.vm) : KS k v B U := by
  obtain ⟨h1, h2, h3, h4, h5⟩ := h
  refine ⟨h1.moved hW.alike, h2.warm hW, ?_, ?_, ?_⟩
  · rw [hU]; exact ((h3.kept hS.2.1).narrow hF).moved hW.alike
  · rw [hU]; exact ((h4.kept hS.2.1).narrow hF).moved hW.alike
  · rw [hU]; exact ((h5.kept hS.2.1).narrow hF).moved hW.alike
theorem KS.same {k v : Nat → Nat} {A : Nat → Prop} {s U : State} (hv : U.vm = s.vm) (hh : U.heap = s.heap) (h : KS k v A s) : KS k v A U := by
  obtain ⟨h1, h2, h3, h4, h5⟩ := h
  have hal : s.vm.Alike U.vm := by rw [hv]; exact Vm.Alike.refl s.vm
  exact ⟨h1.moved hal, h2.same hv, by rw [hh]; exact h3.moved hal, by rw [hh]; exact h4.moved hal, by rw [hh]; exact h5.moved hal⟩
def PcK (k v : Nat → Nat) (D : va_G) (cI cE : ClassId) (av : List Value) (ws : va_W) (sz : Nat) : Array Value → State → Prop :=
  va_Pc av (fun U => (U.heap.size = sz ∧ va_P D vwCl ws U.heap ∧ va_K D vwCl (tyl cI cE) U ∧ va_D (fun _ => True) ws ∧ NW U) ∧ KS k v (va_A ws sz) U)
theorem PcK.blind {k v : Nat → Nat} {D : va_G} {cI cE : ClassId} {av : List Value} {ws : va_W} {sz : Nat} : FrameBlind (PcK k v D cI cE av ws sz) := fun a U g mk q => by
  obtain ⟨q0, ⟨q1, qP, qK, qD, qN⟩, qS⟩ := q
  exact ⟨q0, ⟨q1, qP, va_K.moved (u := U) (U := U.calling g mk a) (Vm.Alike.refl U.vm) qK, qD, NW.same (s := U) (U := U.calling g mk a) rfl qN⟩, KS.same (s := U) (U := U.calling g mk a) rfl rfl qS⟩
def CvK (k v : Nat → Nat) (l : Launch) (D : va_G) (cI cE : ClassId) (y : MethodName) (cc : ByteArray) (maxL : Nat) (ret : Option FieldType) (d mc ms : Nat) (av : List Value) (ws : va_W) {S : Type} (post : S → Prop) (w' : S → va_W) : Prop :=
  ∀ sz : Nat, Met l y (wq y cc maxL ret) (rmd d mc ms) (PcK k v D cI cE av ws sz) (va_Qv post (fun u t => AtW D cI cE (va_A ws sz) (w' u) t) (va_A ws sz)) mc ms (va_A ws sz)
def CiK (k v : Nat → Nat) (l : Launch) (D : va_G) (cI cE : ClassId) (y : MethodName) (cc : ByteArray) (maxL : Nat) (ret : Option FieldType) (d mc ms : Nat) (av : List Value) (ws : va_W) {S : Type} (post : Int32 → S → Prop) (w' : S → va_W) : Prop :=
  ∀ sz : Nat, Met l y (wq y cc maxL ret) (rmd d mc ms) (PcK k v D cI cE av ws sz) (va_Qi post (fun u t => AtW D cI cE (va_A ws sz) (w' u) t) (va_A ws sz)) mc ms (va_A ws sz)
section COK
variable {k v : Nat → Nat} {l : Launch} {D : va_G} {cI cE : ClassId} {y : MethodName} {cc : ByteArray} {maxL : Nat} {d mc ms : Nat} {av : List Value} {ws : va_W} {S : Type}
theorem CiK.of {post : Int32 → S → Prop} {w' : S → va_W} {ty : FieldType} (hy : plainName y.cls = true) (hlen : (lg_sl av).length ≤ maxL) (hn : ∀ r u, post r u → narrow ty (.int r) = .int r)
    (body : ∀ X : Cx, Ok X cc y.cls maxL cI cE d mc ms → KS k v (xA X) (xs X) → (∀ r u, post r u → RetI X cc maxL mc ms r (w' u)) → J X maxL 0 0 0 (lv_args 0 av) [] ws) : CiK k v l D cI cE y cc maxL (some ty) d mc ms av ws post w' := by
  intro sz
  refine Met.ofW (cc := cc) (maxL := maxL) (ret := some ty) hy rfl ?_
  intro p e s m args below meth c s₁ B hml hv
  obtain ⟨rfl, ⟨hsz, hP, hK, hD0, hNW⟩, hKS⟩ := hv
  have hts := atoms_spec (ws := wq y cc maxL (some ty)) B.pre
  have hlocks := B.notSynchronized
  subst hsz
  have hb := body (p, l, e, rmd d mc ms, s, m, av.toArray, below, meth, c, MQ below (va_Qi post (fun u t => AtW D cI cE (va_A ws s.heap.size) (w' u) t) (va_A ws s.heap.size)) av.toArray s mc ms (va_A ws s.heap.size), D, va_A ws s.heap.size)
    ⟨⟨B.exec, B.bytes, hml, findClass_of_methodNamed B.named, fun w hw => hts w (List.mem_cons_of_mem _ hw)⟩, hK, fun q hq => Or.inr hq, Nat.le_refl _, Nat.le_refl _, Nat.le_refl _, Nat.le_refl _, hNW⟩ hKS
    (fun r u hp pc lv dd H locs ls hP1 hD1 hS1 hl1 => W.zret B.exec B.bytes B.returns (hn r u hp) (fun t ht hW => ⟨⟨r, u, rfl, hp, by rw [ht]; exact hP1, va_K.moved hW.alike hK, hD1⟩, hS1.F ht⟩) hS1.2.2 dd)
  rw [lg_entry_eq]
  exact hb s.heap [] _ hP hD0.self va_S.rf (lv_entry av hlen)
theorem CvK.of {post : S → Prop} {w' : S → va_W} (hy : plainName y.cls = true) (hlen : (lg_sl av).length ≤ maxL)
    (body : ∀ X : Cx, Ok X cc y.cls maxL cI cE d mc ms → KS k v (xA X) (xs X) → (∀ u, post u → RetV X cc maxL mc ms (w' u)) → (xM X).name = y.name → J X maxL 0 0 0 (lv_args 0 av) [] ws) : CvK k v l D cI cE y cc maxL none d mc ms av ws post w' := by
  intro sz
  refine Met.ofW (cc := cc) (maxL := maxL) (ret := none) hy rfl ?_
  intro p e s m args below meth c s₁ B hml hv
  obtain ⟨rfl, ⟨hsz, hP, hK, hD0, hNW⟩, hKS⟩ := hv
  have hts := atoms_spec (ws := wq y cc maxL none) B.pre
  have hlocks := B.notSynchronized
  subst hsz
  have hb := body (p, l, e, rmd d mc ms, s, m, av.toArray, below, meth, c, MQ below (va_Qv post (fun u t => AtW D cI cE (va_A ws s.heap.size) (w' u) t) (va_A ws s.heap.size)) av.toArray s mc ms (va_A ws s.heap.size), D, va_A ws s.heap.size)
    ⟨⟨B.exec, B.bytes, hml, findClass_of_methodNamed B.named, fun w hw => hts w (List.mem_cons_of_mem _ hw)⟩, hK, fun q hq => Or.inr hq, Nat.le_refl _, Nat.le_refl _, Nat.le_refl _, Nat.le_refl _, hNW⟩ hKS
    (fun u hp pc lv dd H locs ls hP1 hD1 hS1 hl1 => W.vret B.exec B.bytes B.returns (fun t ht hW => ⟨⟨u, rfl, hp, by rw [ht]; exact hP1, va_K.moved hW.alike hK, hD1⟩, hS1.F ht⟩) hS1.2.2 dd)
    (name_of_methodNamed B.named B.method).1
  rw [lg_entry_eq]
  exact hb s.heap [] _ hP hD0.self va_S.rf (lv_entry av hlen)
end COK
section JN
variable {X : Cx} {cc : ByteArray} {own : String} {nL d mc ms cs sl pc cs' sl' : Nat} {cI cE : ClassId} {lv lv' : Lv} {st rest : List Value} {ws ws' wr wc : va_W} {k v : Nat → Nat}
theorem J_wid (hc : cs ≤ cs') (hs : sl ≤ sl') (kk : J X nL cs' sl' pc lv st ws) : J X nL cs sl pc lv st ws := fun H locs ls hP hD hS hl => W.widen hc hs (kk H locs ls hP hD hS hl)
theorem J_objI (h : Ok X cc own nL cI cE d mc ms) (h1 : 1 ≤ d) {index x : Nat} (hw : Cond.methodLink own index objectInit ∈ lw_tbl) (hst : (st.map fun v => v.category).sum ≤ 8) (dd : decode cc pc = .ok (.invokespecial index, 3)) (kk : J X nL cs sl (pc + 3) lv st ws) : J X nL cs sl pc lv (.ref x :: st) ws :=
  fun H locs ls hP hD hS hl => W.objInit h.x h.b h.o (h.t _ hw) (h.t _ nw_obj1) (h.t _ nw_obj2) rfl (hl.1.trans h.n.symm) rfl dd (Nat.le_trans h1 h.2.2.2.1) (by have := h.2.2.2.2.1; show 2 * 0 + _ + 12 ≤ _; omega) (kk H locs ls hP hD hS hl)
theorem J_new (h : Ok X cc own nL cI cE d mc ms) {C : String} {T : u_T} {N ci index : Nat} {fs : List Value} (hin : ∀ w ∈ u_ws C T N, w ∈ lw_tbl) (ty0 : Nat → FieldType) (hty : ∀ k, k < N → parseFieldDescriptor (T k).2.2.1 = some (ty0 k)) (hc : vwCl[ci]? = some (C, T, N)) (hcl : Cond.classLink own index C ∈ lw_tbl) (hinst : Cond.instantiable C N ∈ lw_tbl) (hini : Cond.initialized C ∈ lw_tbl) (hfs : ∀ j, j < N → defaultValue (ty0 j) = vp_V fs j) (hcs : cs + 1 ≤ mc) (hsl : sl + N ≤ ms) (dd : decode cc pc = .ok (.new index, 3))
    (kk : ∀ q : Nat, J X nL (cs + 1) (sl + N) (pc + 3) lv (.ref q :: st) (ws ++ [(q, .inr (ci, fs))])) : J X nL cs sl pc lv st ws :=
  fun H locs ls hP hD hS hl => va_new h.x h.b h.g (lay_g hin) ty0 hty h.o (h.t _ hcl) (h.t _ hinst) (h.t _ hini) h.k hP hD hS h.2.2.1 hc hfs (Nat.le_trans hcs h.2.2.2.2.2.1) (Nat.le_trans hsl h.2.2.2.2.2.2.1) dd (fun q H1 hP1 hD1 hS1 => kk q H1 locs ls hP1 hD1 hS1 hl)
theorem J_newI (h : Ok X cc own nL cI cE d mc ms) {N : Nat} (hN : N < 1000) (hcs : cs + 1 ≤ mc) (hsl : sl + N ≤ ms) (dd : decode cc pc = .ok (.newarray .int, 2))
    (kk : ∀ q : Nat, J X nL (cs + 1) (sl + N) (pc + 2) lv (.ref q :: st) (ws ++ [(q, .inl (cI, N, .inl (fun _ => nI 0)))])) : J X nL cs sl pc lv (.int (nI N) :: st) ws := by
  intro H locs ls hP hD hS hl
  refine va_newa (atype := .int) (ty := .int) (N' := N) (a0 := (N, .inl (fun _ => nI 0))) h.x h.b (h.t _ nw_arrI) rfl h.k hP hD hS h.2.2.1 (fun cA => by rw [vp_cell_i]; rfl) (nI_pos (by omega)) (nI_clamp (by omega)) (by show N * 4 ≤ _; omega) (Nat.le_trans hcs h.2.2.2.2.2.1) (Nat.le_trans hsl h.2.2.2.2.2.2.1) dd (fun q cA H1 hK1 hP1 hD1 hS1 => ?_)
  have e1 : (xs X).vm.findClass ("[" ++ FieldType.int.toString) = some cA := (hK1.2 2 (cA, .int) rfl).2
  have e2 : (xs X).vm.findClass ("[" ++ FieldType.int.toString) = some cI := (h.k.2 0 (cI, .int) rfl).2
  have e : cA = cI := Option.some.inj (e1.symm.trans e2)
  subst e
  exact kk q H1 locs ls hP1 hD1 hS1 hl
theorem J_newE (h : Ok X cc own nL cI cE d mc ms) (hk : KS k v (xA X) (xs X)) {N index : Nat} (hN : N < 1000) (hcl : Cond.classLink own index RX0 ∈ lw_tbl) (hcs : cs + 1 ≤ mc) (hsl : sl + N ≤ ms) (dd : decode cc pc = .ok (.anewarray index, 3))
    (kk : ∀ q : Nat, J X nL (cs + 1) (sl + N) (pc + 3) lv (.ref q :: st) (ws ++ [(q, .inl (cE, N, .inr (.inr (.inr (.inr (fun _ => none))))))])) : J X nL cs sl pc lv (.int (nI N) :: st) ws := by
  intro H locs ls hP hD hS hl
  refine va_newq (N' := N) h.x h.b h.o (h.t _ hcl) hk.1 h.k hP hD hS h.2.2.1 (nI_pos (by omega)) (nI_clamp (by omega)) (by omega) (Nat.le_trans hcs h.2.2.2.2.2.1) (Nat.le_trans hsl h.2.2.2.2.2.2.1) dd (fun q cA H1 hK1 hP1 hD1 hS1 => ?_)
  obtain ⟨_, _, _, _, _, e1⟩ := (hK1.2 2 (cA, .object RX0) rfl).2
  obtain ⟨_, _, _, _, _, e2⟩ := (h.k.2 1 (cE, .object RX0) rfl).2
  have e : cA = cE := Option.some.inj (e1.symm.trans e2)
  subst e
  exact kk q H1 locs ls hP1 hD1 hS1 hl
/-- a part of the world put in another order, the rest as it is -/
theorem J.wlp (is : List Nat) (hn : va_nd is = true) (hs : is.map (fun i => ws[i]?) = ws'.map some) (kk : J X nL cs sl pc lv st (ws' ++ wr)) : J X nL cs sl pc lv st (ws ++ wr) := by
  intro H locs ls hP hD hS hl
  refine kk H locs ls (va_P.app ((vP_l hP).sub is (filterMap_of_map hs)) (vP_r hP)) (va_D.app ((vD_l hD).sub is hn hs) (vD_r hD) (fun i j x y hx hy e => ?_)) hS hl
  have hz : (is.map (fun i => ws[i]?))[i]? = some (some x) := by rw [hs, List.getElem?_map, hx]; rfl
  rw [List.getElem?_map] at hz
  obtain ⟨a, ha, hw⟩ := Option.map_eq_some_iff.mp hz
  exact vD_x hD a j x y hw hy e
theorem J.swp (kk : J X nL cs sl pc lv st (ws' ++ ws)) : J X nL cs sl pc lv st (ws ++ ws') := by
  intro H locs ls hP hD hS hl
  exact kk H locs ls (va_P.app (vP_r hP) (vP_l hP)) (va_D.app (vD_r hD) (vD_l hD) (fun i j x y hx hy e => vD_x hD j i y x hy hx e.symm)) hS hl
theorem Ok.cbN (h : Ok X cc own nL cI cE d mc ms) {y : MethodName} {bytes : ByteArray} {maxL n dc index mc1 ms1 : Nat} {ret : Option FieldType} (hw : Cond.methodLink own index y ∈ lw_tbl) (hd : dc + 1 ≤ d) (hm : maxL ≤ 14) (hc : Cond.code y bytes maxL ret ∈ lw_tbl) (hi : Cond.initialized y.cls ∈ lw_tbl) (hy : y.cls ≠ "java/lang/invoke/MethodHandle" ∧ y.cls ≠ "java/lang/invoke/VarHandle" ∧ (parseMethodDescriptor y.desc).map (fun d => d.parameters.length) = some n) : CallB (xR X) (xs X) (xa X) own index y bytes maxL ret (wq y bytes maxL ret) (rmd dc mc1 ms1) mc1 ms1 n :=
  callB_of n h.g (wq_good hc) rfl rfl rfl (h.t _ hi) (h.t _ hw) hy ⟨Nat.le_trans hd h.2.2.2.1, by have := h.2.2.2.2.1; show 8 + (maxL + 11) + 33 * dc ≤ _; omega⟩
theorem Ok.cnN (h : Ok X cc own nL cI cE d mc ms) {y : MethodName} {bytes : ByteArray} {maxL n dc index mc1 ms1 : Nat} {ret : Option FieldType} {host : String} (hw : Cond.methodLinkNest own index y host ∈ lw_tbl) (hd : dc + 1 ≤ d) (hm : maxL ≤ 14) (hc : Cond.code y bytes maxL ret ∈ lw_tbl) (hi : Cond.initialized y.cls ∈ lw_tbl) (hy : y.cls ≠ "java/lang/invoke/MethodHandle" ∧ y.cls ≠ "java/lang/invoke/VarHandle" ∧ (parseMethodDescriptor y.desc).map (fun d => d.parameters.length) = some n) : va_CN (xR X) (xs X) (xa X) own index y host bytes maxL ret (wq y bytes maxL ret) (rmd dc mc1 ms1) mc1 ms1 n :=
  va_cnB n h.g (wq_good hc) rfl rfl rfl (h.2.2.2.2.2.2.2 _ hw rfl) (h.t _ hi) hy ⟨Nat.le_trans hd h.2.2.2.1, by have := h.2.2.2.2.1; show 8 + (maxL + 11) + 33 * dc ≤ _; omega⟩
theorem Ok.preK (h : Ok X cc own nL cI cE d mc ms) (hk : KS k v (xA X) (xs X)) {H : Heap} {locs : List Loc} {av : List Value} (hP : va_P (xD X) vwCl wc H) (hD : va_D (xA X) wc) (hS : va_S (xA X) (xs X).heap H locs) (hF : ∀ q, va_A wc H.size q → xA X q) : PreS (xs X) H (PcK k v (xD X) cI cE av wc H.size) av :=
  ⟨PcK.blind, fun U hU hW => ⟨rfl, ⟨by rw [hU], by rw [hU]; exact hP, va_K.moved hW.alike h.k, hD.weaken (fun _ _ _ _ => trivial), h.2.2.2.2.2.2.2.warm hW⟩, hk.go hS hF hU hW⟩⟩
end JN
/-! CALLS of constructors, of methods of String -/
def YI (y : MethodName) (bytes : ByteArray) (maxL : Nat) (n : Nat) : Prop := Cond.instanceMethod y ∈ lw_tbl ∧ y.name = "<init>" ∧ Cond.initialized y.cls ∈ lw_tbl ∧ Cond.code y bytes maxL none ∈ lw_tbl ∧ y.cls ≠ "java/lang/invoke/MethodHandle" ∧ y.cls ≠ "java/lang/invoke/VarHandle" ∧ (parseMethodDescriptor y.desc).map (fun d => d.parameters.length) = some n
section KN
variable {X : Cx} {cc : ByteArray} {own : String} {nL d mc ms cs sl pc : Nat} {cI cE : ClassId} {lv lv' : Lv} {st rest : List Value} {ws ws' : va_W}
variable {y : MethodName} {bytes : ByteArray} {maxL n dc index b mc1 ms1 : Nat} {ret : Option FieldType} {As : List Value} {wc wr : va_W} {S : Type} {w' : S → va_W} {k v : Nat → Nat}
theorem K_iv {post : S → Prop} (h : Ok X cc own nL cI cE d mc ms) (hC : Cv (xl X) (xD X) cI cE y bytes maxL none dc mc1 ms1 (.ref b :: As) wc post w') (hY : YI y bytes maxL n) (hw : Cond.methodLink own index y ∈ lw_tbl) (hd : dc + 1 ≤ d) (hm : maxL ≤ 14) (hn : As.length = n) (hws : ws = wc ++ wr) (hst : st = As.reverse ++ .ref b :: rest) (hr : (rest.map fun v => v.category).sum ≤ 8) (hc : cs + mc1 ≤ mc) (hl : sl + ms1 ≤ ms) (dd : decode cc pc = .ok (.invokespecial index, 3))
    (kk : ∀ (u : S), post u → J X nL (cs + mc1) (sl + ms1) (pc + 3) lv rest (w' u ++ wr)) : J X nL cs sl pc lv st ws := by
  intro H locs ls hP hD hS hl1
  subst hws
  have hPc := vP_l hP
  have hDc := vD_l hD
  have hFc := vA_l hD hS h.2.2.1
  obtain ⟨y1, y2, y3, y4, y5⟩ := hY
  exact va_callv (va_runI (As := As) (rest := rest) h.1 (hC H.size) ⟨h.cbN hw hd hm y4 y3 y5, y2, h.t _ y1⟩ (h.pre (av := .ref b :: As) hPc hDc) rfl hn hl1.1 hst (lv_room hr) dd ⟨Nat.le_trans hc h.2.2.2.2.2.1, Nat.le_trans hl h.2.2.2.2.2.2.1⟩) hS (fun q _ z => hFc q z) hFc (fun u t H1 locs1 ht hvm hp hB hz hk hS1 => by
    obtain ⟨p1, -, p2⟩ := hB
    rw [ht] at p1
    obtain ⟨g1, g2⟩ := v_join hP hD hk hFc p1 p2
    exact kk u hp H1 locs1 ls g1 g2 hS1 hl1)
theorem K_niv {post : S → Prop} {host : String} (h : Ok X cc own nL cI cE d mc ms) (hC : Cv (xl X) (xD X) cI cE y bytes maxL none dc mc1 ms1 (.ref b :: As) wc post w') (hY : YI y bytes maxL n) (hw : Cond.methodLinkNest own index y host ∈ lw_tbl) (hd : dc + 1 ≤ d) (hm : maxL ≤ 14) (hn : As.length = n) (hws : ws = wc ++ wr) (hst : st = As.reverse ++ .ref b :: rest) (hr : (rest.map fun v => v.category).sum ≤ 8) (hc : cs + mc1 ≤ mc) (hl : sl + ms1 ≤ ms) (dd : decode cc pc = .ok (.invokespecial index, 3))
    (kk : ∀ (u : S), post u → J X nL (cs + mc1) (sl + ms1) (pc + 3) lv rest (w' u ++ wr)) : J X nL cs sl pc lv st ws := by
  intro H locs ls hP hD hS hl1
  subst hws
  have hPc := vP_l hP
  have hDc := vD_l hD
  have hFc := vA_l hD hS h.2.2.1
  obtain ⟨y1, y2, y3, y4, y5⟩ := hY
  exact va_callv (va_runIN (As := As) (rest := rest) h.1 (hC H.size) ⟨h.cnN hw hd hm y4 y3 y5, y2, h.t _ y1⟩ (h.pre (av := .ref b :: As) hPc hDc) rfl hn hl1.1 hst (lv_room hr) dd ⟨Nat.le_trans hc h.2.2.2.2.2.1, Nat.le_trans hl h.2.2.2.2.2.2.1⟩) hS (fun q _ z => hFc q z) hFc (fun u t H1 locs1 ht hvm hp hB hz hk hS1 => by
    obtain ⟨p1, -, p2⟩ := hB
    rw [ht] at p1
    obtain ⟨g1, g2⟩ := v_join hP hD hk hFc p1 p2
    exact kk u hp H1 locs1 ls g1 g2 hS1 hl1)
theorem K_kv {post : S → Prop} (h : Ok X cc own nL cI cE d mc ms) (hk : KS k v (xA X) (xs X)) (hC : CvK k v (xl X) (xD X) cI cE y bytes maxL none dc mc1 ms1 (.ref b :: As) wc post w') (hY : YI y bytes maxL n) (hw : Cond.methodLink own index y ∈ lw_tbl) (hd : dc + 1 ≤ d) (hm : maxL ≤ 14) (hn : As.length = n) (hws : ws = wc ++ wr) (hst : st = As.reverse ++ .ref b :: rest) (hr : (rest.map fun v => v.category).sum ≤ 8) (hc : cs + mc1 ≤ mc) (hl : sl + ms1 ≤ ms) (dd : decode cc pc = .ok (.invokespecial index, 3))
    (kk : ∀ (u : S), post u → J X nL (cs + mc1) (sl + ms1) (pc + 3) lv rest (w' u ++ wr)) : J X nL cs sl pc lv st ws := by
  intro H locs ls hP hD hS hl1
  subst hws
  have hPc := vP_l hP
  have hDc := vD_l hD
  have hFc := vA_l hD hS h.2.2.1
  obtain ⟨y1, y2, y3, y4, y5⟩ := hY
  exact va_callv (va_runI (As := As) (rest := rest) h.1 (hC H.size) ⟨h.cbN hw hd hm y4 y3 y5, y2, h.t _ y1⟩ (h.preK hk (av := .ref b :: As) hPc hDc hS hFc) rfl hn hl1.1 hst (lv_room hr) dd ⟨Nat.le_trans hc h.2.2.2.2.2.1, Nat.le_trans hl h.2.2.2.2.2.2.1⟩) hS (fun q _ z => hFc q z) hFc (fun u t H1 locs1 ht hvm hp hB hz hk hS1 => by
    obtain ⟨p1, -, p2⟩ := hB
    rw [ht] at p1
    obtain ⟨g1, g2⟩ := v_join hP hD hk hFc p1 p2
    exact kk u hp H1 locs1 ls g1 g2 hS1 hl1)
/-- a method of the text constant: nothing of the world is touched -/
theorem K_Si {post : Int32 → Unit → Prop} (h : Ok X cc own nL cI cE d mc ms) (hk : KS k v (xA X) (xs X)) (hC : CiK k v (xl X) (xD X) cI cE y bytes maxL ret dc 0 0 (.ref (k 0) :: As) [] post (fun _ => [])) (hY : YV y bytes maxL ret n) (hyc : y.cls = RJ0) (hw : Cond.methodLink own index y ∈ lw_tbl) (hd : dc + 1 ≤ d) (hm : maxL ≤ 14) (hn : As.length = n) (hst : st = As.reverse ++ .ref (k 0) :: rest) (hr : (rest.map fun v => v.category).sum ≤ 8) (hc : cs ≤ mc) (hl : sl ≤ ms) (dd : decode cc pc = .ok (.invokevirtual index, 3))
    (kk : ∀ (r : Int32), post r () → J X nL cs sl (pc + 3) lv (.int r :: rest) ws) : J X nL cs sl pc lv st ws := by
  intro H locs ls hP hD hS hl1
  have hP' : va_P (xD X) vwCl ([] ++ ws) H := hP
  have hD' : va_D (xA X) ([] ++ ws) := hD
  have hPc := vP_l hP'
  have hDc := vD_l hD'
  have hFc := vA_l hD' hS h.2.2.1
  obtain ⟨y1, y2, y3, y4, y5⟩ := hY
  have pre := h.preK hk (av := .ref (k 0) :: As) hPc hDc hS hFc
  have rc := vk_recv hk.2.2.1 (show 0 < 1 by decide) hS
  exact va_calli (va_runV (C := y.cls) (As := As) (rest := rest) h.1 (hC H.size) ⟨h.cbN hw hd hm y4 y3 y5, h.t _ y1, h.t _ y2⟩ ⟨pre.1, by rw [hyc]; exact rc, pre.2⟩ rfl hn hl1.1 hst (lv_room hr) dd ⟨Nat.le_trans hc h.2.2.2.2.2.1, Nat.le_trans hl h.2.2.2.2.2.2.1⟩) hS (fun q _ z => hFc q z) hFc (fun r u t H1 locs1 ht hvm hp hB hz hk hS1 => by
    obtain ⟨p1, -, p2⟩ := hB
    rw [ht] at p1
    obtain ⟨g1, g2⟩ := v_join hP' hD' hk hFc p1 p2
    exact kk r hp H1 locs1 ls g1 g2 hS1 hl1)
theorem K_Ssi {post : Int32 → Unit → Prop} (h : Ok X cc own nL cI cE d mc ms) (hk : KS k v (xA X) (xs X)) (hC : CiK k v (xl X) (xD X) cI cE y bytes maxL ret dc 0 0 As [] post (fun _ => [])) (hY : YS y bytes maxL ret n) (hw : Cond.methodLink own index y ∈ lw_tbl) (hd : dc + 1 ≤ d) (hm : maxL ≤ 14) (hn : As.length = n) (hst : st = As.reverse ++ rest) (hr : (rest.map fun v => v.category).sum ≤ 8) (hc : cs ≤ mc) (hl : sl ≤ ms) (dd : decode cc pc = .ok (.invokestatic index, 3))
    (kk : ∀ (r : Int32), post r () → J X nL cs sl (pc + 3) lv (.int r :: rest) ws) : J X nL cs sl pc lv st ws := by
  intro H locs ls hP hD hS hl1
  have hP' : va_P (xD X) vwCl ([] ++ ws) H := hP
  have hD' : va_D (xA X) ([] ++ ws) := hD
  have hPc := vP_l hP'
  have hDc := vD_l hD'
  have hFc := vA_l hD' hS h.2.2.1
  obtain ⟨y1, y3, y4, y5⟩ := hY
  exact va_calli (va_runS (As := As) (rest := rest) h.1 (hC H.size) ⟨h.cbN hw hd hm y4 y3 y5, h.t _ y1⟩ (h.preK hk hPc hDc hS hFc) rfl hn hl1.1 hst (lv_room hr) dd ⟨Nat.le_trans hc h.2.2.2.2.2.1, Nat.le_trans hl h.2.2.2.2.2.2.1⟩) hS (fun q _ z => hFc q z) hFc (fun r u t H1 locs1 ht hvm hp hB hz hk hS1 => by
    obtain ⟨p1, -, p2⟩ := hB
    rw [ht] at p1
    obtain ⟨g1, g2⟩ := v_join hP' hD' hk hFc p1 p2
    exact kk r hp H1 locs1 ls g1 g2 hS1 hl1)
theorem K_Ssv {post : Unit → Prop} (h : Ok X cc own nL cI cE d mc ms) (hk : KS k v (xA X) (xs X)) (hC : CvK k v (xl X) (xD X) cI cE y bytes maxL none dc 0 0 As [] post (fun _ => [])) (hY : YS y bytes maxL none n) (hw : Cond.methodLink own index y ∈ lw_tbl) (hd : dc + 1 ≤ d) (hm : maxL ≤ 14) (hn : As.length = n) (hst : st = As.reverse ++ rest) (hr : (rest.map fun v => v.category).sum ≤ 8) (hc : cs ≤ mc) (hl : sl ≤ ms) (dd : decode cc pc = .ok (.invokestatic index, 3))
    (kk : J X nL cs sl (pc + 3) lv rest ws) : J X nL cs sl pc lv st ws := by
  intro H locs ls hP hD hS hl1
  have hP' : va_P (xD X) vwCl ([] ++ ws) H := hP
  have hD' : va_D (xA X) ([] ++ ws) := hD
  have hPc := vP_l hP'
  have hDc := vD_l hD'
  have hFc := vA_l hD' hS h.2.2.1
  obtain ⟨y1, y3, y4, y5⟩ := hY
  exact va_callv (va_runS (As := As) (rest := rest) h.1 (hC H.size) ⟨h.cbN hw hd hm y4 y3 y5, h.t _ y1⟩ (h.preK hk hPc hDc hS hFc) rfl hn hl1.1 hst (lv_room hr) dd ⟨Nat.le_trans hc h.2.2.2.2.2.1, Nat.le_trans hl h.2.2.2.2.2.2.1⟩) hS (fun q _ z => hFc q z) hFc (fun u t H1 locs1 ht hvm hp hB hz hk hS1 => by
    obtain ⟨p1, -, p2⟩ := hB
    rw [ht] at p1
    obtain ⟨g1, g2⟩ := v_join hP' hD' hk hFc p1 p2
    exact kk H1 locs1 ls g1 g2 hS1 hl1)
end KN
/-! String's own methods over the text constant -/
section SJ
variable {X : Cx} {cc : ByteArray} {own : String} {nL d mc ms cs sl pc : Nat} {cI cE : ClassId} {lv : Lv} {st : List Value} {ws : va_W} {k v : Nat → Nat}
theorem S_ldc (h : Ok X cc RX8 nL cI cE d mc ms) (hk : KS k v (xA X) (xs X)) (dd : decode cc pc = .ok (.ldc 73, 2)) (kk : J X nL cs sl (pc + 2) lv (.ref (k 0) :: st) ws) : J X nL cs sl pc lv st ws :=
  fun H locs ls hP hD hS hl => va_ldcS h.x h.b h.o hk.2.1 dd (kk H locs ls hP hD hS hl)
theorem S_gets (h : Ok X cc RJ0 nL cI cE d mc ms) (hk : KS k v (xA X) (xs X)) (dd : decode cc pc = .ok (.getstatic 38, 3)) (kk : J X nL cs sl (pc + 3) lv (.int 1 :: st) ws) : J X nL cs sl pc lv st ws :=
  fun H locs ls hP hD hS hl => va_gets h.x h.b hk.2.2.2.1 hS h.o (h.t _ nf_J0_38) (fun _ z => z) dd (kk H locs ls hP hD hS hl)
theorem S_getq (h : Ok X cc RJ0 nL cI cE d mc ms) (hk : KS k v (xA X) (xs X)) (dd : decode cc pc = .ok (.getstatic 1053, 3)) (kk : ∀ z : Value, z.category = 1 → (z = .null ∨ ∃ t, z = .ref t) → J X nL cs sl (pc + 3) lv (z :: st) ws) : J X nL cs sl pc lv st ws := by
  intro H locs ls hP hD hS hl
  rcases hk.2.2.2.2 with hz | ⟨t, hz⟩
  · exact va_gets h.x h.b hz hS h.o (h.t _ nf_J0_1053) (fun _ z => z) dd (kk _ rfl (Or.inl rfl) H locs ls hP hD hS hl)
  · exact va_gets h.x h.b hz hS h.o (h.t _ nf_J0_1053) (fun _ z => z) dd (kk _ rfl (Or.inr ⟨t, rfl⟩) H locs ls hP hD hS hl)
theorem S_cod (h : Ok X cc RJ0 nL cI cE d mc ms) (hk : KS k v (xA X) (xs X)) (dd : decode cc pc = .ok (.getfield 15, 3)) (kk : J X nL cs sl (pc + 3) lv (.int 0 :: st) ws) : J X nL cs sl pc lv (.ref (k 0) :: st) ws :=
  fun H locs ls hP hD hS hl => vk_getf h.x h.b (hk.2.2.1.1 0 (by decide)).2.1 hS h.o (h.t _ nf_J0_15) (fun _ z => z) dd (kk H locs ls hP hD hS hl)
theorem S_val (h : Ok X cc RJ0 nL cI cE d mc ms) (hk : KS k v (xA X) (xs X)) (dd : decode cc pc = .ok (.getfield 9, 3)) (kk : J X nL cs sl (pc + 3) lv (.ref (v 0) :: st) ws) : J X nL cs sl pc lv (.ref (k 0) :: st) ws :=
  fun H locs ls hP hD hS hl => vk_getf h.x h.b (hk.2.2.1.1 0 (by decide)).2.2.1 hS h.o (h.t _ nf_J0_9) (fun _ z => z) dd (kk H locs ls hP hD hS hl)
theorem S_len (h : Ok X cc own nL cI cE d mc ms) (hk : KS k v (xA X) (xs X)) (dd : decode cc pc = .ok (.arraylength, 1)) (kk : J X nL cs sl (pc + 1) lv (.int (nI 63) :: st) ws) : J X nL cs sl pc lv (.ref (v 0) :: st) ws :=
  fun H locs ls hP hD hS hl => va_tlen (v := nI 63) h.x h.b (hk.2.2.1.1 0 (by decide)).2.2.2 hS rfl dd (kk H locs ls hP hD hS hl)
theorem S_bal (h : Ok X cc own nL cI cE d mc ms) (hk : KS k v (xA X) (xs X)) {j : Nat} (hj : j < 63) (dd : decode cc pc = .ok (.baload, 1)) (kk : J X nL cs sl (pc + 1) lv (.int (nI (tbN j)) :: st) ws) : J X nL cs sl pc lv (.int (nI j) :: .ref (v 0) :: st) ws :=
  fun H locs ls hP hD hS hl => va_tb (v := .int (nI (tbN j))) h.x h.b (hk.2.2.1.1 0 (by decide)).2.2.2 hS (vp_in_nI hj (by decide)) (by
    rw [nI_clamp (by omega)]
    show Value.int ((tbL.map nI).getD j 0) = _
    rw [List.getD_eq_getElem?_getD, List.getElem?_map]
    unfold tbN
    rw [List.getD_eq_getElem?_getD]
    cases tbL[j]? <;> rfl) dd (kk H locs ls hP hD hS hl)
theorem J_i2c (h : Ok X cc own nL cI cE d mc ms) {x v : Int32} (hv : (x.toUInt32 % 65536).toInt32 = v) (dd : decode cc pc = .ok (.i2c, 1)) (kk : J X nL cs sl (pc + 1) lv (.int v :: st) ws) : J X nL cs sl pc lv (.int x :: st) ws :=
  fun H locs ls hP hD hS hl => lv_i2c h.x h.b dd hv (kk H locs ls hP hD hS hl)
end SJ
theorem yv_J3 : YS yJ3_checkIndex_8e157 cJ3_checkIndex_8e157 3 (some .int) 3 := ⟨ns_J3_checkIndex_8e157, ni_J3, nk_J3_checkIndex_8e157, by decide +kernel⟩
theorem yv_J0ci : YS yJ0_checkIndex_df160 cJ0_checkIndex_df160 2 none 2 := ⟨ns_J0_checkIndex_df160, ni_J0, nk_J0_checkIndex_df160, by decide +kernel⟩
theorem yv_J1ca : YS yJ1_charAt_3b067 cJ1_charAt_3b067 2 (some .char) 2 := ⟨ns_J1_charAt_3b067, ni_J1, nk_J1_charAt_3b067, by decide +kernel⟩
theorem yv_J0len : YV yJ0_length_8abf5 cJ0_length_8abf5 1 (some .int) 0 := ⟨no_J0_length_8abf5, nv_J0_length_8abf5, ni_J0, nk_J0_length_8abf5, by decide +kernel⟩
theorem yv_J0ca : YV yJ0_charAt_5068e cJ0_charAt_5068e 2 (some .char) 1 := ⟨no_J0_charAt_5068e, nv_J0_charAt_5068e, ni_J0, nk_J0_charAt_5068e, by decide +kernel⟩
theorem yv_J0cod : YV yJ0_coder_7d493 cJ0_coder_7d493 1 (some .byte) 0 := ⟨no_J0_coder_7d493, nv_J0_coder_7d493, ni_J0, nk_J0_coder_7d493, by decide +kernel⟩
theorem yv_J0lat : YV yJ0_isLatin1_aae02 cJ0_isLatin1_aae02 1 (some .boolean) 0 := ⟨no_J0_isLatin1_aae02, nv_J0_isLatin1_aae02, ni_J0, nk_J0_isLatin1_aae02, by decide +kernel⟩
theorem tb_c : ∀ j, j < 63 → ((nI (tbN j) &&& nI 255).toUInt32 % 65536).toInt32 = nI (tbN j) := by decide +kernel
theorem tb_n : ∀ j, j < 63 → ((nI (tbN j)).toUInt32 % 65536).toInt32 = nI (tbN j) := by decide +kernel
theorem c_J3 (k v : Nat → Nat) (l : Launch) (D : va_G) (cI cE : ClassId) (j : Nat) (hj : j < 63) (z : Value) (hz : z = .null ∨ ∃ t, z = .ref t) : CiK k v l D cI cE yJ3_checkIndex_8e157 cJ3_checkIndex_8e157 3 (some .int) 0 0 0 [.int (nI j), .int (nI 63), z] [] (fun r (_ : Unit) => r = nI j) (fun _ => []) := by
  rcases hz with rfl | ⟨t, rfl⟩
  all_goals
    refine CiK.of (by decide) (Nat.le_of_ble_eq_true rfl) (fun _ _ _ => rfl) (fun X h hk hR => ?_)
    refine J_iload_n h (i := 0) dJ3_checkIndex_8e157_0 rfl 0 rfl ?_
    refine N_if_lt h 9 dJ3_checkIndex_8e157_1 (by decide) (by omega) ?_
    refine J_iload_n h (i := 0) dJ3_checkIndex_8e157_4 rfl 0 rfl ?_
    refine J_iload_n h (i := 1) dJ3_checkIndex_8e157_5 rfl 1 rfl ?_
    refine N_icmp_lt h 16 dJ3_checkIndex_8e157_6 (by decide) (by omega) (by decide) (fun _ => ?_) (fun c => absurd c (by omega))
    refine J_iload_n h (i := 0) dJ3_checkIndex_8e157_16 rfl 0 rfl ?_
    exact hR (nI j) () rfl 17 _ dJ3_checkIndex_8e157_17
theorem c_J0ci (k v : Nat → Nat) (l : Launch) (D : va_G) (cI cE : ClassId) (j : Nat) (hj : j < 63) : CvK k v l D cI cE yJ0_checkIndex_df160 cJ0_checkIndex_df160 2 none 1 0 0 [.int (nI j), .int (nI 63)] [] (fun (_ : Unit) => True) (fun _ => []) := by
  refine CvK.of (by decide) (Nat.le_of_ble_eq_true rfl) (fun X h hk hR _ => ?_)
  refine J_iload_n h (i := 0) dJ0_checkIndex_df160_0 rfl 0 rfl ?_
  refine J_iload_n h (i := 1) dJ0_checkIndex_df160_1 rfl 1 rfl ?_
  refine S_getq h hk dJ0_checkIndex_df160_2 (fun z hz1 hz => ?_)
  refine K_Ssi h hk (rest := []) (c_J3 k v (xl X) (xD X) cI cE j hj z hz) yv_J3 nm_J0_1059 (by decide) (by decide) rfl rfl (Nat.zero_le _) (Nat.le_refl _) (Nat.le_refl _) dJ0_checkIndex_df160_5 (fun r hr => ?_)
  refine J_pop h dJ0_checkIndex_df160_8 rfl ?_
  exact hR () trivial 9 _ dJ0_checkIndex_df160_9
theorem c_J1ca (k v : Nat → Nat) (l : Launch) (D : va_G) (cI cE : ClassId) (j : Nat) (hj : j < 63) : CiK k v l D cI cE yJ1_charAt_3b067 cJ1_charAt_3b067 2 (some .char) 2 0 0 [.ref (v 0), .int (nI j)] [] (fun r (_ : Unit) => r = nI (tbN j)) (fun _ => []) := by
  refine CiK.of (by decide) (Nat.le_of_ble_eq_true rfl) (fun r _ hr => by rw [hr]; exact congrArg Value.int (tb_n j hj)) (fun X h hk hR => ?_)
  refine J_iload_n h (i := 1) dJ1_charAt_3b067_0 rfl 1 rfl ?_
  refine J_aload_n h (i := 0) dJ1_charAt_3b067_1 rfl 0 rfl ?_
  refine S_len h hk dJ1_charAt_3b067_2 ?_
  refine K_Ssv h hk (rest := []) (c_J0ci k v (xl X) (xD X) cI cE j hj) yv_J0ci nm_J1_9 (by decide) (by decide) rfl rfl (Nat.zero_le _) (Nat.le_refl _) (Nat.le_refl _) dJ1_charAt_3b067_3 ?_
  refine J_aload_n h (i := 0) dJ1_charAt_3b067_6 rfl 0 rfl ?_
  refine J_iload_n h (i := 1) dJ1_charAt_3b067_7 rfl 1 rfl ?_
  refine S_bal h hk hj dJ1_charAt_3b067_8 ?_
  refine J_sipush h (v := nI 255) dJ1_charAt_3b067_9 (by decide) ?_
  refine J_iand h dJ1_charAt_3b067_12 ?_
  refine J_i2c h (tb_c j hj) dJ1_charAt_3b067_13 ?_
  exact hR _ () rfl 14 _ dJ1_charAt_3b067_14
theorem c_J0cod (k v : Nat → Nat) (l : Launch) (D : va_G) (cI cE : ClassId) : CiK k v l D cI cE yJ0_coder_7d493 cJ0_coder_7d493 1 (some .byte) 0 0 0 [.ref (k 0)] [] (fun r (_ : Unit) => r = 0) (fun _ => []) := by
  refine CiK.of (by decide) (Nat.le_of_ble_eq_true rfl) (fun r _ hr => by rw [hr]; rfl) (fun X h hk hR => ?_)
  refine S_gets h hk dJ0_coder_7d493_0 ?_
  refine J_if_eq h 13 dJ0_coder_7d493_3 (by decide) (fun z => absurd z (by decide)) (fun _ => ?_)
  refine J_aload_n h (i := 0) dJ0_coder_7d493_6 rfl 0 rfl ?_
  refine S_cod h hk dJ0_coder_7d493_7 ?_
  refine J_goto h 14 dJ0_coder_7d493_10 (by decide) ?_
  exact hR _ () rfl 14 _ dJ0_coder_7d493_14
theorem c_J0lat (k v : Nat → Nat) (l : Launch) (D : va_G) (cI cE : ClassId) : CiK k v l D cI cE yJ0_isLatin1_aae02 cJ0_isLatin1_aae02 1 (some .boolean) 0 0 0 [.ref (k 0)] [] (fun r (_ : Unit) => r = 1) (fun _ => []) := by
  refine CiK.of (by decide) (Nat.le_of_ble_eq_true rfl) (fun r _ hr => by rw [hr]; rfl) (fun X h hk hR => ?_)
  refine S_gets h hk dJ0_isLatin1_aae02_0 ?_
  refine J_if_eq h 17 dJ0_isLatin1_aae02_3 (by decide) (fun z => absurd z (by decide)) (fun _ => ?_)
  refine J_aload_n h (i := 0) dJ0_isLatin1_aae02_6 rfl 0 rfl ?_
  refine S_cod h hk dJ0_isLatin1_aae02_7 ?_
  refine J_if_ne h 17 dJ0_isLatin1_aae02_10 (by decide) (fun z => absurd rfl z) (fun _ => ?_)
  refine J_iconst h (v := 1) dJ0_isLatin1_aae02_13 (by decide) ?_
  refine J_goto h 18 dJ0_isLatin1_aae02_14 (by decide) ?_
  exact hR _ () rfl 18 _ dJ0_isLatin1_aae02_18
theorem c_J0len (k v : Nat → Nat) (l : Launch) (D : va_G) (cI cE : ClassId) : CiK k v l D cI cE yJ0_length_8abf5 cJ0_length_8abf5 1 (some .int) 1 0 0 [.ref (k 0)] [] (fun r (_ : Unit) => r = nI 63) (fun _ => []) := by
  refine CiK.of (by decide) (Nat.le_of_ble_eq_true rfl) (fun r _ hr => rfl) (fun X h hk hR => ?_)
  refine J_aload_n h (i := 0) dJ0_length_8abf5_0 rfl 0 rfl ?_
  refine S_val h hk dJ0_length_8abf5_1 ?_
  refine S_len h hk dJ0_length_8abf5_4 ?_
  refine J_aload_n h (i := 0) dJ0_length_8abf5_5 rfl 0 rfl ?_
  refine K_Si h hk (As := []) (rest := [.int (nI 63)]) (c_J0cod k v (xl X) (xD X) cI cE) yv_J0cod rfl nm_J0_335 (by decide) (by decide) rfl rfl (Nat.le_of_ble_eq_true rfl) (Nat.le_refl _) (Nat.le_refl _) dJ0_length_8abf5_6 (fun r hr => ?_)
  subst hr
  refine J_ishr h dJ0_length_8abf5_9 ?_
  exact hR _ () (by decide) 10 _ dJ0_length_8abf5_10
theorem c_J0ca (k v : Nat → Nat) (l : Launch) (D : va_G) (cI cE : ClassId) (j : Nat) (hj : j < 63) : CiK k v l D cI cE yJ0_charAt_5068e cJ0_charAt_5068e 2 (some .char) 3 0 0 [.ref (k 0), .int (nI j)] [] (fun r (_ : Unit) => r = nI (tbN j)) (fun _ => []) := by
  refine CiK.of (by decide) (Nat.le_of_ble_eq_true rfl) (fun r _ hr => by rw [hr]; exact congrArg Value.int (tb_n j hj)) (fun X h hk hR => ?_)
  refine J_aload_n h (i := 0) dJ0_charAt_5068e_0 rfl 0 rfl ?_
  refine K_Si h hk (As := []) (rest := []) (c_J0lat k v (xl X) (xD X) cI cE) yv_J0lat rfl nm_J0_492 (by decide) (by decide) rfl rfl (Nat.zero_le _) (Nat.le_refl _) (Nat.le_refl _) dJ0_charAt_5068e_1 (fun r hr => ?_)
  subst hr
  refine J_if_eq h 16 dJ0_charAt_5068e_4 (by decide) (fun z => absurd z (by decide)) (fun _ => ?_)
  refine J_aload_n h (i := 0) dJ0_charAt_5068e_7 rfl 0 rfl ?_
  refine S_val h hk dJ0_charAt_5068e_8 ?_
  refine J_iload_n h (i := 1) dJ0_charAt_5068e_11 rfl 1 rfl ?_
  refine K_Ssi h hk (As := [.ref (v 0), .int (nI j)]) (rest := []) (c_J1ca k v (xl X) (xD X) cI cE j hj) yv_J1ca nm_J0_495 (by decide) (by decide) rfl rfl (Nat.zero_le _) (Nat.le_refl _) (Nat.le_refl _) dJ0_charAt_5068e_12 (fun r hr => ?_)
  exact hR r () hr 15 _ dJ0_charAt_5068e_15
