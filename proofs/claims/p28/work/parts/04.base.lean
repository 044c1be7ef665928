/-! THE JUDGEMENT J: from every machine state that the picture (pc, locals, stack, world) fits, the method comes to its end. -/
abbrev Cx : Type := Program × Launch × Env × Room × State × MethodId × Array Value × List Frame × Method × Code × (State → Prop) × va_G × (Nat → Prop)
abbrev xp (X : Cx) : Program := X.1
abbrev xl (X : Cx) : Launch := X.2.1
abbrev xe (X : Cx) : Env := X.2.2.1
abbrev xR (X : Cx) : Room := X.2.2.2.1
abbrev xs (X : Cx) : State := X.2.2.2.2.1
abbrev xm (X : Cx) : MethodId := X.2.2.2.2.2.1
abbrev xa (X : Cx) : Array Value := X.2.2.2.2.2.2.1
abbrev xb (X : Cx) : List Frame := X.2.2.2.2.2.2.2.1
abbrev xM (X : Cx) : Method := X.2.2.2.2.2.2.2.2.1
abbrev xc (X : Cx) : Code := X.2.2.2.2.2.2.2.2.2.1
abbrev xQ (X : Cx) : State → Prop := X.2.2.2.2.2.2.2.2.2.2.1
abbrev xD (X : Cx) : va_G := X.2.2.2.2.2.2.2.2.2.2.2.1
abbrev xA (X : Cx) : Nat → Prop := X.2.2.2.2.2.2.2.2.2.2.2.2
def lw_g : List Cond := lw_tbl.filter goodWord
theorem in_g {w : Cond} (h : w ∈ lw_tbl) (hg : goodWord w = true) : w ∈ lw_g := List.mem_filter.mpr ⟨h, hg⟩
theorem lay_g {C : String} {T : u_T} {N : Nat} (h : ∀ w ∈ u_ws C T N, w ∈ lw_tbl) : ∀ w ∈ u_ws C T N, w ∈ lw_g := fun w hw => in_g (h w hw) (by
  obtain ⟨k, -, e⟩ := List.mem_map.mp hw
  rw [← e]; unfold u_lay; split <;> rfl)
def isNest : Cond → Bool
  | .methodLinkNest _ _ _ _ => true
  | _ => false
def NW (U : State) : Prop := ∀ w ∈ lw_tbl, isNest w = true → va_Nw w U
theorem NW.warm {s U : State} (hW : s.WarmedH U.vm) (h : NW s) : NW U := fun w hw hn => by
  have hz := h w hw hn
  cases w <;> first | exact va_Nw.warmM hW hz | (cases hn)
theorem NW.same {s U : State} (hv : s.vm = U.vm) (h : NW s) : NW U := fun w hw hn => by
  have hz := h w hw hn
  cases w <;> first | exact va_Nw.same rfl hv hz | (cases hn)
theorem NW.of {A : Array Value} {s : State} (h : ∀ w ∈ lw_tbl, w.before A s = true) : NW s := fun w hw hn => by
  have hz := h w hw
  cases w <;> first | exact va_Nw.of rfl hz | (cases hn)
abbrev tyl (cI cE : ClassId) : List (ClassId × FieldType) := [(cI, .int), (cE, .object RX0)]
abbrev Lv : Type := List (Nat × Value)
def J (X : Cx) (nL cs sl pc : Nat) (lv : Lv) (st : List Value) (ws : va_W) : Prop :=
  ∀ (H : Heap) (locs : List Loc) (ls : Array Slot), va_P (xD X) vwCl ws H → va_D (xA X) ws → va_S (xA X) (xs X).heap H locs → lv_has ls nL lv →
    W (xp X) (xl X) (xe X) (xR X) (xs X) (xm X) (xa X) (xb X) (xM X) (xc X) H locs cs sl (xQ X) (F0 (xm X) pc ls st)
def Ok (X : Cx) (cc : ByteArray) (own : String) (nL : Nat) (cI cE : ClassId) (d mc ms : Nat) : Prop :=
  CallFix (xp X) (xm X) (xc X) cc nL (xs X) (xa X) lw_g own ∧ va_K (xD X) vwCl (tyl cI cE) (xs X) ∧ (∀ q, (xs X).heap.size ≤ q → xA X q) ∧ d ≤ (xR X).frames ∧ 33 * d ≤ (xR X).locals ∧ mc ≤ (xR X).cells ∧ ms ≤ (xR X).slots ∧ NW (xs X)
section JR
variable {X : Cx} {cc : ByteArray} {own : String} {nL d mc ms cs sl pc : Nat} {cI cE : ClassId} {lv lv' : Lv} {st : List Value} {ws ws' : va_W}
theorem Ok.x (h : Ok X cc own nL cI cE d mc ms) : (xp X).tables.exec = Jvm.exec := h.1.1
theorem Ok.b (h : Ok X cc own nL cI cE d mc ms) : (xc X).code = cc := h.1.2.1
theorem Ok.n (h : Ok X cc own nL cI cE d mc ms) : (xc X).maxLocals = nL := h.1.2.2.1
theorem Ok.o (h : Ok X cc own nL cI cE d mc ms) : (xs X).vm.findClass own = some (xm X).cls := h.1.2.2.2.1
theorem Ok.g (h : Ok X cc own nL cI cE d mc ms) : ∀ w ∈ lw_g, w.before (xa X) (xs X) = true := h.1.2.2.2.2
theorem Ok.t (h : Ok X cc own nL cI cE d mc ms) (w : Cond) (hw : w ∈ lw_tbl) (hg : goodWord w = true := by rfl) : w.before (xa X) (xs X) = true := h.g w (in_g hw hg)
theorem Ok.k (h : Ok X cc own nL cI cE d mc ms) : va_K (xD X) vwCl (tyl cI cE) (xs X) := h.2.1
theorem J.loc (ks : List Nat) (hk : lv_pick lv ks = lv') (k : J X nL cs sl pc lv' st ws) : J X nL cs sl pc lv st ws :=
  fun H locs ls hP hD hS hl => k H locs ls hP hD hS (lv_sub hl ks hk)
theorem filterMap_of_map {α : Type} {f : Nat → Option α} : ∀ {is : List Nat} {w : List α}, is.map f = w.map some → is.filterMap f = w
  | [], [], _ => rfl
  | [], _ :: _, h => by simp at h
  | _ :: _, [], h => by simp at h
  | i :: is, a :: w, h => by
    simp only [List.map_cons, List.cons.injEq] at h
    rw [List.filterMap_cons, h.1]
    exact congrArg (List.cons a) (filterMap_of_map h.2)
theorem J.wld (is : List Nat) (hn : va_nd is = true) (hs : is.map (fun i => ws[i]?) = ws'.map some) (k : J X nL cs sl pc lv st ws') : J X nL cs sl pc lv st ws :=
  fun H locs ls hP hD hS hl => k H locs ls (hP.sub is (filterMap_of_map hs)) (hD.sub is hn hs) hS hl

theorem J_iconst (h : Ok X cc own nL cI cE d mc ms) {n : Int} {v : Int32} (dd : decode cc pc = .ok (.iconst n, 1)) (hv : Int32.ofInt n = v) (k : J X nL cs sl (pc + 1) lv (.int v :: st) ws) : J X nL cs sl pc lv (st) ws :=
  fun H locs ls hP hD hS hl => lv_iconst h.x h.b dd hv (k H locs ls hP hD hS hl)
theorem J_bipush (h : Ok X cc own nL cI cE d mc ms) {n : Int} {v : Int32} (dd : decode cc pc = .ok (.bipush n, 2)) (hv : (Int8.ofInt n).toInt32 = v) (k : J X nL cs sl (pc + 2) lv (.int v :: st) ws) : J X nL cs sl pc lv (st) ws :=
  fun H locs ls hP hD hS hl => lv_bipush h.x h.b dd hv (k H locs ls hP hD hS hl)
theorem J_sipush (h : Ok X cc own nL cI cE d mc ms) {n : Int} {v : Int32} (dd : decode cc pc = .ok (.sipush n, 3)) (hv : (Int16.ofInt n).toInt32 = v) (k : J X nL cs sl (pc + 3) lv (.int v :: st) ws) : J X nL cs sl pc lv (st) ws :=
  fun H locs ls hP hD hS hl => lv_sipush h.x h.b dd hv (k H locs ls hP hD hS hl)
theorem J_lconst (h : Ok X cc own nL cI cE d mc ms) {n : Fin 2} {v : Int64} (dd : decode cc pc = .ok (.lconst n, 1)) (hv : Int64.ofNat (n : Nat) = v) (k : J X nL cs sl (pc + 1) lv (.long v :: st) ws) : J X nL cs sl pc lv (st) ws :=
  fun H locs ls hP hD hS hl => lv_lconst h.x h.b dd hv (k H locs ls hP hD hS hl)
theorem J_iload_n (h : Ok X cc own nL cI cE d mc ms) {n : Fin 4} {i : Nat} {x : Int32} (dd : decode cc pc = .ok (.iload_n n, 1)) (hi : (n : Nat) = i) (q : Nat) (hq : lv[q]? = some (i, .int x)) (k : J X nL cs sl (pc + 1) lv (.int x :: st) ws) : J X nL cs sl pc lv (st) ws :=
  fun H locs ls hP hD hS hl => lv_iload_n h.x h.b dd hi (lv_at hl q hq) (k H locs ls hP hD hS hl)
theorem J_iload (h : Ok X cc own nL cI cE d mc ms) {i : Nat} {x : Int32} (dd : decode cc pc = .ok (.iload i, 2)) (q : Nat) (hq : lv[q]? = some (i, .int x)) (k : J X nL cs sl (pc + 2) lv (.int x :: st) ws) : J X nL cs sl pc lv (st) ws :=
  fun H locs ls hP hD hS hl => lv_iload h.x h.b dd (lv_at hl q hq) (k H locs ls hP hD hS hl)
theorem J_lload_n (h : Ok X cc own nL cI cE d mc ms) {n : Fin 4} {i : Nat} {x : Int64} (dd : decode cc pc = .ok (.lload_n n, 1)) (hi : (n : Nat) = i) (q : Nat) (hq : lv[q]? = some (i, .long x)) (k : J X nL cs sl (pc + 1) lv (.long x :: st) ws) : J X nL cs sl pc lv (st) ws :=
  fun H locs ls hP hD hS hl => lv_lload_n h.x h.b dd hi (lv_at hl q hq) (k H locs ls hP hD hS hl)
theorem J_lload (h : Ok X cc own nL cI cE d mc ms) {i : Nat} {x : Int64} (dd : decode cc pc = .ok (.lload i, 2)) (q : Nat) (hq : lv[q]? = some (i, .long x)) (k : J X nL cs sl (pc + 2) lv (.long x :: st) ws) : J X nL cs sl pc lv (st) ws :=
  fun H locs ls hP hD hS hl => lv_lload h.x h.b dd (lv_at hl q hq) (k H locs ls hP hD hS hl)
theorem J_aload_n (h : Ok X cc own nL cI cE d mc ms) {n : Fin 4} {i x : Nat} (dd : decode cc pc = .ok (.aload_n n, 1)) (hi : (n : Nat) = i) (q : Nat) (hq : lv[q]? = some (i, .ref x)) (k : J X nL cs sl (pc + 1) lv (.ref x :: st) ws) : J X nL cs sl pc lv (st) ws :=
  fun H locs ls hP hD hS hl => lv_aload_n h.x h.b dd hi (lv_at hl q hq) (k H locs ls hP hD hS hl)
theorem J_aload (h : Ok X cc own nL cI cE d mc ms) {i x : Nat} (dd : decode cc pc = .ok (.aload i, 2)) (q : Nat) (hq : lv[q]? = some (i, .ref x)) (k : J X nL cs sl (pc + 2) lv (.ref x :: st) ws) : J X nL cs sl pc lv (st) ws :=
  fun H locs ls hP hD hS hl => lv_aload h.x h.b dd (lv_at hl q hq) (k H locs ls hP hD hS hl)
theorem J_istore_n (h : Ok X cc own nL cI cE d mc ms) {n : Fin 4} {i : Nat} {x : Int32} (dd : decode cc pc = .ok (.istore_n n, 1)) (hi : (n : Nat) = i) (hn : i < nL) (hv : (i, .int x) :: lv.filter (fun q => !(q.1 == i) && !(q.1 + 1 == i && q.2.category == 2)) = lv') (k : J X nL cs sl (pc + 1) lv' st ws) : J X nL cs sl pc lv (.int x :: st) ws :=
  fun H locs ls hP hD hS hl => lv_istore_n h.x h.b dd hi hl hn hv (fun ls' hl' => k H locs ls' hP hD hS hl')
theorem J_istore (h : Ok X cc own nL cI cE d mc ms) {i : Nat} {x : Int32} (dd : decode cc pc = .ok (.istore i, 2)) (hn : i < nL) (hv : (i, .int x) :: lv.filter (fun q => !(q.1 == i) && !(q.1 + 1 == i && q.2.category == 2)) = lv') (k : J X nL cs sl (pc + 2) lv' st ws) : J X nL cs sl pc lv (.int x :: st) ws :=
  fun H locs ls hP hD hS hl => lv_istore h.x h.b dd hl hn hv (fun ls' hl' => k H locs ls' hP hD hS hl')
theorem J_lstore_n (h : Ok X cc own nL cI cE d mc ms) {n : Fin 4} {i : Nat} {x : Int64} (dd : decode cc pc = .ok (.lstore_n n, 1)) (hi : (n : Nat) = i) (hn : i + 1 < nL) (hv : (i, .long x) :: lv.filter (fun q => !(q.1 == i) && (!(q.1 == i + 1) && !(q.1 + 1 == i && q.2.category == 2))) = lv') (k : J X nL cs sl (pc + 1) lv' st ws) : J X nL cs sl pc lv (.long x :: st) ws :=
  fun H locs ls hP hD hS hl => lv_lstore_n h.x h.b dd hi hl hn hv (fun ls' hl' => k H locs ls' hP hD hS hl')
theorem J_lstore (h : Ok X cc own nL cI cE d mc ms) {i : Nat} {x : Int64} (dd : decode cc pc = .ok (.lstore i, 2)) (hn : i + 1 < nL) (hv : (i, .long x) :: lv.filter (fun q => !(q.1 == i) && (!(q.1 == i + 1) && !(q.1 + 1 == i && q.2.category == 2))) = lv') (k : J X nL cs sl (pc + 2) lv' st ws) : J X nL cs sl pc lv (.long x :: st) ws :=
  fun H locs ls hP hD hS hl => lv_lstore h.x h.b dd hl hn hv (fun ls' hl' => k H locs ls' hP hD hS hl')
theorem J_astore_n (h : Ok X cc own nL cI cE d mc ms) {n : Fin 4} {i x : Nat} (dd : decode cc pc = .ok (.astore_n n, 1)) (hi : (n : Nat) = i) (hn : i < nL) (hv : (i, .ref x) :: lv.filter (fun q => !(q.1 == i) && !(q.1 + 1 == i && q.2.category == 2)) = lv') (k : J X nL cs sl (pc + 1) lv' st ws) : J X nL cs sl pc lv (.ref x :: st) ws :=
  fun H locs ls hP hD hS hl => lv_astore_n h.x h.b dd hi hl hn hv (fun ls' hl' => k H locs ls' hP hD hS hl')
theorem J_astore (h : Ok X cc own nL cI cE d mc ms) {i x : Nat} (dd : decode cc pc = .ok (.astore i, 2)) (hn : i < nL) (hv : (i, .ref x) :: lv.filter (fun q => !(q.1 == i) && !(q.1 + 1 == i && q.2.category == 2)) = lv') (k : J X nL cs sl (pc + 2) lv' st ws) : J X nL cs sl pc lv (.ref x :: st) ws :=
  fun H locs ls hP hD hS hl => lv_astore h.x h.b dd hl hn hv (fun ls' hl' => k H locs ls' hP hD hS hl')
theorem J_iinc (h : Ok X cc own nL cI cE d mc ms) {i : Nat} {n : Int} {x v : Int32} (dd : decode cc pc = .ok (.iinc i n, 3)) (q : Nat) (hq : lv[q]? = some (i, .int x)) (hx : x + Int32.ofInt n = v) (hn : i < nL) (hv : (i, .int v) :: lv.filter (fun q => !(q.1 == i) && !(q.1 + 1 == i && q.2.category == 2)) = lv') (k : J X nL cs sl (pc + 3) lv' st ws) : J X nL cs sl pc lv st ws :=
  fun H locs ls hP hD hS hl => lv_iinc h.x h.b dd hl hq hx hn hv (fun ls' hl' => k H locs ls' hP hD hS hl')
theorem J_iadd (h : Ok X cc own nL cI cE d mc ms) {x y : Int32} (dd : decode cc pc = .ok (.iadd, 1))  (k : J X nL cs sl (pc + 1) lv (.int (x + y) :: st) ws) : J X nL cs sl pc lv (.int y :: .int x :: st) ws :=
  fun H locs ls hP hD hS hl => lv_iadd h.x h.b dd (k H locs ls hP hD hS hl)
theorem J_isub (h : Ok X cc own nL cI cE d mc ms) {x y : Int32} (dd : decode cc pc = .ok (.isub, 1))  (k : J X nL cs sl (pc + 1) lv (.int (x - y) :: st) ws) : J X nL cs sl pc lv (.int y :: .int x :: st) ws :=
  fun H locs ls hP hD hS hl => lv_isub h.x h.b dd (k H locs ls hP hD hS hl)
theorem J_imul (h : Ok X cc own nL cI cE d mc ms) {x y : Int32} (dd : decode cc pc = .ok (.imul, 1))  (k : J X nL cs sl (pc + 1) lv (.int (x * y) :: st) ws) : J X nL cs sl pc lv (.int y :: .int x :: st) ws :=
  fun H locs ls hP hD hS hl => lv_imul h.x h.b dd (k H locs ls hP hD hS hl)
theorem J_iand (h : Ok X cc own nL cI cE d mc ms) {x y : Int32} (dd : decode cc pc = .ok (.iand, 1))  (k : J X nL cs sl (pc + 1) lv (.int (x &&& y) :: st) ws) : J X nL cs sl pc lv (.int y :: .int x :: st) ws :=
  fun H locs ls hP hD hS hl => lv_iand h.x h.b dd (k H locs ls hP hD hS hl)
theorem J_ior (h : Ok X cc own nL cI cE d mc ms) {x y : Int32} (dd : decode cc pc = .ok (.ior, 1))  (k : J X nL cs sl (pc + 1) lv (.int (x ||| y) :: st) ws) : J X nL cs sl pc lv (.int y :: .int x :: st) ws :=
  fun H locs ls hP hD hS hl => lv_ior h.x h.b dd (k H locs ls hP hD hS hl)
theorem J_idiv (h : Ok X cc own nL cI cE d mc ms) {x y : Int32} (dd : decode cc pc = .ok (.idiv, 1)) (hy : ¬ y = 0) (k : J X nL cs sl (pc + 1) lv (.int (x / y) :: st) ws) : J X nL cs sl pc lv (.int y :: .int x :: st) ws :=
  fun H locs ls hP hD hS hl => lv_idiv h.x h.b dd hy (k H locs ls hP hD hS hl)
theorem J_irem (h : Ok X cc own nL cI cE d mc ms) {x y : Int32} (dd : decode cc pc = .ok (.irem, 1)) (hy : ¬ y = 0) (k : J X nL cs sl (pc + 1) lv (.int (x - x / y * y) :: st) ws) : J X nL cs sl pc lv (.int y :: .int x :: st) ws :=
  fun H locs ls hP hD hS hl => lv_irem h.x h.b dd hy (k H locs ls hP hD hS hl)
theorem J_ineg (h : Ok X cc own nL cI cE d mc ms) {x : Int32} (dd : decode cc pc = .ok (.ineg, 1))  (k : J X nL cs sl (pc + 1) lv (.int (-x) :: st) ws) : J X nL cs sl pc lv (.int x :: st) ws :=
  fun H locs ls hP hD hS hl => lv_ineg h.x h.b dd (k H locs ls hP hD hS hl)
theorem J_ishl (h : Ok X cc own nL cI cE d mc ms) {x y : Int32} (dd : decode cc pc = .ok (.ishl, 1))  (k : J X nL cs sl (pc + 1) lv (.int (x <<< (y &&& 31)) :: st) ws) : J X nL cs sl pc lv (.int y :: .int x :: st) ws :=
  fun H locs ls hP hD hS hl => lv_ishl h.x h.b dd (k H locs ls hP hD hS hl)
theorem J_ishr (h : Ok X cc own nL cI cE d mc ms) {x y : Int32} (dd : decode cc pc = .ok (.ishr, 1))  (k : J X nL cs sl (pc + 1) lv (.int (x >>> (y &&& 31)) :: st) ws) : J X nL cs sl pc lv (.int y :: .int x :: st) ws :=
  fun H locs ls hP hD hS hl => lv_ishr h.x h.b dd (k H locs ls hP hD hS hl)
theorem J_ladd (h : Ok X cc own nL cI cE d mc ms) {x y : Int64} (dd : decode cc pc = .ok (.ladd, 1))  (k : J X nL cs sl (pc + 1) lv (.long (x + y) :: st) ws) : J X nL cs sl pc lv (.long y :: .long x :: st) ws :=
  fun H locs ls hP hD hS hl => lv_ladd h.x h.b dd (k H locs ls hP hD hS hl)
theorem J_lsub (h : Ok X cc own nL cI cE d mc ms) {x y : Int64} (dd : decode cc pc = .ok (.lsub, 1))  (k : J X nL cs sl (pc + 1) lv (.long (x - y) :: st) ws) : J X nL cs sl pc lv (.long y :: .long x :: st) ws :=
  fun H locs ls hP hD hS hl => lv_lsub h.x h.b dd (k H locs ls hP hD hS hl)
theorem J_lmul (h : Ok X cc own nL cI cE d mc ms) {x y : Int64} (dd : decode cc pc = .ok (.lmul, 1))  (k : J X nL cs sl (pc + 1) lv (.long (x * y) :: st) ws) : J X nL cs sl pc lv (.long y :: .long x :: st) ws :=
  fun H locs ls hP hD hS hl => lv_lmul h.x h.b dd (k H locs ls hP hD hS hl)
theorem J_ldiv (h : Ok X cc own nL cI cE d mc ms) {x y : Int64} (dd : decode cc pc = .ok (.ldiv, 1)) (hy : ¬ y = 0) (k : J X nL cs sl (pc + 1) lv (.long (x / y) :: st) ws) : J X nL cs sl pc lv (.long y :: .long x :: st) ws :=
  fun H locs ls hP hD hS hl => lv_ldiv h.x h.b dd hy (k H locs ls hP hD hS hl)
theorem J_lrem (h : Ok X cc own nL cI cE d mc ms) {x y : Int64} (dd : decode cc pc = .ok (.lrem, 1)) (hy : ¬ y = 0) (k : J X nL cs sl (pc + 1) lv (.long (x - x / y * y) :: st) ws) : J X nL cs sl pc lv (.long y :: .long x :: st) ws :=
  fun H locs ls hP hD hS hl => lv_lrem h.x h.b dd hy (k H locs ls hP hD hS hl)
theorem J_lcmp (h : Ok X cc own nL cI cE d mc ms) {x y : Int64} (dd : decode cc pc = .ok (.lcmp, 1))  (k : J X nL cs sl (pc + 1) lv (.int (lg_cmp x y) :: st) ws) : J X nL cs sl pc lv (.long y :: .long x :: st) ws :=
  fun H locs ls hP hD hS hl => W.lcmp h.x h.b dd (k H locs ls hP hD hS hl)
theorem J_i2l (h : Ok X cc own nL cI cE d mc ms) {x : Int32} (dd : decode cc pc = .ok (.i2l, 1))  (k : J X nL cs sl (pc + 1) lv (.long x.toInt64 :: st) ws) : J X nL cs sl pc lv (.int x :: st) ws :=
  fun H locs ls hP hD hS hl => lv_i2l h.x h.b dd rfl (k H locs ls hP hD hS hl)
theorem J_l2i (h : Ok X cc own nL cI cE d mc ms) {x : Int64} (dd : decode cc pc = .ok (.l2i, 1))  (k : J X nL cs sl (pc + 1) lv (.int x.toInt32 :: st) ws) : J X nL cs sl pc lv (.long x :: st) ws :=
  fun H locs ls hP hD hS hl => lv_l2i h.x h.b dd rfl (k H locs ls hP hD hS hl)
theorem J_dup (h : Ok X cc own nL cI cE d mc ms) {v : Value} (dd : decode cc pc = .ok (.dup, 1)) (hv : v.category = 1) (k : J X nL cs sl (pc + 1) lv (v :: v :: st) ws) : J X nL cs sl pc lv (v :: st) ws :=
  fun H locs ls hP hD hS hl => lv_dup h.x h.b dd hv (k H locs ls hP hD hS hl)
theorem J_pop (h : Ok X cc own nL cI cE d mc ms) {v : Value} (dd : decode cc pc = .ok (.pop, 1)) (hv : v.category = 1) (k : J X nL cs sl (pc + 1) lv (st) ws) : J X nL cs sl pc lv (v :: st) ws :=
  fun H locs ls hP hD hS hl => lv_pop h.x h.b dd hv (k H locs ls hP hD hS hl)
theorem J_dup_x1 (h : Ok X cc own nL cI cE d mc ms) {v u : Value} (dd : decode cc pc = .ok (.dup_x1, 1)) (hv : v.category = 1) (hu : u.category = 1) (k : J X nL cs sl (pc + 1) lv (v :: u :: v :: st) ws) : J X nL cs sl pc lv (v :: u :: st) ws :=
  fun H locs ls hP hD hS hl => lv_dup_x1 h.x h.b dd hv hu (k H locs ls hP hD hS hl)
theorem J_dup2 (h : Ok X cc own nL cI cE d mc ms) {v u : Value} (dd : decode cc pc = .ok (.dup2, 1)) (hv : v.category = 1) (hu : u.category = 1) (k : J X nL cs sl (pc + 1) lv (v :: u :: v :: u :: st) ws) : J X nL cs sl pc lv (v :: u :: st) ws :=
  fun H locs ls hP hD hS hl => lv_dup2_11 h.x h.b dd hv hu (k H locs ls hP hD hS hl)
theorem J_if_eq (h : Ok X cc own nL cI cE d mc ms) {x : Int32} {off : Int} (tgt : Nat) (dd : decode cc pc = .ok (.ifCond .eq off, 3)) (ht : (pc : Int) + off = (tgt : Int)) (kt : x = 0 → J X nL cs sl tgt lv st ws) (kf : ¬ x = 0 → J X nL cs sl (pc + 3) lv st ws) : J X nL cs sl pc lv (.int x :: st) ws :=
  fun H locs ls hP hD hS hl => lv_if_eq h.x h.b dd ht (fun z => kt z H locs ls hP hD hS hl) (fun z => kf z H locs ls hP hD hS hl)
theorem J_icmp_eq (h : Ok X cc own nL cI cE d mc ms) {x y : Int32} {off : Int} (tgt : Nat) (dd : decode cc pc = .ok (.if_icmp .eq off, 3)) (ht : (pc : Int) + off = (tgt : Int)) (kt : x = y → J X nL cs sl tgt lv st ws) (kf : ¬ x = y → J X nL cs sl (pc + 3) lv st ws) : J X nL cs sl pc lv (.int y :: .int x :: st) ws :=
  fun H locs ls hP hD hS hl => lv_icmp_eq h.x h.b dd ht (fun z => kt z H locs ls hP hD hS hl) (fun z => kf z H locs ls hP hD hS hl)
theorem J_if_ne (h : Ok X cc own nL cI cE d mc ms) {x : Int32} {off : Int} (tgt : Nat) (dd : decode cc pc = .ok (.ifCond .ne off, 3)) (ht : (pc : Int) + off = (tgt : Int)) (kt : ¬ x = 0 → J X nL cs sl tgt lv st ws) (kf : x = 0 → J X nL cs sl (pc + 3) lv st ws) : J X nL cs sl pc lv (.int x :: st) ws :=
  fun H locs ls hP hD hS hl => lv_if_ne h.x h.b dd ht (fun z => kt z H locs ls hP hD hS hl) (fun z => kf z H locs ls hP hD hS hl)
theorem J_icmp_ne (h : Ok X cc own nL cI cE d mc ms) {x y : Int32} {off : Int} (tgt : Nat) (dd : decode cc pc = .ok (.if_icmp .ne off, 3)) (ht : (pc : Int) + off = (tgt : Int)) (kt : ¬ x = y → J X nL cs sl tgt lv st ws) (kf : x = y → J X nL cs sl (pc + 3) lv st ws) : J X nL cs sl pc lv (.int y :: .int x :: st) ws :=
  fun H locs ls hP hD hS hl => lv_icmp_ne h.x h.b dd ht (fun z => kt z H locs ls hP hD hS hl) (fun z => kf z H locs ls hP hD hS hl)
theorem J_if_lt (h : Ok X cc own nL cI cE d mc ms) {x : Int32} {off : Int} (tgt : Nat) (dd : decode cc pc = .ok (.ifCond .lt off, 3)) (ht : (pc : Int) + off = (tgt : Int)) (kt : x < 0 → J X nL cs sl tgt lv st ws) (kf : ¬ x < 0 → J X nL cs sl (pc + 3) lv st ws) : J X nL cs sl pc lv (.int x :: st) ws :=
  fun H locs ls hP hD hS hl => lv_if_lt h.x h.b dd ht (fun z => kt z H locs ls hP hD hS hl) (fun z => kf z H locs ls hP hD hS hl)
theorem J_icmp_lt (h : Ok X cc own nL cI cE d mc ms) {x y : Int32} {off : Int} (tgt : Nat) (dd : decode cc pc = .ok (.if_icmp .lt off, 3)) (ht : (pc : Int) + off = (tgt : Int)) (kt : x < y → J X nL cs sl tgt lv st ws) (kf : ¬ x < y → J X nL cs sl (pc + 3) lv st ws) : J X nL cs sl pc lv (.int y :: .int x :: st) ws :=
  fun H locs ls hP hD hS hl => lv_icmp_lt h.x h.b dd ht (fun z => kt z H locs ls hP hD hS hl) (fun z => kf z H locs ls hP hD hS hl)
theorem J_if_ge (h : Ok X cc own nL cI cE d mc ms) {x : Int32} {off : Int} (tgt : Nat) (dd : decode cc pc = .ok (.ifCond .ge off, 3)) (ht : (pc : Int) + off = (tgt : Int)) (kt : 0 ≤ x → J X nL cs sl tgt lv st ws) (kf : ¬ 0 ≤ x → J X nL cs sl (pc + 3) lv st ws) : J X nL cs sl pc lv (.int x :: st) ws :=
  fun H locs ls hP hD hS hl => lv_if_ge h.x h.b dd ht (fun z => kt z H locs ls hP hD hS hl) (fun z => kf z H locs ls hP hD hS hl)
theorem J_icmp_ge (h : Ok X cc own nL cI cE d mc ms) {x y : Int32} {off : Int} (tgt : Nat) (dd : decode cc pc = .ok (.if_icmp .ge off, 3)) (ht : (pc : Int) + off = (tgt : Int)) (kt : y ≤ x → J X nL cs sl tgt lv st ws) (kf : ¬ y ≤ x → J X nL cs sl (pc + 3) lv st ws) : J X nL cs sl pc lv (.int y :: .int x :: st) ws :=
  fun H locs ls hP hD hS hl => lv_icmp_ge h.x h.b dd ht (fun z => kt z H locs ls hP hD hS hl) (fun z => kf z H locs ls hP hD hS hl)
theorem J_if_gt (h : Ok X cc own nL cI cE d mc ms) {x : Int32} {off : Int} (tgt : Nat) (dd : decode cc pc = .ok (.ifCond .gt off, 3)) (ht : (pc : Int) + off = (tgt : Int)) (kt : 0 < x → J X nL cs sl tgt lv st ws) (kf : ¬ 0 < x → J X nL cs sl (pc + 3) lv st ws) : J X nL cs sl pc lv (.int x :: st) ws :=
  fun H locs ls hP hD hS hl => lv_if_gt h.x h.b dd ht (fun z => kt z H locs ls hP hD hS hl) (fun z => kf z H locs ls hP hD hS hl)
theorem J_icmp_gt (h : Ok X cc own nL cI cE d mc ms) {x y : Int32} {off : Int} (tgt : Nat) (dd : decode cc pc = .ok (.if_icmp .gt off, 3)) (ht : (pc : Int) + off = (tgt : Int)) (kt : y < x → J X nL cs sl tgt lv st ws) (kf : ¬ y < x → J X nL cs sl (pc + 3) lv st ws) : J X nL cs sl pc lv (.int y :: .int x :: st) ws :=
  fun H locs ls hP hD hS hl => lv_icmp_gt h.x h.b dd ht (fun z => kt z H locs ls hP hD hS hl) (fun z => kf z H locs ls hP hD hS hl)
theorem J_if_le (h : Ok X cc own nL cI cE d mc ms) {x : Int32} {off : Int} (tgt : Nat) (dd : decode cc pc = .ok (.ifCond .le off, 3)) (ht : (pc : Int) + off = (tgt : Int)) (kt : x ≤ 0 → J X nL cs sl tgt lv st ws) (kf : ¬ x ≤ 0 → J X nL cs sl (pc + 3) lv st ws) : J X nL cs sl pc lv (.int x :: st) ws :=
  fun H locs ls hP hD hS hl => lv_if_le h.x h.b dd ht (fun z => kt z H locs ls hP hD hS hl) (fun z => kf z H locs ls hP hD hS hl)
theorem J_icmp_le (h : Ok X cc own nL cI cE d mc ms) {x y : Int32} {off : Int} (tgt : Nat) (dd : decode cc pc = .ok (.if_icmp .le off, 3)) (ht : (pc : Int) + off = (tgt : Int)) (kt : x ≤ y → J X nL cs sl tgt lv st ws) (kf : ¬ x ≤ y → J X nL cs sl (pc + 3) lv st ws) : J X nL cs sl pc lv (.int y :: .int x :: st) ws :=
  fun H locs ls hP hD hS hl => lv_icmp_le h.x h.b dd ht (fun z => kt z H locs ls hP hD hS hl) (fun z => kf z H locs ls hP hD hS hl)
theorem N_icmp_eq (h : Ok X cc own nL cI cE d mc ms) {a b : Nat} {off : Int} (tgt : Nat) (dd : decode cc pc = .ok (.if_icmp .eq off, 3)) (ht : (pc : Int) + off = (tgt : Int)) (ha : a < 2147483648) (hb : b < 2147483648) (kt : a = b → J X nL cs sl tgt lv st ws) (kf : a ≠ b → J X nL cs sl (pc + 3) lv st ws) : J X nL cs sl pc lv (.int (nI b) :: .int (nI a) :: st) ws :=
  J_icmp_eq h tgt dd ht (fun z => kt ((nI_eq ha hb).mp z)) (fun z => kf (fun q => z ((nI_eq ha hb).mpr q)))
theorem N_icmp_ne (h : Ok X cc own nL cI cE d mc ms) {a b : Nat} {off : Int} (tgt : Nat) (dd : decode cc pc = .ok (.if_icmp .ne off, 3)) (ht : (pc : Int) + off = (tgt : Int)) (ha : a < 2147483648) (hb : b < 2147483648) (kt : a ≠ b → J X nL cs sl tgt lv st ws) (kf : a = b → J X nL cs sl (pc + 3) lv st ws) : J X nL cs sl pc lv (.int (nI b) :: .int (nI a) :: st) ws :=
  J_icmp_ne h tgt dd ht (fun z => kt (fun q => z ((nI_eq ha hb).mpr q))) (fun z => kf ((nI_eq ha hb).mp z))
theorem N_icmp_lt (h : Ok X cc own nL cI cE d mc ms) {a b : Nat} {off : Int} (tgt : Nat) (dd : decode cc pc = .ok (.if_icmp .lt off, 3)) (ht : (pc : Int) + off = (tgt : Int)) (ha : a < 2147483648) (hb : b < 2147483648) (kt : a < b → J X nL cs sl tgt lv st ws) (kf : b ≤ a → J X nL cs sl (pc + 3) lv st ws) : J X nL cs sl pc lv (.int (nI b) :: .int (nI a) :: st) ws :=
  J_icmp_lt h tgt dd ht (fun z => kt ((nI_ltI ha hb).mp z)) (fun z => kf (Nat.not_lt.mp fun q => z ((nI_ltI ha hb).mpr q)))
theorem N_icmp_ge (h : Ok X cc own nL cI cE d mc ms) {a b : Nat} {off : Int} (tgt : Nat) (dd : decode cc pc = .ok (.if_icmp .ge off, 3)) (ht : (pc : Int) + off = (tgt : Int)) (ha : a < 2147483648) (hb : b < 2147483648) (kt : b ≤ a → J X nL cs sl tgt lv st ws) (kf : a < b → J X nL cs sl (pc + 3) lv st ws) : J X nL cs sl pc lv (.int (nI b) :: .int (nI a) :: st) ws :=
  J_icmp_ge h tgt dd ht (fun z => kt ((nI_leI hb ha).mp z)) (fun z => kf (Nat.not_le.mp fun q => z ((nI_leI hb ha).mpr q)))
theorem N_icmp_gt (h : Ok X cc own nL cI cE d mc ms) {a b : Nat} {off : Int} (tgt : Nat) (dd : decode cc pc = .ok (.if_icmp .gt off, 3)) (ht : (pc : Int) + off = (tgt : Int)) (ha : a < 2147483648) (hb : b < 2147483648) (kt : b < a → J X nL cs sl tgt lv st ws) (kf : a ≤ b → J X nL cs sl (pc + 3) lv st ws) : J X nL cs sl pc lv (.int (nI b) :: .int (nI a) :: st) ws :=
  J_icmp_gt h tgt dd ht (fun z => kt ((nI_ltI hb ha).mp z)) (fun z => kf (Nat.not_lt.mp fun q => z ((nI_ltI hb ha).mpr q)))
theorem N_icmp_le (h : Ok X cc own nL cI cE d mc ms) {a b : Nat} {off : Int} (tgt : Nat) (dd : decode cc pc = .ok (.if_icmp .le off, 3)) (ht : (pc : Int) + off = (tgt : Int)) (ha : a < 2147483648) (hb : b < 2147483648) (kt : a ≤ b → J X nL cs sl tgt lv st ws) (kf : b < a → J X nL cs sl (pc + 3) lv st ws) : J X nL cs sl pc lv (.int (nI b) :: .int (nI a) :: st) ws :=
  J_icmp_le h tgt dd ht (fun z => kt ((nI_leI ha hb).mp z)) (fun z => kf (Nat.not_le.mp fun q => z ((nI_leI ha hb).mpr q)))
theorem N_if_eq (h : Ok X cc own nL cI cE d mc ms) {a : Nat} {off : Int} (tgt : Nat) (dd : decode cc pc = .ok (.ifCond .eq off, 3)) (ht : (pc : Int) + off = (tgt : Int)) (ha : a < 2147483648) (kt : a = 0 → J X nL cs sl tgt lv st ws) (kf : a ≠ 0 → J X nL cs sl (pc + 3) lv st ws) : J X nL cs sl pc lv (.int (nI a) :: st) ws :=
  J_if_eq h tgt dd ht (fun z => kt ((nI_eq ha (by decide)).mp (z.trans nI_0.symm))) (fun z => kf (fun q => z (by rw [q]; exact nI_0)))
theorem N_if_ne (h : Ok X cc own nL cI cE d mc ms) {a : Nat} {off : Int} (tgt : Nat) (dd : decode cc pc = .ok (.ifCond .ne off, 3)) (ht : (pc : Int) + off = (tgt : Int)) (ha : a < 2147483648) (kt : a ≠ 0 → J X nL cs sl tgt lv st ws) (kf : a = 0 → J X nL cs sl (pc + 3) lv st ws) : J X nL cs sl pc lv (.int (nI a) :: st) ws :=
  J_if_ne h tgt dd ht (fun z => kt (fun q => z (by rw [q]; exact nI_0))) (fun z => kf ((nI_eq ha (by decide)).mp (z.trans nI_0.symm)))
theorem N_if_gt (h : Ok X cc own nL cI cE d mc ms) {a : Nat} {off : Int} (tgt : Nat) (dd : decode cc pc = .ok (.ifCond .gt off, 3)) (ht : (pc : Int) + off = (tgt : Int)) (ha : a < 2147483648) (kt : 0 < a → J X nL cs sl tgt lv st ws) (kf : a = 0 → J X nL cs sl (pc + 3) lv st ws) : J X nL cs sl pc lv (.int (nI a) :: st) ws :=
  J_if_gt h tgt dd ht (fun z => kt ((nI_ltI (a := 0) (by decide) ha).mp z)) (fun z => kf (Nat.eq_zero_of_not_pos fun q => z ((nI_ltI (a := 0) (by decide) ha).mpr q)))
theorem N_if_le (h : Ok X cc own nL cI cE d mc ms) {a : Nat} {off : Int} (tgt : Nat) (dd : decode cc pc = .ok (.ifCond .le off, 3)) (ht : (pc : Int) + off = (tgt : Int)) (ha : a < 2147483648) (kt : a = 0 → J X nL cs sl tgt lv st ws) (kf : 0 < a → J X nL cs sl (pc + 3) lv st ws) : J X nL cs sl pc lv (.int (nI a) :: st) ws :=
  J_if_le h tgt dd ht (fun z => kt (Nat.eq_zero_of_le_zero ((nI_leI (b := 0) ha (by decide)).mp z))) (fun z => kf (Nat.not_le.mp fun q => z ((nI_leI (b := 0) ha (by decide)).mpr q)))
theorem T_icmp_eq (h : Ok X cc own nL cI cE d mc ms) {x y : Int32} {A B : Int} {off : Int} (tgt : Nat) (dd : decode cc pc = .ok (.if_icmp .eq off, 3)) (ht : (pc : Int) + off = (tgt : Int)) (hx : x.toInt = A) (hy : y.toInt = B) (kt : A = B → J X nL cs sl tgt lv st ws) (kf : A ≠ B → J X nL cs sl (pc + 3) lv st ws) : J X nL cs sl pc lv (.int y :: .int x :: st) ws :=
  J_icmp_eq h tgt dd ht (fun z => kt (by rw [← hx, ← hy, z])) (fun z => kf (fun q => z (Int32.toInt_inj.mp (by rw [hx, hy, q]))))
theorem T_if_eq (h : Ok X cc own nL cI cE d mc ms) {x : Int32} {A : Int} {off : Int} (tgt : Nat) (dd : decode cc pc = .ok (.ifCond .eq off, 3)) (ht : (pc : Int) + off = (tgt : Int)) (hx : x.toInt = A) (kt : A = 0 → J X nL cs sl tgt lv st ws) (kf : A ≠ 0 → J X nL cs sl (pc + 3) lv st ws) : J X nL cs sl pc lv (.int x :: st) ws :=
  have hy : (0 : Int32).toInt = 0 := rfl
  J_if_eq h tgt dd ht (fun z => kt (by rw [← hx, ← hy, z])) (fun z => kf (fun q => z (Int32.toInt_inj.mp (by rw [hx, hy, q]))))
theorem T_icmp_ne (h : Ok X cc own nL cI cE d mc ms) {x y : Int32} {A B : Int} {off : Int} (tgt : Nat) (dd : decode cc pc = .ok (.if_icmp .ne off, 3)) (ht : (pc : Int) + off = (tgt : Int)) (hx : x.toInt = A) (hy : y.toInt = B) (kt : A ≠ B → J X nL cs sl tgt lv st ws) (kf : A = B → J X nL cs sl (pc + 3) lv st ws) : J X nL cs sl pc lv (.int y :: .int x :: st) ws :=
  J_icmp_ne h tgt dd ht (fun z => kt (fun q => z (Int32.toInt_inj.mp (by rw [hx, hy, q])))) (fun z => kf (by rw [← hx, ← hy, z]))
theorem T_if_ne (h : Ok X cc own nL cI cE d mc ms) {x : Int32} {A : Int} {off : Int} (tgt : Nat) (dd : decode cc pc = .ok (.ifCond .ne off, 3)) (ht : (pc : Int) + off = (tgt : Int)) (hx : x.toInt = A) (kt : A ≠ 0 → J X nL cs sl tgt lv st ws) (kf : A = 0 → J X nL cs sl (pc + 3) lv st ws) : J X nL cs sl pc lv (.int x :: st) ws :=
  have hy : (0 : Int32).toInt = 0 := rfl
  J_if_ne h tgt dd ht (fun z => kt (fun q => z (Int32.toInt_inj.mp (by rw [hx, hy, q])))) (fun z => kf (by rw [← hx, ← hy, z]))
theorem T_icmp_lt (h : Ok X cc own nL cI cE d mc ms) {x y : Int32} {A B : Int} {off : Int} (tgt : Nat) (dd : decode cc pc = .ok (.if_icmp .lt off, 3)) (ht : (pc : Int) + off = (tgt : Int)) (hx : x.toInt = A) (hy : y.toInt = B) (kt : A < B → J X nL cs sl tgt lv st ws) (kf : B ≤ A → J X nL cs sl (pc + 3) lv st ws) : J X nL cs sl pc lv (.int y :: .int x :: st) ws :=
  J_icmp_lt h tgt dd ht (fun z => kt (by rw [← hx, ← hy]; exact Int32.lt_iff_toInt_lt.mp z)) (fun z => kf (by rw [← hx, ← hy]; exact Int.not_lt.mp fun q => z (Int32.lt_iff_toInt_lt.mpr q)))
theorem T_if_lt (h : Ok X cc own nL cI cE d mc ms) {x : Int32} {A : Int} {off : Int} (tgt : Nat) (dd : decode cc pc = .ok (.ifCond .lt off, 3)) (ht : (pc : Int) + off = (tgt : Int)) (hx : x.toInt = A) (kt : A < 0 → J X nL cs sl tgt lv st ws) (kf : 0 ≤ A → J X nL cs sl (pc + 3) lv st ws) : J X nL cs sl pc lv (.int x :: st) ws :=
  have hy : (0 : Int32).toInt = 0 := rfl
  J_if_lt h tgt dd ht (fun z => kt (by rw [← hx, ← hy]; exact Int32.lt_iff_toInt_lt.mp z)) (fun z => kf (by rw [← hx, ← hy]; exact Int.not_lt.mp fun q => z (Int32.lt_iff_toInt_lt.mpr q)))
theorem T_icmp_ge (h : Ok X cc own nL cI cE d mc ms) {x y : Int32} {A B : Int} {off : Int} (tgt : Nat) (dd : decode cc pc = .ok (.if_icmp .ge off, 3)) (ht : (pc : Int) + off = (tgt : Int)) (hx : x.toInt = A) (hy : y.toInt = B) (kt : B ≤ A → J X nL cs sl tgt lv st ws) (kf : A < B → J X nL cs sl (pc + 3) lv st ws) : J X nL cs sl pc lv (.int y :: .int x :: st) ws :=
  J_icmp_ge h tgt dd ht (fun z => kt (by rw [← hx, ← hy]; exact Int32.le_iff_toInt_le.mp z)) (fun z => kf (by rw [← hx, ← hy]; exact Int.not_le.mp fun q => z (Int32.le_iff_toInt_le.mpr q)))
theorem T_if_ge (h : Ok X cc own nL cI cE d mc ms) {x : Int32} {A : Int} {off : Int} (tgt : Nat) (dd : decode cc pc = .ok (.ifCond .ge off, 3)) (ht : (pc : Int) + off = (tgt : Int)) (hx : x.toInt = A) (kt : 0 ≤ A → J X nL cs sl tgt lv st ws) (kf : A < 0 → J X nL cs sl (pc + 3) lv st ws) : J X nL cs sl pc lv (.int x :: st) ws :=
  have hy : (0 : Int32).toInt = 0 := rfl
  J_if_ge h tgt dd ht (fun z => kt (by rw [← hx, ← hy]; exact Int32.le_iff_toInt_le.mp z)) (fun z => kf (by rw [← hx, ← hy]; exact Int.not_le.mp fun q => z (Int32.le_iff_toInt_le.mpr q)))
theorem T_icmp_gt (h : Ok X cc own nL cI cE d mc ms) {x y : Int32} {A B : Int} {off : Int} (tgt : Nat) (dd : decode cc pc = .ok (.if_icmp .gt off, 3)) (ht : (pc : Int) + off = (tgt : Int)) (hx : x.toInt = A) (hy : y.toInt = B) (kt : B < A → J X nL cs sl tgt lv st ws) (kf : A ≤ B → J X nL cs sl (pc + 3) lv st ws) : J X nL cs sl pc lv (.int y :: .int x :: st) ws :=
  J_icmp_gt h tgt dd ht (fun z => kt (by rw [← hx, ← hy]; exact Int32.lt_iff_toInt_lt.mp z)) (fun z => kf (by rw [← hx, ← hy]; exact Int.not_lt.mp fun q => z (Int32.lt_iff_toInt_lt.mpr q)))
theorem T_if_gt (h : Ok X cc own nL cI cE d mc ms) {x : Int32} {A : Int} {off : Int} (tgt : Nat) (dd : decode cc pc = .ok (.ifCond .gt off, 3)) (ht : (pc : Int) + off = (tgt : Int)) (hx : x.toInt = A) (kt : 0 < A → J X nL cs sl tgt lv st ws) (kf : A ≤ 0 → J X nL cs sl (pc + 3) lv st ws) : J X nL cs sl pc lv (.int x :: st) ws :=
  have hy : (0 : Int32).toInt = 0 := rfl
  J_if_gt h tgt dd ht (fun z => kt (by rw [← hx, ← hy]; exact Int32.lt_iff_toInt_lt.mp z)) (fun z => kf (by rw [← hx, ← hy]; exact Int.not_lt.mp fun q => z (Int32.lt_iff_toInt_lt.mpr q)))
theorem T_icmp_le (h : Ok X cc own nL cI cE d mc ms) {x y : Int32} {A B : Int} {off : Int} (tgt : Nat) (dd : decode cc pc = .ok (.if_icmp .le off, 3)) (ht : (pc : Int) + off = (tgt : Int)) (hx : x.toInt = A) (hy : y.toInt = B) (kt : A ≤ B → J X nL cs sl tgt lv st ws) (kf : B < A → J X nL cs sl (pc + 3) lv st ws) : J X nL cs sl pc lv (.int y :: .int x :: st) ws :=
  J_icmp_le h tgt dd ht (fun z => kt (by rw [← hx, ← hy]; exact Int32.le_iff_toInt_le.mp z)) (fun z => kf (by rw [← hx, ← hy]; exact Int.not_le.mp fun q => z (Int32.le_iff_toInt_le.mpr q)))
theorem T_if_le (h : Ok X cc own nL cI cE d mc ms) {x : Int32} {A : Int} {off : Int} (tgt : Nat) (dd : decode cc pc = .ok (.ifCond .le off, 3)) (ht : (pc : Int) + off = (tgt : Int)) (hx : x.toInt = A) (kt : A ≤ 0 → J X nL cs sl tgt lv st ws) (kf : 0 < A → J X nL cs sl (pc + 3) lv st ws) : J X nL cs sl pc lv (.int x :: st) ws :=
  have hy : (0 : Int32).toInt = 0 := rfl
  J_if_le h tgt dd ht (fun z => kt (by rw [← hx, ← hy]; exact Int32.le_iff_toInt_le.mp z)) (fun z => kf (by rw [← hx, ← hy]; exact Int.not_le.mp fun q => z (Int32.le_iff_toInt_le.mpr q)))
theorem N_if_lt (h : Ok X cc own nL cI cE d mc ms) {a : Nat} {off : Int} (tgt : Nat) (dd : decode cc pc = .ok (.ifCond .lt off, 3)) (ht : (pc : Int) + off = (tgt : Int)) (ha : a < 2147483648) (kf : J X nL cs sl (pc + 3) lv st ws) : J X nL cs sl pc lv (.int (nI a) :: st) ws :=
  J_if_lt h tgt dd ht (fun z => absurd z (nI_pos ha)) (fun _ => kf)
theorem N_if_ge (h : Ok X cc own nL cI cE d mc ms) {a : Nat} {off : Int} (tgt : Nat) (dd : decode cc pc = .ok (.ifCond .ge off, 3)) (ht : (pc : Int) + off = (tgt : Int)) (ha : a < 2147483648) (kt : J X nL cs sl tgt lv st ws) : J X nL cs sl pc lv (.int (nI a) :: st) ws :=
  J_if_ge h tgt dd ht (fun _ => kt) (fun z => absurd (nI_pos' ha) z)
theorem J_goto (h : Ok X cc own nL cI cE d mc ms) {off : Int} (tgt : Nat) (dd : decode cc pc = .ok (.goto off, 3)) (ht : (pc : Int) + off = (tgt : Int)) (k : J X nL cs sl tgt lv st ws) : J X nL cs sl pc lv st ws :=
  fun H locs ls hP hD hS hl => lv_goto h.x h.b dd ht (k H locs ls hP hD hS hl)
theorem J_tabOut (h : Ok X cc own nL cI cE d mc ms) {dflt lo hi : Int} {offs : Array Int} {len : Nat} {x : Int32} (tgt : Nat) (dd : decode cc pc = .ok (.tableswitch dflt lo hi offs, len)) (hx : x.toInt < lo ∨ hi < x.toInt) (ht : (pc : Int) + dflt = (tgt : Int)) (k : J X nL cs sl tgt lv st ws) : J X nL cs sl pc lv (.int x :: st) ws :=
  fun H locs ls hP hD hS hl => lv_tableOut h.x h.b dd hx ht (k H locs ls hP hD hS hl)
theorem J_tabIn (h : Ok X cc own nL cI cE d mc ms) {dflt lo hi : Int} {offs : Array Int} {len : Nat} {x : Int32} {off : Int} (tgt : Nat) (dd : decode cc pc = .ok (.tableswitch dflt lo hi offs, len)) (h1 : ¬ x.toInt < lo) (h2 : ¬ hi < x.toInt) (ho : offs[(x.toInt - lo).toNat]? = some off) (ht : (pc : Int) + off = (tgt : Int)) (k : J X nL cs sl tgt lv st ws) : J X nL cs sl pc lv (.int x :: st) ws :=
  fun H locs ls hP hD hS hl => lv_tableIn h.x h.b dd h1 h2 ho ht (k H locs ls hP hD hS hl)
theorem J_look (h : Ok X cc own nL cI cE d mc ms) {dflt : Int} {ps : Array (Int × Int)} {len : Nat} {x : Int32} {off : Int} (tgt : Nat) (dd : decode cc pc = .ok (.lookupswitch dflt ps, len)) (hp : (ps.toList.zip (ps.toList.drop 1)).all (fun (a, next) => a.1 < next.1) = true) (ho : Op.lookupswitch.offset ps.toList dflt x.toInt = off) (ht : (pc : Int) + off = (tgt : Int)) (k : J X nL cs sl tgt lv st ws) : J X nL cs sl pc lv (.int x :: st) ws :=
  fun H locs ls hP hD hS hl => lv_lookup h.x h.b dd hp ho ht (k H locs ls hP hD hS hl)
theorem J_ifnonnull (h : Ok X cc own nL cI cE d mc ms) {x : Nat} {off : Int} (tgt : Nat) (dd : decode cc pc = .ok (.ifnonnull off, 3)) (ht : (pc : Int) + off = (tgt : Int)) (k : J X nL cs sl tgt lv st ws) : J X nL cs sl pc lv (.ref x :: st) ws :=
  fun H locs ls hP hD hS hl => lv_ifnonnull h.x h.b dd ht (k H locs ls hP hD hS hl)
theorem J_ldc (h : Ok X cc own nL cI cE d mc ms) {index : Nat} {v : Int32} (hw : Cond.constant own index v ∈ lw_tbl) (dd : decode cc pc = .ok (.ldc index, 2)) (k : J X nL cs sl (pc + 2) lv (.int v :: st) ws) : J X nL cs sl pc lv st ws :=
  fun H locs ls hP hD hS hl => lv_ldc h.x h.b h.o (h.t _ hw) dd (k H locs ls hP hD hS hl)
theorem J_ldc2 (h : Ok X cc own nL cI cE d mc ms) {index : Nat} {v : Int64} (hw : Cond.constantLong own index v ∈ lw_tbl) (dd : decode cc pc = .ok (.ldc2_w index, 3)) (k : J X nL cs sl (pc + 3) lv (.long v :: st) ws) : J X nL cs sl pc lv st ws :=
  fun H locs ls hP hD hS hl => lv_ldc2 h.x h.b h.o (h.t _ hw) dd (k H locs ls hP hD hS hl)
theorem J_get (h : Ok X cc own nL cI cE d mc ms) {C : String} {T : u_T} {N ci index a : Nat} {fs : List Value} {v : Value} (hin : ∀ w ∈ u_ws C T N, w ∈ lw_tbl) (hc : vwCl[ci]? = some (C, T, N)) (q0 f : Nat) (hf : f < N) (he : ws[q0]? = some (a, .inr (ci, fs))) (hv : fs[f]? = some v) (hlk : Cond.fieldLink own index (T f).1 (T f).2.1 (T f).2.2.1 ∈ lw_tbl) (dd : decode cc pc = .ok (.getfield index, 3)) (k : J X nL cs sl (pc + 3) lv (v :: st) ws) : J X nL cs sl pc lv (.ref a :: st) ws :=
  fun H locs ls hP hD hS hl => va_get h.x h.b h.g (lay_g hin) h.o h.k hP q0 he hc f hf (h.t _ hlk) (fun _ z => z) hv dd (k H locs ls hP hD hS hl)
theorem J_put (h : Ok X cc own nL cI cE d mc ms) {C : String} {T : u_T} {N ci index a : Nat} {fs : List Value} {v : Value} {ty : FieldType} (hin : ∀ w ∈ u_ws C T N, w ∈ lw_tbl) (ty0 : Nat → FieldType) (hty : ∀ k, k < N → parseFieldDescriptor (T k).2.2.1 = some (ty0 k)) (hnm : ∀ a, a < N → ∀ b, b < N → a ≠ b → (T a).2.1 ≠ (T b).2.1) (hc : vwCl[ci]? = some (C, T, N)) (q0 f : Nat) (hf : f < N) (he : ws[q0]? = some (a, .inr (ci, fs))) (hlk : Cond.fieldLink own index (T f).1 (T f).2.1 (T f).2.2.1 ∈ lw_tbl) (hfin : (T f).2.2.2 = false) (ht : ty0 f = ty) (hn : narrow ty v = v) (hfit : fits ty v = true) (hlen : f < fs.length) (dd : decode cc pc = .ok (.putfield index, 3)) (hw : ws.set q0 (a, .inr (ci, fs.set f v)) = ws') (k : J X nL cs sl (pc + 3) lv st ws') : J X nL cs sl pc lv (v :: .ref a :: st) ws :=
  fun H locs ls hP hD hS hl => va_put h.x h.b h.g (lay_g hin) ty0 hty hnm h.o h.k hP hD hS q0 he hc f hf (h.t _ hlk) (fun _ z => z) hfin (by rw [hty f hf, ht]) hn hfit hlen dd (fun H1 locs1 hP1 hD1 hS1 => by rw [hw] at hP1 hD1; exact k H1 locs1 ls hP1 hD1 hS1 hl)
theorem J_putF (h : Ok X cc own nL cI cE d mc ms) (hi : (xM X).name = "<init>") {C : String} {T : u_T} {N ci index a : Nat} {fs : List Value} {v : Value} {ty : FieldType} (hin : ∀ w ∈ u_ws C T N, w ∈ lw_tbl) (ty0 : Nat → FieldType) (hty : ∀ k, k < N → parseFieldDescriptor (T k).2.2.1 = some (ty0 k)) (hnm : ∀ a, a < N → ∀ b, b < N → a ≠ b → (T a).2.1 ≠ (T b).2.1) (hc : vwCl[ci]? = some (C, T, N)) (q0 f : Nat) (hf : f < N) (he : ws[q0]? = some (a, .inr (ci, fs))) (hlk : Cond.fieldLink own index (T f).1 (T f).2.1 (T f).2.2.1 ∈ lw_tbl) (hfin : (T f).2.2.2 = true) (hdc : (T f).1 = own) (ht : ty0 f = ty) (hn : narrow ty v = v) (hfit : fits ty v = true) (hlen : f < fs.length) (dd : decode cc pc = .ok (.putfield index, 3)) (hw : ws.set q0 (a, .inr (ci, fs.set f v)) = ws') (k : J X nL cs sl (pc + 3) lv st ws') : J X nL cs sl pc lv (v :: .ref a :: st) ws :=
  fun H locs ls hP hD hS hl => va_putF h.x h.b h.g (lay_g hin) ty0 hty hnm h.o h.k hP hD hS q0 he hc f hf (h.t _ hlk) (fun _ z => z) hfin hi hdc (by rw [hty f hf, ht]) hn hfit hlen dd (fun H1 locs1 hP1 hD1 hS1 => by rw [hw] at hP1 hD1; exact k H1 locs1 ls hP1 hD1 hS1 hl)
theorem J_iald (h : Ok X cc own nL cI cE d mc ms) {n a : Nat} {f : Nat → Int32} {i : Int32} (q0 : Nat) (ha : ws[q0]? = some (a, .inl (cI, n, .inl f))) (hi : vp_in i n) (dd : decode cc pc = .ok (.iaload, 1)) (k : J X nL cs sl (pc + 1) lv (.int (f i.toNatClampNeg) :: st) ws) : J X nL cs sl pc lv (.int i :: .ref a :: st) ws :=
  fun H locs ls hP hD hS hl => va_iald h.x h.b h.k hP q0 0 ha rfl hi dd (k H locs ls hP hD hS hl)
theorem N_iald (h : Ok X cc own nL cI cE d mc ms) {n a j : Nat} {f : Nat → Int32} (q0 : Nat) (ha : ws[q0]? = some (a, .inl (cI, n, .inl f))) (hn : n < 2147483648) (hj : j < n) (dd : decode cc pc = .ok (.iaload, 1)) (k : J X nL cs sl (pc + 1) lv (.int (f j) :: st) ws) : J X nL cs sl pc lv (.int (nI j) :: .ref a :: st) ws :=
  J_iald h q0 ha (vp_in_nI hj hn) dd (by rw [nI_clamp (Nat.lt_trans hj hn)]; exact k)
theorem J_iast (h : Ok X cc own nL cI cE d mc ms) {n a : Nat} {f : Nat → Int32} {i x : Int32} (q0 : Nat) (ha : ws[q0]? = some (a, .inl (cI, n, .inl f))) (hi : vp_in i n) (dd : decode cc pc = .ok (.iastore, 1)) (hw : ws.set q0 (a, .inl (cI, n, .inl (upd f i.toNatClampNeg x))) = ws') (k : J X nL cs sl (pc + 1) lv st ws') : J X nL cs sl pc lv (.int x :: .int i :: .ref a :: st) ws :=
  fun H locs ls hP hD hS hl => va_iast h.x h.b h.k hP hD hS q0 0 ha rfl hi dd (fun H1 locs1 hP1 hD1 hS1 => by rw [hw] at hP1 hD1; exact k H1 locs1 ls hP1 hD1 hS1 hl)
theorem N_iast (h : Ok X cc own nL cI cE d mc ms) {n a j : Nat} {f : Nat → Int32} {x : Int32} (q0 : Nat) (ha : ws[q0]? = some (a, .inl (cI, n, .inl f))) (hn : n < 2147483648) (hj : j < n) (dd : decode cc pc = .ok (.iastore, 1)) (hw : ws.set q0 (a, .inl (cI, n, .inl (upd f j x))) = ws') (k : J X nL cs sl (pc + 1) lv st ws') : J X nL cs sl pc lv (.int x :: .int (nI j) :: .ref a :: st) ws :=
  J_iast h q0 ha (vp_in_nI hj hn) dd (by rw [nI_clamp (Nat.lt_trans hj hn)]; exact hw) k
theorem J_alen (h : Ok X cc own nL cI cE d mc ms) {n a : Nat} {f : Nat → Int32} (q0 : Nat) (ha : ws[q0]? = some (a, .inl (cI, n, .inl f))) (dd : decode cc pc = .ok (.arraylength, 1)) (k : J X nL cs sl (pc + 1) lv (.int (nI n) :: st) ws) : J X nL cs sl pc lv (.ref a :: st) ws :=
  fun H locs ls hP hD hS hl => va_alen (x := (n, .inl f)) h.x h.b h.k hP q0 0 ha rfl rfl dd (k H locs ls hP hD hS hl)
theorem J_alenE (h : Ok X cc own nL cI cE d mc ms) {n a : Nat} {f : Nat → Option Nat} (q0 : Nat) (ha : ws[q0]? = some (a, .inl (cE, n, .inr (.inr (.inr (.inr f)))))) (dd : decode cc pc = .ok (.arraylength, 1)) (k : J X nL cs sl (pc + 1) lv (.int (nI n) :: st) ws) : J X nL cs sl pc lv (.ref a :: st) ws :=
  fun H locs ls hP hD hS hl => va_alen (x := (n, .inr (.inr (.inr (.inr f))))) h.x h.b h.k hP q0 1 ha rfl rfl dd (k H locs ls hP hD hS hl)
theorem N_aald (h : Ok X cc own nL cI cE d mc ms) {n a j b : Nat} {f : Nat → Option Nat} (q0 : Nat) (ha : ws[q0]? = some (a, .inl (cE, n, .inr (.inr (.inr (.inr f)))))) (hn : n < 2147483648) (hj : j < n) (hf : f j = some b) (dd : decode cc pc = .ok (.aaload, 1)) (k : J X nL cs sl (pc + 1) lv (.ref b :: st) ws) : J X nL cs sl pc lv (.int (nI j) :: .ref a :: st) ws :=
  fun H locs ls hP hD hS hl => va_aldq h.x h.b h.k hP q0 1 ha rfl (vp_in_nI hj hn) dd (by rw [nI_clamp (Nat.lt_trans hj hn), hf]; exact k H locs ls hP hD hS hl)
theorem N_aast (h : Ok X cc own nL cI cE d mc ms) {n a j b : Nat} {vs : List Value} {f : Nat → Option Nat} (q0 qk : Nat) (ha : ws[q0]? = some (a, .inl (cE, n, .inr (.inr (.inr (.inr f)))))) (hb : ws[qk]? = some (b, .inr (0, vs))) (hn : n < 2147483648) (hj : j < n) (dd : decode cc pc = .ok (.aastore, 1)) (hw : ws.set q0 (a, .inl (cE, n, .inr (.inr (.inr (.inr (va_up f j (some b))))))) = ws') (k : J X nL cs sl (pc + 1) lv st ws') : J X nL cs sl pc lv (.ref b :: .int (nI j) :: .ref a :: st) ws :=
  fun H locs ls hP hD hS hl => va_astq (r := (RX0, TX0, 5)) h.x h.b h.k hP hD hS q0 1 qk 0 ha rfl hb rfl (vp_in_nI hj hn) dd (fun H1 locs1 hP1 hD1 hS1 => by rw [nI_clamp (Nat.lt_trans hj hn), hw] at hP1 hD1; exact k H1 locs1 ls hP1 hD1 hS1 hl)
theorem N_iadd (h : Ok X cc own nL cI cE d mc ms) {a b : Nat} (dd : decode cc pc = .ok (.iadd, 1)) (k : J X nL cs sl (pc + 1) lv (.int (nI (a + b)) :: st) ws) : J X nL cs sl pc lv (.int (nI b) :: .int (nI a) :: st) ws := J_iadd h dd (by rw [nI_add]; exact k)
theorem N_isub (h : Ok X cc own nL cI cE d mc ms) {a b : Nat} (hb : b ≤ a) (dd : decode cc pc = .ok (.isub, 1)) (k : J X nL cs sl (pc + 1) lv (.int (nI (a - b)) :: st) ws) : J X nL cs sl pc lv (.int (nI b) :: .int (nI a) :: st) ws := J_isub h dd (by rw [pk_sub hb]; exact k)
theorem N_imul (h : Ok X cc own nL cI cE d mc ms) {a b : Nat} (dd : decode cc pc = .ok (.imul, 1)) (k : J X nL cs sl (pc + 1) lv (.int (nI (a * b)) :: st) ws) : J X nL cs sl pc lv (.int (nI b) :: .int (nI a) :: st) ws := J_imul h dd (by rw [pk_mul]; exact k)
theorem N_idiv (h : Ok X cc own nL cI cE d mc ms) {a b : Nat} (ha : a < 2147483648) (h0 : 0 < b) (hb : b < 2147483648) (dd : decode cc pc = .ok (.idiv, 1)) (k : J X nL cs sl (pc + 1) lv (.int (nI (a / b)) :: st) ws) : J X nL cs sl pc lv (.int (nI b) :: .int (nI a) :: st) ws := J_idiv h dd (nI_ne0 h0 hb) (by rw [pk_div ha h0 hb]; exact k)
theorem N_irem (h : Ok X cc own nL cI cE d mc ms) {a b : Nat} (ha : a < 2147483648) (h0 : 0 < b) (hb : b < 2147483648) (dd : decode cc pc = .ok (.irem, 1)) (k : J X nL cs sl (pc + 1) lv (.int (nI (a % b)) :: st) ws) : J X nL cs sl pc lv (.int (nI b) :: .int (nI a) :: st) ws := J_irem h dd (nI_ne0 h0 hb) (by rw [pk_rem ha h0 hb]; exact k)
theorem J_max (h : Ok X cc own nL cI cE d mc ms) (h1 : 1 ≤ d) {index : Nat} {x y : Int32} (hw : Cond.methodLink own index Lib.Math.max.name ∈ lw_tbl) (hc : cs ≤ mc) (hs : sl ≤ ms) (hst : (st.map fun v => v.category).sum ≤ 8) (dd : decode cc pc = .ok (.invokestatic index, 3)) (k : J X nL cs sl (pc + 3) lv (.int (if x < y then y else x) :: st) ws) : J X nL cs sl pc lv (.int y :: .int x :: st) ws :=
  fun H locs ls hP hD hS hl => va_mmax h.x h.b (h.n.trans hl.1.symm) h.o (h.t _ hw) (h.t _ nw_max1) (h.t _ nw_math) (h.t _ nw_max2) (Nat.le_trans h1 h.2.2.2.1) (by have := h.2.2.2.2.1; omega) (Nat.le_trans hc h.2.2.2.2.2.1) (Nat.le_trans hs h.2.2.2.2.2.2.1) dd (k H locs ls hP hD hS hl)
theorem J_min (h : Ok X cc own nL cI cE d mc ms) (h1 : 1 ≤ d) {index : Nat} {x y : Int32} (hw : Cond.methodLink own index Lib.Math.min.name ∈ lw_tbl) (hc : cs ≤ mc) (hs : sl ≤ ms) (hst : (st.map fun v => v.category).sum ≤ 8) (dd : decode cc pc = .ok (.invokestatic index, 3)) (k : J X nL cs sl (pc + 3) lv (.int (if y < x then y else x) :: st) ws) : J X nL cs sl pc lv (.int y :: .int x :: st) ws :=
  fun H locs ls hP hD hS hl => va_mmin h.x h.b (h.n.trans hl.1.symm) h.o (h.t _ hw) (h.t _ nw_min1) (h.t _ nw_math) (h.t _ nw_min2) (Nat.le_trans h1 h.2.2.2.1) (by have := h.2.2.2.2.1; omega) (Nat.le_trans hc h.2.2.2.2.2.1) (Nat.le_trans hs h.2.2.2.2.2.2.1) dd (k H locs ls hP hD hS hl)
end JR
theorem J_eqw {X : Cx} {nL cs sl pc : Nat} {lv : Lv} {st : List Value} {ws ws' : va_W} (e : ws = ws') (k : J X nL cs sl pc lv st ws') : J X nL cs sl pc lv st ws := by rw [e]; exact k
theorem J_eqs {X : Cx} {nL cs sl pc : Nat} {lv : Lv} {st st' : List Value} {ws : va_W} (e : st = st') (k : J X nL cs sl pc lv st' ws) : J X nL cs sl pc lv st ws := by rw [e]; exact k
theorem J_eql {X : Cx} {nL cs sl pc : Nat} {lv lv' : Lv} {st : List Value} {ws : va_W} (e : lv = lv') (k : J X nL cs sl pc lv' st ws) : J X nL cs sl pc lv st ws := by rw [e]; exact k
theorem arr_cong (cA : ClassId) {n : Nat} {f g : Nat → Int32} (h : ∀ j, j < n → f j = g j) : vp_cell cA (n, .inl f) = vp_cell cA (n, .inl g) := by
  rw [vp_cell_i, vp_cell_i]
  unfold arrV
  congr 1
  apply Array.ext
  · simp
  · intro i h1 h2
    simp only [Array.size_ofFn] at h1
    simp [h i h1]
theorem J_arr {X : Cx} {nL cs sl pc n a : Nat} {cI : ClassId} {lv : Lv} {st : List Value} {ws ws' : va_W} {f g : Nat → Int32} (q0 : Nat) (ha : ws[q0]? = some (a, .inl (cI, n, .inl f))) (hfg : ∀ j, j < n → f j = g j) (hw : ws.set q0 (a, .inl (cI, n, .inl g)) = ws') (k : J X nL cs sl pc lv st ws') : J X nL cs sl pc lv st ws := by
  intro H locs ls hP hD hS hl
  refine k H locs ls ?_ ?_ hS hl
  · rw [← hw]
    intro k q hq
    by_cases e : k = q0
    · subst e
      rw [List.getElem?_set_self (List.getElem?_eq_some_iff.mp ha).1] at hq
      cases hq
      have := hP k _ ha
      show H[a]? = some (vp_cell cI (n, .inl g))
      rw [← arr_cong cI hfg]
      exact this
    · rw [List.getElem?_set_ne (fun z => e z.symm)] at hq
      exact hP k q hq
  · rw [← hw]; exact hD.set ha
theorem inc_ok (a k : Nat) : nI a + Int32.ofInt (k : Int) = nI (a + k) := by rw [show Int32.ofInt (k : Int) = nI k from rfl, nI_add]
theorem dec_ok {a : Nat} (h : 0 < a) : nI a + Int32.ofInt (-1) = nI (a - 1) := by
  obtain ⟨b, rfl⟩ : ∃ b, a = b + 1 := ⟨a - 1, by omega⟩
  exact pk_m1 b
theorem toNI {x : Int32} {n : Nat} (h0 : 0 ≤ x.toInt) (h1 : x.toInt < (n : Int)) : ∃ j : Nat, j < n ∧ x = nI j := by
  obtain ⟨j, hj, e⟩ := nI_of (x := x) (fun q => by have := Int32.lt_iff_toInt_lt.mp q; have h3 : (0 : Int32).toInt = 0 := rfl; omega)
  refine ⟨j, ?_, e⟩
  rw [e, nI_toInt hj] at h1
  omega
/-! CONTRACTS -/
def rmd (d mc ms : Nat) : Room := { frames := d, cells := mc, slots := ms, locals := 33 * d }
def wq (y : MethodName) (cc : ByteArray) (maxL : Nat) (ret : Option FieldType) : List Cond := Cond.code y cc maxL ret :: lw_g
theorem tbl_in {w : Cond} (h : w ∈ lw_g) : (w.onTables && w.keeps) = true ∨ ∃ ty, w = .arrayClass ty := good_of_word (List.mem_filter.mp h).2
theorem wq_good {y : MethodName} {cc : ByteArray} {maxL : Nat} {ret : Option FieldType} (h : Cond.code y cc maxL ret ∈ lw_tbl) : GoodIn lw_g (wq y cc maxL ret) := fun w hw => by
  rcases List.mem_cons.mp hw with e | e
  · rw [e]; exact ⟨in_g h rfl, tbl_in (in_g h rfl)⟩
  · exact ⟨e, tbl_in e⟩
def PcW (D : va_G) (cI cE : ClassId) (av : List Value) (ws : va_W) (sz : Nat) : Array Value → State → Prop :=
  va_Pc av (fun U => U.heap.size = sz ∧ va_P D vwCl ws U.heap ∧ va_K D vwCl (tyl cI cE) U ∧ va_D (fun _ => True) ws ∧ NW U)
def AtW (D : va_G) (cI cE : ClassId) (A : Nat → Prop) (ws : va_W) (t : State) : Prop := va_P D vwCl ws t.heap ∧ va_K D vwCl (tyl cI cE) t ∧ va_D A ws
theorem PcW.blind {D : va_G} {cI cE : ClassId} {av : List Value} {ws : va_W} {sz : Nat} : FrameBlind (PcW D cI cE av ws sz) := fun a U g mk q => by
  obtain ⟨q0, q1, qP, qK, qD, qN⟩ := q
  exact ⟨q0, q1, qP, va_K.moved (u := U) (U := U.calling g mk a) (Vm.Alike.refl U.vm) qK, qD, NW.same (s := U) (U := U.calling g mk a) rfl qN⟩
theorem vP_l {D : va_G} {cl : List vw_C} {a b : va_W} {H : Heap} (h : va_P D cl (a ++ b) H) : va_P D cl a H := fun k q hk => h k q (by rw [List.getElem?_append_left (List.getElem?_eq_some_iff.mp hk).1]; exact hk)
theorem vP_r {D : va_G} {cl : List vw_C} {a b : va_W} {H : Heap} (h : va_P D cl (a ++ b) H) : va_P D cl b H := fun k q hk => h (a.length + k) q (by rw [List.getElem?_append_right (Nat.le_add_right _ _), Nat.add_sub_cancel_left]; exact hk)
theorem vD_l {A : Nat → Prop} {a b : va_W} (h : va_D A (a ++ b)) : va_D A a :=
  ⟨fun i j p q hi hj e => h.1 i j p q (by rw [List.getElem?_append_left (List.getElem?_eq_some_iff.mp hi).1]; exact hi) (by rw [List.getElem?_append_left (List.getElem?_eq_some_iff.mp hj).1]; exact hj) e, fun k q hk => h.2 k q (by rw [List.getElem?_append_left (List.getElem?_eq_some_iff.mp hk).1]; exact hk)⟩
theorem vD_r {A : Nat → Prop} {a b : va_W} (h : va_D A (a ++ b)) : va_D A b :=
  ⟨fun i j p q hi hj e => by
    have := h.1 (a.length + i) (a.length + j) p q (by rw [List.getElem?_append_right (Nat.le_add_right _ _), Nat.add_sub_cancel_left]; exact hi) (by rw [List.getElem?_append_right (Nat.le_add_right _ _), Nat.add_sub_cancel_left]; exact hj) e
    omega, fun k q hk => h.2 (a.length + k) q (by rw [List.getElem?_append_right (Nat.le_add_right _ _), Nat.add_sub_cancel_left]; exact hk)⟩
theorem vD_x {A : Nat → Prop} {a b : va_W} (h : va_D A (a ++ b)) : ∀ (i j : Nat) (p q : Nat × va_E), a[i]? = some p → b[j]? = some q → p.1 ≠ q.1 := fun i j p q hi hj e => by
  have h1 := (List.getElem?_eq_some_iff.mp hi).1
  have := h.1 i (a.length + j) p q (by rw [List.getElem?_append_left h1]; exact hi) (by rw [List.getElem?_append_right (Nat.le_add_right _ _), Nat.add_sub_cancel_left]; exact hj) e
  omega
theorem vA_l {A0 : Nat → Prop} {a b : va_W} {H0 H : Heap} {locs : List Loc} (hD : va_D A0 (a ++ b)) (hS : va_S A0 H0 H locs) (hA : ∀ q, H0.size ≤ q → A0 q) : ∀ q, va_A a H.size q → A0 q := by
  intro q h
  rcases h with ⟨k, e, h⟩ | h
  · exact (vD_l hD).2 k (q, e) h
  · exact hA q (Nat.le_trans hS.1 h)
theorem v_join {A0 : Nat → Prop} {D : va_G} {cl : List vw_C} {a b w1 : va_W} {H H1 : Heap} (hP : va_P D cl (a ++ b) H) (hD : va_D A0 (a ++ b)) (hk : ∀ q : Nat, q < H.size → ¬ va_A a H.size q → H1[q]? = H[q]?) (hF : ∀ q, va_A a H.size q → A0 q) (hP1 : va_P D cl w1 H1) (hD1 : va_D (va_A a H.size) w1) : va_P D cl (w1 ++ b) H1 ∧ va_D A0 (w1 ++ b) := by
  have apart : ∀ (k : Nat) (q : Nat × va_E), b[k]? = some q → q.1 < H.size ∧ ¬ va_A a H.size q.1 := fun k q hq => by
    have hl := (vP_r hP k q hq).lt
    refine ⟨hl, fun h => ?_⟩
    rcases h with ⟨k2, e, h⟩ | h
    · exact vD_x hD k2 k (q.1, e) q h hq rfl
    · omega
  refine ⟨va_P.app hP1 (fun k q hq => (vP_r hP k q hq).kept (hk q.1 (apart k q hq).1 (apart k q hq).2)), va_D.app (hD1.weaken (fun k q _ h => hF q.1 h)) (vD_r hD) (fun i j x y hx hy e => ?_)⟩
  exact (apart j y hy).2 (by rw [← e]; exact hD1.2 i x hx)
def Ci (l : Launch) (D : va_G) (cI cE : ClassId) (y : MethodName) (cc : ByteArray) (maxL : Nat) (ret : Option FieldType) (d mc ms : Nat) (av : List Value) (ws : va_W) {S : Type} (post : Int32 → S → Prop) (w' : S → va_W) : Prop :=
  ∀ sz : Nat, Met l y (wq y cc maxL ret) (rmd d mc ms) (PcW D cI cE av ws sz) (va_Qi post (fun u t => AtW D cI cE (va_A ws sz) (w' u) t) (va_A ws sz)) mc ms (va_A ws sz)
def Cl (l : Launch) (D : va_G) (cI cE : ClassId) (y : MethodName) (cc : ByteArray) (maxL : Nat) (ret : Option FieldType) (d mc ms : Nat) (av : List Value) (ws : va_W) {S : Type} (post : Int64 → S → Prop) (w' : S → va_W) : Prop :=
  ∀ sz : Nat, Met l y (wq y cc maxL ret) (rmd d mc ms) (PcW D cI cE av ws sz) (va_Ql post (fun u t => AtW D cI cE (va_A ws sz) (w' u) t) (va_A ws sz)) mc ms (va_A ws sz)
def Cv (l : Launch) (D : va_G) (cI cE : ClassId) (y : MethodName) (cc : ByteArray) (maxL : Nat) (ret : Option FieldType) (d mc ms : Nat) (av : List Value) (ws : va_W) {S : Type} (post : S → Prop) (w' : S → va_W) : Prop :=
  ∀ sz : Nat, Met l y (wq y cc maxL ret) (rmd d mc ms) (PcW D cI cE av ws sz) (va_Qv post (fun u t => AtW D cI cE (va_A ws sz) (w' u) t) (va_A ws sz)) mc ms (va_A ws sz)
def RetI (X : Cx) (cc : ByteArray) (nL mc ms : Nat) (r : Int32) (ws : va_W) : Prop := ∀ (pc : Nat) (lv : Lv), decode cc pc = .ok (.ireturn, 1) → J X nL mc ms pc lv [.int r] ws
def RetL (X : Cx) (cc : ByteArray) (nL mc ms : Nat) (r : Int64) (ws : va_W) : Prop := ∀ (pc : Nat) (lv : Lv), decode cc pc = .ok (.lreturn, 1) → J X nL mc ms pc lv [.long r] ws
def RetV (X : Cx) (cc : ByteArray) (nL mc ms : Nat) (ws : va_W) : Prop := ∀ (pc : Nat) (lv : Lv), decode cc pc = .ok (.return_, 1) → J X nL mc ms pc lv [] ws
section COF
variable {l : Launch} {D : va_G} {cI cE : ClassId} {y : MethodName} {cc : ByteArray} {maxL : Nat} {d mc ms : Nat} {av : List Value} {ws : va_W} {S : Type}
theorem Ci.of {post : Int32 → S → Prop} {w' : S → va_W} {ty : FieldType} (hy : plainName y.cls = true) (hlen : (lg_sl av).length ≤ maxL) (hn : ∀ r u, post r u → narrow ty (.int r) = .int r)
    (body : ∀ X : Cx, Ok X cc y.cls maxL cI cE d mc ms → (∀ r u, post r u → RetI X cc maxL mc ms r (w' u)) → J X maxL 0 0 0 (lv_args 0 av) [] ws) : Ci l D cI cE y cc maxL (some ty) d mc ms av ws post w' := by
  intro sz
  refine Met.ofW (cc := cc) (maxL := maxL) (ret := some ty) hy rfl ?_
  intro p e s m args below meth c s₁ B hml hv
  obtain ⟨rfl, hsz, hP, hK, hD0, hNW⟩ := hv
  have hts := atoms_spec (ws := wq y cc maxL (some ty)) B.pre
  have hlocks := B.notSynchronized
  subst hsz
  have hb := body (p, l, e, rmd d mc ms, s, m, av.toArray, below, meth, c, MQ below (va_Qi post (fun u t => AtW D cI cE (va_A ws s.heap.size) (w' u) t) (va_A ws s.heap.size)) av.toArray s mc ms (va_A ws s.heap.size), D, va_A ws s.heap.size)
    ⟨⟨B.exec, B.bytes, hml, findClass_of_methodNamed B.named, fun w hw => hts w (List.mem_cons_of_mem _ hw)⟩, hK, fun q hq => Or.inr hq, Nat.le_refl _, Nat.le_refl _, Nat.le_refl _, Nat.le_refl _, hNW⟩
    (fun r u hp pc lv dd H locs ls hP1 hD1 hS1 hl1 => W.zret B.exec B.bytes B.returns (hn r u hp) (fun t ht hW => ⟨⟨r, u, rfl, hp, by rw [ht]; exact hP1, va_K.moved hW.alike hK, hD1⟩, hS1.F ht⟩) hS1.2.2 dd)
  rw [lg_entry_eq]
  exact hb s.heap [] _ hP hD0.self va_S.rf (lv_entry av hlen)
theorem Cl.of {post : Int64 → S → Prop} {w' : S → va_W} (hy : plainName y.cls = true) (hlen : (lg_sl av).length ≤ maxL)
    (body : ∀ X : Cx, Ok X cc y.cls maxL cI cE d mc ms → (∀ r u, post r u → RetL X cc maxL mc ms r (w' u)) → J X maxL 0 0 0 (lv_args 0 av) [] ws) : Cl l D cI cE y cc maxL (some .long) d mc ms av ws post w' := by
  intro sz
  refine Met.ofW (cc := cc) (maxL := maxL) (ret := some .long) hy rfl ?_
  intro p e s m args below meth c s₁ B hml hv
  obtain ⟨rfl, hsz, hP, hK, hD0, hNW⟩ := hv
  have hts := atoms_spec (ws := wq y cc maxL (some .long)) B.pre
  have hlocks := B.notSynchronized
  subst hsz
  have hb := body (p, l, e, rmd d mc ms, s, m, av.toArray, below, meth, c, MQ below (va_Ql post (fun u t => AtW D cI cE (va_A ws s.heap.size) (w' u) t) (va_A ws s.heap.size)) av.toArray s mc ms (va_A ws s.heap.size), D, va_A ws s.heap.size)
    ⟨⟨B.exec, B.bytes, hml, findClass_of_methodNamed B.named, fun w hw => hts w (List.mem_cons_of_mem _ hw)⟩, hK, fun q hq => Or.inr hq, Nat.le_refl _, Nat.le_refl _, Nat.le_refl _, Nat.le_refl _, hNW⟩
    (fun r u hp pc lv dd H locs ls hP1 hD1 hS1 hl1 => W.lret B.exec B.bytes B.returns (fun t ht hW => ⟨⟨r, u, rfl, hp, by rw [ht]; exact hP1, va_K.moved hW.alike hK, hD1⟩, hS1.F ht⟩) hS1.2.2 dd)
  rw [lg_entry_eq]
  exact hb s.heap [] _ hP hD0.self va_S.rf (lv_entry av hlen)
theorem Cv.of {post : S → Prop} {w' : S → va_W} (hy : plainName y.cls = true) (hlen : (lg_sl av).length ≤ maxL)
    (body : ∀ X : Cx, Ok X cc y.cls maxL cI cE d mc ms → (∀ u, post u → RetV X cc maxL mc ms (w' u)) → (xM X).name = y.name → J X maxL 0 0 0 (lv_args 0 av) [] ws) : Cv l D cI cE y cc maxL none d mc ms av ws post w' := by
  intro sz
  refine Met.ofW (cc := cc) (maxL := maxL) (ret := none) hy rfl ?_
  intro p e s m args below meth c s₁ B hml hv
  obtain ⟨rfl, hsz, hP, hK, hD0, hNW⟩ := hv
  have hts := atoms_spec (ws := wq y cc maxL none) B.pre
  have hlocks := B.notSynchronized
  subst hsz
  have hb := body (p, l, e, rmd d mc ms, s, m, av.toArray, below, meth, c, MQ below (va_Qv post (fun u t => AtW D cI cE (va_A ws s.heap.size) (w' u) t) (va_A ws s.heap.size)) av.toArray s mc ms (va_A ws s.heap.size), D, va_A ws s.heap.size)
    ⟨⟨B.exec, B.bytes, hml, findClass_of_methodNamed B.named, fun w hw => hts w (List.mem_cons_of_mem _ hw)⟩, hK, fun q hq => Or.inr hq, Nat.le_refl _, Nat.le_refl _, Nat.le_refl _, Nat.le_refl _, hNW⟩
    (fun u hp pc lv dd H locs ls hP1 hD1 hS1 hl1 => W.vret B.exec B.bytes B.returns (fun t ht hW => ⟨⟨u, rfl, hp, by rw [ht]; exact hP1, va_K.moved hW.alike hK, hD1⟩, hS1.F ht⟩) hS1.2.2 dd)
    (name_of_methodNamed B.named B.method).1
  rw [lg_entry_eq]
  exact hb s.heap [] _ hP hD0.self va_S.rf (lv_entry av hlen)
end COF
/-! CALLS -/
def YV (y : MethodName) (bytes : ByteArray) (maxL : Nat) (ret : Option FieldType) (n : Nat) : Prop := Cond.instanceMethod y ∈ lw_tbl ∧ Cond.selects y.cls y y ∈ lw_tbl ∧ Cond.initialized y.cls ∈ lw_tbl ∧ Cond.code y bytes maxL ret ∈ lw_tbl ∧ y.cls ≠ "java/lang/invoke/MethodHandle" ∧ y.cls ≠ "java/lang/invoke/VarHandle" ∧ (parseMethodDescriptor y.desc).map (fun d => d.parameters.length) = some n
def YS (y : MethodName) (bytes : ByteArray) (maxL : Nat) (ret : Option FieldType) (n : Nat) : Prop := Cond.static y ∈ lw_tbl ∧ Cond.initialized y.cls ∈ lw_tbl ∧ Cond.code y bytes maxL ret ∈ lw_tbl ∧ y.cls ≠ "java/lang/invoke/MethodHandle" ∧ y.cls ≠ "java/lang/invoke/VarHandle" ∧ (parseMethodDescriptor y.desc).map (fun d => d.parameters.length) = some n
section KR
variable {X : Cx} {cc : ByteArray} {own : String} {nL d mc ms cs sl pc : Nat} {cI cE : ClassId} {lv lv' : Lv} {st rest : List Value} {ws ws' : va_W}
variable {y : MethodName} {bytes : ByteArray} {maxL n dc index b : Nat} {ret : Option FieldType} {As : List Value} {wc wr : va_W} {S : Type} {w' : S → va_W}
theorem Ok.cb (h : Ok X cc own nL cI cE d mc ms) (hw : Cond.methodLink own index y ∈ lw_tbl) (hd : dc + 1 ≤ d) (hm : maxL ≤ 14) (hc : Cond.code y bytes maxL ret ∈ lw_tbl) (hi : Cond.initialized y.cls ∈ lw_tbl) (hy : y.cls ≠ "java/lang/invoke/MethodHandle" ∧ y.cls ≠ "java/lang/invoke/VarHandle" ∧ (parseMethodDescriptor y.desc).map (fun d => d.parameters.length) = some n) : CallB (xR X) (xs X) (xa X) own index y bytes maxL ret (wq y bytes maxL ret) (rmd dc 0 0) 0 0 n :=
  callB_of n h.g (wq_good hc) rfl rfl rfl (h.t _ hi) (h.t _ hw) hy ⟨Nat.le_trans hd h.2.2.2.1, by have := h.2.2.2.2.1; show 8 + (maxL + 11) + 33 * dc ≤ _; omega⟩
theorem Ok.cn (h : Ok X cc own nL cI cE d mc ms) {host : String} (hw : Cond.methodLinkNest own index y host ∈ lw_tbl) (hd : dc + 1 ≤ d) (hm : maxL ≤ 14) (hc : Cond.code y bytes maxL ret ∈ lw_tbl) (hi : Cond.initialized y.cls ∈ lw_tbl) (hy : y.cls ≠ "java/lang/invoke/MethodHandle" ∧ y.cls ≠ "java/lang/invoke/VarHandle" ∧ (parseMethodDescriptor y.desc).map (fun d => d.parameters.length) = some n) : va_CN (xR X) (xs X) (xa X) own index y host bytes maxL ret (wq y bytes maxL ret) (rmd dc 0 0) 0 0 n :=
  va_cnB n h.g (wq_good hc) rfl rfl rfl (h.2.2.2.2.2.2.2 _ hw rfl) (h.t _ hi) hy ⟨Nat.le_trans hd h.2.2.2.1, by have := h.2.2.2.2.1; show 8 + (maxL + 11) + 33 * dc ≤ _; omega⟩
theorem Ok.pre (h : Ok X cc own nL cI cE d mc ms) {H : Heap} {av : List Value} (hP : va_P (xD X) vwCl wc H) (hD : va_D (xA X) wc) : PreS (xs X) H (PcW (xD X) cI cE av wc H.size) av :=
  ⟨PcW.blind, fun U hU hW => ⟨rfl, by rw [hU], by rw [hU]; exact hP, va_K.moved hW.alike h.k, hD.weaken (fun _ _ _ _ => trivial), h.2.2.2.2.2.2.2.warm hW⟩⟩
theorem K_vi {post : Int32 → S → Prop} (h : Ok X cc own nL cI cE d mc ms) (hC : Ci (xl X) (xD X) cI cE y bytes maxL ret dc 0 0 (.ref b :: As) wc post w') (hY : YV y bytes maxL ret n) (hw : Cond.methodLink own index y ∈ lw_tbl) (hd : dc + 1 ≤ d) (hm : maxL ≤ 14) (hn : As.length = n) (hws : ws = wc ++ wr) {ci : Nat} {q : vw_C} {fs : List Value} (q0 : Nat) (hq : vwCl[ci]? = some q) (hqc : q.1 = y.cls) (he : wc[q0]? = some (b, .inr (ci, fs))) (hst : st = As.reverse ++ .ref b :: rest) (hr : (rest.map fun v => v.category).sum ≤ 8) (hc : cs ≤ mc) (hl : sl ≤ ms) (dd : decode cc pc = .ok (.invokevirtual index, 3))
    (k : ∀ (r : Int32) (u : S), post r u → J X nL cs sl (pc + 3) lv (.int r :: rest) (w' u ++ wr)) : J X nL cs sl pc lv st ws := by
  intro H locs ls hP hD hS hl1
  subst hws
  have hPc := vP_l hP
  have hDc := vD_l hD
  have hFc := vA_l hD hS h.2.2.1
  obtain ⟨y1, y2, y3, y4, y5⟩ := hY
  have pre := h.pre (av := .ref b :: As) hPc hDc
  have rc := va_recv h.k hPc hq he
  rw [hqc] at rc
  exact va_calli (va_runV (C := y.cls) (As := As) (rest := rest) h.1 (hC H.size) ⟨h.cb hw hd hm y4 y3 y5, h.t _ y1, h.t _ y2⟩ ⟨pre.1, rc, pre.2⟩ rfl hn hl1.1 hst (lv_room hr) dd ⟨Nat.le_trans hc h.2.2.2.2.2.1, Nat.le_trans hl h.2.2.2.2.2.2.1⟩) hS (fun q _ z => hFc q z) hFc (fun r u t H1 locs1 ht hvm hp hB hz hk hS1 => by
    obtain ⟨p1, -, p2⟩ := hB
    rw [ht] at p1
    obtain ⟨g1, g2⟩ := v_join hP hD hk hFc p1 p2
    exact k r u hp H1 locs1 ls g1 g2 hS1 hl1)
theorem K_vv {post : S → Prop} (h : Ok X cc own nL cI cE d mc ms) (hC : Cv (xl X) (xD X) cI cE y bytes maxL ret dc 0 0 (.ref b :: As) wc post w') (hY : YV y bytes maxL ret n) (hw : Cond.methodLink own index y ∈ lw_tbl) (hd : dc + 1 ≤ d) (hm : maxL ≤ 14) (hn : As.length = n) (hws : ws = wc ++ wr) {ci : Nat} {q : vw_C} {fs : List Value} (q0 : Nat) (hq : vwCl[ci]? = some q) (hqc : q.1 = y.cls) (he : wc[q0]? = some (b, .inr (ci, fs))) (hst : st = As.reverse ++ .ref b :: rest) (hr : (rest.map fun v => v.category).sum ≤ 8) (hc : cs ≤ mc) (hl : sl ≤ ms) (dd : decode cc pc = .ok (.invokevirtual index, 3))
    (k : ∀ (u : S), post u → J X nL cs sl (pc + 3) lv rest (w' u ++ wr)) : J X nL cs sl pc lv st ws := by
  intro H locs ls hP hD hS hl1
  subst hws
  have hPc := vP_l hP
  have hDc := vD_l hD
  have hFc := vA_l hD hS h.2.2.1
  obtain ⟨y1, y2, y3, y4, y5⟩ := hY
  have pre := h.pre (av := .ref b :: As) hPc hDc
  have rc := va_recv h.k hPc hq he
  rw [hqc] at rc
  exact va_callv (va_runV (C := y.cls) (As := As) (rest := rest) h.1 (hC H.size) ⟨h.cb hw hd hm y4 y3 y5, h.t _ y1, h.t _ y2⟩ ⟨pre.1, rc, pre.2⟩ rfl hn hl1.1 hst (lv_room hr) dd ⟨Nat.le_trans hc h.2.2.2.2.2.1, Nat.le_trans hl h.2.2.2.2.2.2.1⟩) hS (fun q _ z => hFc q z) hFc (fun u t H1 locs1 ht hvm hp hB hz hk hS1 => by
    obtain ⟨p1, -, p2⟩ := hB
    rw [ht] at p1
    obtain ⟨g1, g2⟩ := v_join hP hD hk hFc p1 p2
    exact k u hp H1 locs1 ls g1 g2 hS1 hl1)
theorem K_si {post : Int32 → S → Prop} (h : Ok X cc own nL cI cE d mc ms) (hC : Ci (xl X) (xD X) cI cE y bytes maxL ret dc 0 0 As wc post w') (hY : YS y bytes maxL ret n) (hw : Cond.methodLink own index y ∈ lw_tbl) (hd : dc + 1 ≤ d) (hm : maxL ≤ 14) (hn : As.length = n) (hws : ws = wc ++ wr) (hst : st = As.reverse ++ rest) (hr : (rest.map fun v => v.category).sum ≤ 8) (hc : cs ≤ mc) (hl : sl ≤ ms) (dd : decode cc pc = .ok (.invokestatic index, 3))
    (k : ∀ (r : Int32) (u : S), post r u → J X nL cs sl (pc + 3) lv (.int r :: rest) (w' u ++ wr)) : J X nL cs sl pc lv st ws := by
  intro H locs ls hP hD hS hl1
  subst hws
  have hPc := vP_l hP
  have hDc := vD_l hD
  have hFc := vA_l hD hS h.2.2.1
  obtain ⟨y1, y3, y4, y5⟩ := hY
  exact va_calli (va_runS (As := As) (rest := rest) h.1 (hC H.size) ⟨h.cb hw hd hm y4 y3 y5, h.t _ y1⟩ (h.pre hPc hDc) rfl hn hl1.1 hst (lv_room hr) dd ⟨Nat.le_trans hc h.2.2.2.2.2.1, Nat.le_trans hl h.2.2.2.2.2.2.1⟩) hS (fun q _ z => hFc q z) hFc (fun r u t H1 locs1 ht hvm hp hB hz hk hS1 => by
    obtain ⟨p1, -, p2⟩ := hB
    rw [ht] at p1
    obtain ⟨g1, g2⟩ := v_join hP hD hk hFc p1 p2
    exact k r u hp H1 locs1 ls g1 g2 hS1 hl1)
theorem K_ni {post : Int32 → S → Prop} (h : Ok X cc own nL cI cE d mc ms) {host : String} (hC : Ci (xl X) (xD X) cI cE y bytes maxL ret dc 0 0 As wc post w') (hY : YS y bytes maxL ret n) (hw : Cond.methodLinkNest own index y host ∈ lw_tbl) (hd : dc + 1 ≤ d) (hm : maxL ≤ 14) (hn : As.length = n) (hws : ws = wc ++ wr) (hst : st = As.reverse ++ rest) (hr : (rest.map fun v => v.category).sum ≤ 8) (hc : cs ≤ mc) (hl : sl ≤ ms) (dd : decode cc pc = .ok (.invokestatic index, 3))
    (k : ∀ (r : Int32) (u : S), post r u → J X nL cs sl (pc + 3) lv (.int r :: rest) (w' u ++ wr)) : J X nL cs sl pc lv st ws := by
  intro H locs ls hP hD hS hl1
  subst hws
  have hPc := vP_l hP
  have hDc := vD_l hD
  have hFc := vA_l hD hS h.2.2.1
  obtain ⟨y1, y3, y4, y5⟩ := hY
  exact va_calli (va_runSN (As := As) (rest := rest) h.1 (hC H.size) ⟨h.cn hw hd hm y4 y3 y5, h.t _ y1, trivial⟩ (h.pre hPc hDc) rfl hn hl1.1 hst (lv_room hr) dd ⟨Nat.le_trans hc h.2.2.2.2.2.1, Nat.le_trans hl h.2.2.2.2.2.2.1⟩) hS (fun q _ z => hFc q z) hFc (fun r u t H1 locs1 ht hvm hp hB hz hk hS1 => by
    obtain ⟨p1, -, p2⟩ := hB
    rw [ht] at p1
    obtain ⟨g1, g2⟩ := v_join hP hD hk hFc p1 p2
    exact k r u hp H1 locs1 ls g1 g2 hS1 hl1)
theorem K_sl {post : Int64 → S → Prop} (h : Ok X cc own nL cI cE d mc ms) (hC : Cl (xl X) (xD X) cI cE y bytes maxL ret dc 0 0 As wc post w') (hY : YS y bytes maxL ret n) (hw : Cond.methodLink own index y ∈ lw_tbl) (hd : dc + 1 ≤ d) (hm : maxL ≤ 14) (hn : As.length = n) (hws : ws = wc ++ wr) (hst : st = As.reverse ++ rest) (hr : (rest.map fun v => v.category).sum ≤ 8) (hc : cs ≤ mc) (hl : sl ≤ ms) (dd : decode cc pc = .ok (.invokestatic index, 3))
    (k : ∀ (r : Int64) (u : S), post r u → J X nL cs sl (pc + 3) lv (.long r :: rest) (w' u ++ wr)) : J X nL cs sl pc lv st ws := by
  intro H locs ls hP hD hS hl1
  subst hws
  have hPc := vP_l hP
  have hDc := vD_l hD
  have hFc := vA_l hD hS h.2.2.1
  obtain ⟨y1, y3, y4, y5⟩ := hY
  exact va_calll (va_runS (As := As) (rest := rest) h.1 (hC H.size) ⟨h.cb hw hd hm y4 y3 y5, h.t _ y1⟩ (h.pre hPc hDc) rfl hn hl1.1 hst (lv_room hr) dd ⟨Nat.le_trans hc h.2.2.2.2.2.1, Nat.le_trans hl h.2.2.2.2.2.2.1⟩) hS (fun q _ z => hFc q z) hFc (fun r u t H1 locs1 ht hvm hp hB hz hk hS1 => by
    obtain ⟨p1, -, p2⟩ := hB
    rw [ht] at p1
    obtain ⟨g1, g2⟩ := v_join hP hD hk hFc p1 p2
    exact k r u hp H1 locs1 ls g1 g2 hS1 hl1)
end KR
