/-! a new object's state -/
def sqL (l : List Nat) : Nat → Nat := fun j => l.getD j 0
def tbI (i : Nat) : Nat → Nat := fun j => if j < i then tbN j else 0
theorem tbI_0 : tbI 0 = fun _ => 0 := by funext j; unfold tbI; rw [if_neg (by omega)]
theorem tbI_s (i : Nat) : va_up (tbI i) i (tbN i) = tbI (i + 1) := by
  funext j; unfold va_up tbI
  by_cases e : j = i
  · rw [if_pos e, if_pos (by omega), e]
  · rw [if_neg e]
    by_cases z : j < i
    · rw [if_pos z, if_pos (by omega)]
    · rw [if_neg z, if_neg (by omega)]
theorem tbN_le (j : Nat) : tbN j ≤ 126 := by
  have h : ∀ x ∈ tbL, x ≤ 126 := by decide
  unfold tbN
  rw [List.getD_eq_getElem?_getD]
  cases e : tbL[j]? with
  | none => exact Nat.zero_le _
  | some x => exact h x (List.mem_of_getElem? e)
theorem tbI_le (i : Nat) : ∀ j, tbI i j ≤ 126 := fun j => by
  unfold tbI; split
  · exact tbN_le j
  · exact Nat.zero_le _
abbrev z0F : Nat → Int32 := fun _ => nI 0
def rd0 : Option Nat × RS := rdA (tbI 63) 63 201 0 (z0F, z0F, 0, 0)
def th0X : Nat → Int32 := rd0.2.1
def ow0X : Nat → Int32 := rd0.2.2.1
set_option maxRecDepth 100000 in
theorem rd0_a : rd0.1 = none ∧ rd0.2.2.2.1 = 4 ∧ rd0.2.2.2.2 = 6 := by decide +kernel
theorem rd_inj {t o : Nat → Int32} {c r : Nat} (h : rdA (tbI 63) 63 201 0 (z0F, z0F, 0, 0) = (none, t, o, c, r)) : t = th0X ∧ o = ow0X ∧ c = 4 ∧ r = 6 := by
  have h0 : rd0 = (none, t, o, c, r) := h
  have h1 := rd0_a
  unfold th0X ow0X
  rw [h0] at h1 ⊢
  exact ⟨rfl, rfl, h1.2.1, h1.2.2⟩
theorem rd_no {q : Nat} (h : (rdA (tbI 63) 63 201 0 (z0F, z0F, 0, 0)).1 = some q) : False := by
  have h1 := rd0_a.1
  have h0 : rd0.1 = some q := h
  rw [h0] at h1; cases h1
def rowU (th : Nat → Int32) (ro p : Nat) : Nat → Int32 := upd (upd (upd (upd th (4 * ro + 3) (nI (p % 10))) (4 * ro + 2) (nI (p / 10 % 10))) (4 * ro + 1) (nI (p / 10 / 10 % 10))) (4 * ro + 0) (nI (p / 10 / 10 / 10 % 10))
def rowV (mo : Nat → Int32) (ro : Nat) : Nat → Int32 := upd (upd (upd (upd mo (4 * ro + 3) (-4)) (4 * ro + 2) (-4)) (4 * ro + 1) (-4)) (4 * ro + 0) (-4)
def th0M : Nat → Int32 := rowU (rowU (rowU (rowU (rowU (rowU z0F 0 10) 1 103) 2 1002) 3 310) 4 2001) 5 0
def mo0M : Nat → Int32 := upd (upd (upd (upd (upd (rowV (rowV (rowV (rowV (rowV (rowV z0F 0) 1) 2) 3) 4) 5) 0 (nI 0)) 5 (nI 0)) 13 (nI 1)) 23 (nI 2)) 9 (nI 1)
set_option maxRecDepth 100000 in
theorem rel0_a : ∀ j, j < 24 → th0M j = th0X j ∧ mo0M j = sON (ow0X j) ∧ (0 ≤ (th0X j).toInt ∧ (th0X j).toInt ≤ 3) ∧ (0 ≤ (ow0X j).toInt ∧ (ow0X j).toInt ≤ 4) := by decide +kernel
theorem rel0 : rel (6 * 4) th0M mo0M th0X ow0X := fun j hj => rel0_a j hj
theorem J_arrE {X : Cx} {nL cs sl pc n a : Nat} {cE : ClassId} {lv : Lv} {st : List Value} {ws ws' : va_W} {f g : Nat → Option Nat} (q0 : Nat) (ha : ws[q0]? = some (a, .inl (cE, n, .inr (.inr (.inr (.inr f)))))) (hfg : ∀ j, j < n → f j = g j) (hw : ws.set q0 (a, .inl (cE, n, .inr (.inr (.inr (.inr g))))) = ws') (k : J X nL cs sl pc lv st ws') : J X nL cs sl pc lv st ws := by
  intro H locs ls hP hD hS hl
  have e : vp_cell cE (n, .inr (.inr (.inr (.inr f)))) = vp_cell cE (n, .inr (.inr (.inr (.inr g)))) := by
    rw [vp_cell_q, vp_cell_q]
    unfold arrV
    congr 1
    apply Array.ext
    · simp
    · intro i h1 h2
      simp only [Array.size_ofFn] at h1
      simp [hfg i h1]
  refine k H locs ls ?_ ?_ hS hl
  · rw [← hw]
    intro k q hq
    by_cases e1 : k = q0
    · subst e1
      rw [List.getElem?_set_self (List.getElem?_eq_some_iff.mp ha).1] at hq
      cases hq
      have := hP k _ ha
      show H[a]? = some (vp_cell cE _)
      rw [← e]
      exact this
    · rw [List.getElem?_set_ne (fun z => e1 z.symm)] at hq
      exact hP k q hq
  · rw [← hw]; exact hD.set ha
