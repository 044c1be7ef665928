/-! plain facts that the walks use -/
/-- an equation that the arithmetic needn't look into -/
def EqN (a b : Nat) : Prop := Nonempty (PLift (a = b))
theorem EqN.mk {a b : Nat} (h : a = b) : EqN a b := ⟨⟨h⟩⟩
theorem EqN.eq {a b : Nat} (h : EqN a b) : a = b := by obtain ⟨⟨h⟩⟩ := h; exact h
theorem upd_at (f : Nat → Int32) (i : Nat) (x : Int32) : upd f i x i = x := if_pos rfl
theorem upd_ne (f : Nat → Int32) {i j : Nat} (x : Int32) (h : j ≠ i) : upd f i x j = f j := if_neg h
theorem upd_ext {f g : Nat → Int32} {i : Nat} (h : ∀ j, j < i → f j = g j) : ∀ j, j < i + 1 → upd f i (g i) j = g j := fun j hj => by
  by_cases e : j = i
  · rw [e, upd_at]
  · rw [upd_ne _ _ e]; exact h j (by omega)
def cntP (p : Nat → Bool) : Nat → Nat
  | 0 => 0
  | n + 1 => cntP p n + if p n then 1 else 0
theorem cntP_le (p : Nat → Bool) : ∀ n, cntP p n ≤ n
  | 0 => Nat.le_refl 0
  | n + 1 => by have := cntP_le p n; unfold cntP; split <;> omega
theorem cntP_s (p : Nat → Bool) (n : Nat) : cntP p (n + 1) = cntP p n + if p n then 1 else 0 := rfl
theorem cntP_yes {p : Nat → Bool} {n : Nat} (h : p n = true) : cntP p (n + 1) = cntP p n + 1 := by rw [cntP_s, if_pos h]
theorem cntP_no {p : Nat → Bool} {n : Nat} (h : ¬ p n = true) : cntP p (n + 1) = cntP p n := by rw [cntP_s, if_neg h]; rfl
theorem cntP_cong {p q : Nat → Bool} : ∀ {n : Nat}, (∀ k, k < n → p k = q k) → cntP p n = cntP q n
  | 0, _ => rfl
  | n + 1, h => by unfold cntP; rw [cntP_cong (fun k hk => h k (by omega)), h n (by omega)]
/-- a frost's work on what lies on a cell -/
def fz (k : Int32) : Int32 := if k.toInt = 0 then nI 1 else if k.toInt = 2 then nI 0 else k
/-- a stretch of an array set by a function of what stood there -/
def sgm (lo n : Nat) (g : Int32 → Int32) (f : Nat → Int32) : Nat → Int32 := fun j => if lo ≤ j ∧ j < lo + n then g (f j) else f j
theorem sgm_0 (lo : Nat) (g : Int32 → Int32) (f : Nat → Int32) : sgm lo 0 g f = f := by
  funext j; unfold sgm; rw [if_neg (by omega)]
theorem sgm_s (lo n : Nat) (g : Int32 → Int32) (f : Nat → Int32) : upd (sgm lo n g f) (lo + n) (g (f (lo + n))) = sgm lo (n + 1) g f := by
  funext j
  unfold upd sgm
  by_cases e : j = lo + n
  · subst e; rw [if_pos rfl, if_pos (by omega)]
  · rw [if_neg e]
    by_cases z : lo ≤ j ∧ j < lo + n
    · rw [if_pos z, if_pos (by omega)]
    · rw [if_neg z, if_neg (by omega)]
theorem sgm_at (lo n : Nat) (g : Int32 → Int32) (f : Nat → Int32) : sgm lo n g f (lo + n) = f (lo + n) := by unfold sgm; rw [if_neg (by omega)]
/-- the cell beside another one to the left, right, above or below -/
def bsd (co ro j i : Nat) : Option Nat := if i = 0 then (if 0 < j % co then some (j - 1) else none) else if i = 1 then (if j % co + 1 < co then some (j + 1) else none) else if i = 2 then (if 0 < j / co then some (j - co) else none) else (if j / co + 1 < ro then some (j + co) else none)
def nA (lx : Nat → Nat) : Nat → Int32 := fun j => nI (lx j)
theorem upd_nA (lx : Nat → Nat) (i x : Nat) : upd (nA lx) i (nI x) = nA (va_up lx i x) := by
  funext j; unfold upd nA va_up; split <;> rfl
