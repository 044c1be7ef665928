/-! marks that fall -/
def sumP (m : Nat → Nat) : Nat → Nat
  | 0 => 0
  | n + 1 => sumP m n + m n
theorem sumP_same {m m2 : Nat → Nat} : ∀ {n : Nat}, (∀ k, k < n → m k = m2 k) → sumP m n = sumP m2 n
  | 0, _ => rfl
  | n + 1, h => by unfold sumP; rw [sumP_same (fun k hk => h k (by omega)), h n (by omega)]
theorem sumP_lt {m : Nat → Nat} {a x : Nat} (hx : x < m a) : ∀ {n : Nat}, a < n → sumP (va_up m a x) n < sumP m n
  | 0, h => absurd h (Nat.not_lt_zero _)
  | n + 1, h => by
    unfold sumP
    by_cases e : a = n
    · subst e
      rw [sumP_same (m2 := m) (fun k hk => by unfold va_up; rw [if_neg (by omega)]), show va_up m a x a = x from if_pos rfl]
      omega
    · have := sumP_lt hx (n := n) (by omega)
      rw [show va_up m a x n = m n from by unfold va_up; rw [if_neg (by omega)]]
      omega
theorem va_up_le {m : Nat → Nat} {a x b : Nat} (h : ∀ k, m k ≤ b) (hx : x ≤ b) : ∀ k, va_up m a x k ≤ b := fun k => by
  unfold va_up; split
  · exact hx
  · exact h k
theorem neg_toI {n : Nat} (h : n < 1000) : (-(nI n)).toInt = -((n : Nat) : Int) := by
  rw [show -(nI n) = nI 0 - nI n from (Int32.zero_sub _).symm, pk_sub_toInt (by omega) (by omega)]
  omega
/-- the first n marks are numbers, the others as they were -/
def mrk (f : Nat → Int32) (n : Nat) (m : Nat → Nat) : Nat → Int32 := fun j => if j < n then nI (m j) else f j
theorem mrk_0 (f : Nat → Int32) (m : Nat → Nat) : mrk f 0 m = f := by funext j; unfold mrk; rw [if_neg (by omega)]
theorem mrk_at {f : Nat → Int32} {n : Nat} {m : Nat → Nat} {j : Nat} (h : j < n) : mrk f n m j = nI (m j) := if_pos h
theorem mrk_s (f : Nat → Int32) (i : Nat) (m : Nat → Nat) : upd (mrk f i m) i (nI (m i)) = mrk f (i + 1) m := by
  funext j; unfold upd mrk
  by_cases e : j = i
  · rw [if_pos e, if_pos (by omega), e]
  · rw [if_neg e]
    by_cases z : j < i
    · rw [if_pos z, if_pos (by omega)]
    · rw [if_neg z, if_neg (by omega)]
theorem mrk_up {f : Nat → Int32} {n : Nat} {m : Nat → Nat} {a x : Nat} (ha : a < n) : upd (mrk f n m) a (nI x) = mrk f n (va_up m a x) := by
  funext j; unfold upd mrk va_up
  by_cases e : j = a
  · rw [if_pos e, if_pos (by omega), if_pos e]
  · rw [if_neg e]
    by_cases z : j < n
    · rw [if_pos z, if_pos z, if_neg e]
    · rw [if_neg z, if_neg z]
theorem mb_up {m : Nat → Nat} {n a x : Nat} (h : ∀ j, j < n → m j ≤ 1048576) (hx : x ≤ 1048576) : ∀ j, j < n → va_up m a x j ≤ 1048576 := fun j hj => by
  unfold va_up; split
  · exact hx
  · exact h j hj
def bm0 (a : Nat) : Nat → Nat := fun j => if j = a then 0 else 1048576
theorem bm0_s {f : Nat → Int32} {i a x : Nat} (h : bm0 a i = x) : upd (mrk f i (bm0 a)) i (nI x) = mrk f (i + 1) (bm0 a) := by rw [← h]; exact mrk_s f i (bm0 a)
theorem bm0_le (a n : Nat) : ∀ j, j < n → bm0 a j ≤ 1048576 := fun j _ => by unfold bm0; split <;> omega
