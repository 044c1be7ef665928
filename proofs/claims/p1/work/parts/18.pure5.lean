/-! marks that fall -/
def sumP (m : Nat → Nat) : Nat → Nat
  | 0 => 0
  | n + 1 => sumP m n + m n
theorem sumP_same {m m2 : Nat → Nat} : ∀ {n : Nat}, (∀ k, k < n → m k = m2 k) → sumP m n = sumP m2 n
  | 0, _ => rfl
  | n + 1, h => by unfold sumP; rw [sumP_same (fun k hk => h k (by omega)), h n (by omega)]
theorem sumP_lt {m : Nat → Nat} {a x : Nat} (hx : x < m a) : ∀ {n : Nat}, a < n → sumP (va_up m a x) n < sumP m n
  | 0, h => absurd h (Nat.not_lt_zero _)
  | n + 1, h => by
    unfold sumP
    by_cases e : a = n
    · subst e
      rw [sumP_same (m2 := m) (fun k hk => by unfold va_up; rw [if_neg (by omega)]), show va_up m a x a = x from if_pos rfl]
      omega
    · have := sumP_lt hx (n := n) (by omega)
      rw [show va_up m a x n = m n from by unfold va_up; rw [if_neg (by omega)]]
      omega
theorem va_up_le {m : Nat → Nat} {a x b : Nat} (h : ∀ k, m k ≤ b) (hx : x ≤ b) : ∀ k, va_up m a x k ≤ b := fun k => by
  unfold va_up; split
  · exact hx
  · exact h k
theorem neg_toI {n : Nat} (h : n < 1000) : (-(nI n)).toInt = -((n : Nat) : Int) := by
  rw [show -(nI n) = nI 0 - nI n from (Int32.zero_sub _).symm, pk_sub_toInt (by omega) (by omega)]
  omega
