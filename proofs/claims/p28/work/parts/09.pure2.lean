/-! a text, read -/
def ltr (lx : Nat → Nat) (tn p : Nat) : Nat := if p < tn then lx p else 0
theorem ltr_le {lx : Nat → Nat} (h : ∀ j, lx j ≤ 126) (tn p : Nat) : ltr lx tn p ≤ 126 := by
  unfold ltr; split
  · exact h p
  · omega
def bnm (lx : Nat → Nat) (tn p : Nat) : Nat := if 48 ≤ ltr lx tn p ∧ ltr lx tn p ≤ 57 then (if 48 ≤ ltr lx tn (p + 1) ∧ ltr lx tn (p + 1) ≤ 57 then p + 2 else p + 1) else p
theorem bnm_in (lx : Nat → Nat) (tn p : Nat) : p ≤ bnm lx tn p ∧ bnm lx tn p ≤ p + 2 := by unfold bnm; (repeat' split) <;> omega
theorem bnm_fig {lx : Nat → Nat} {tn p : Nat} : ∀ k, p ≤ k → k < bnm lx tn p → 48 ≤ ltr lx tn k ∧ ltr lx tn k ≤ 57 := fun k h1 h2 => by
  unfold bnm at h2
  split at h2
  · rename_i q1
    split at h2
    · rename_i q2
      rcases (show k = p ∨ k = p + 1 by omega) with e | e <;> rw [e] <;> assumption
    · rw [show k = p by omega]; exact q1
  · omega
def nvr (lx : Nat → Nat) (tn a : Nat) : Nat → Nat
  | 0 => 0
  | k + 1 => 10 * nvr lx tn a k + ltr lx tn (a + k) - 48
abbrev RS : Type := (Nat → Int32) × (Nat → Int32) × Nat × Nat
def rowN (lx : Nat → Nat) (tn p : Nat) : Nat := fstP (fun k => decide (¬ (48 ≤ ltr lx tn (p + k) ∧ ltr lx tn (p + k) ≤ 51))) 7
theorem rowN_7 {lx : Nat → Nat} {tn p n : Nat} (e : n = 7) (hd : ∀ k, k < n → 48 ≤ ltr lx tn (p + k) ∧ ltr lx tn (p + k) ≤ 51) : rowN lx tn p = n := by
  subst e
  exact fstP_none (fun j hj => decide_eq_false (fun z => z (hd j hj)))
theorem rowN_n {lx : Nat → Nat} {tn p n : Nat} (hd : ∀ k, k < n → 48 ≤ ltr lx tn (p + k) ∧ ltr lx tn (p + k) ≤ 51) (hn : ¬ (48 ≤ ltr lx tn (p + n) ∧ ltr lx tn (p + n) ≤ 51)) (h7 : n < 7) : rowN lx tn p = n :=
  fstP_eq (fun j hj => decide_eq_false (fun z => z (hd j hj))) (decide_eq_true hn) h7
def rowT (lx : Nat → Nat) (tn p lo n : Nat) (f : Nat → Int32) : Nat → Int32 := fun j => if lo ≤ j ∧ j < lo + n then nI (ltr lx tn (p + (j - lo)) - 48) else f j
theorem rowT_0 (lx : Nat → Nat) (tn p lo : Nat) (f : Nat → Int32) : rowT lx tn p lo 0 f = f := by
  funext j; unfold rowT; rw [if_neg (by omega)]
theorem rowT_s (lx : Nat → Nat) (tn p lo n : Nat) (f : Nat → Int32) : upd (rowT lx tn p lo n f) (lo + n) (nI (ltr lx tn (p + n) - 48)) = rowT lx tn p lo (n + 1) f := by
  funext j
  unfold upd rowT
  by_cases e : j = lo + n
  · subst e; rw [if_pos rfl, if_pos (by omega), show lo + n - lo = n by omega]
  · rw [if_neg e]
    by_cases z : lo ≤ j ∧ j < lo + n
    · rw [if_pos z, if_pos (by omega)]
    · rw [if_neg z, if_neg (by omega)]
theorem rowT_sgm (lx : Nat → Nat) (tn p lo n : Nat) (g : Int32 → Int32) (f : Nat → Int32) : rowT lx tn p lo n (sgm lo n g f) = rowT lx tn p lo n f := by
  funext j
  unfold rowT sgm
  by_cases z : lo ≤ j ∧ j < lo + n
  · rw [if_pos z, if_pos z]
  · rw [if_neg z, if_neg z, if_neg z]
def rowR (lx : Nat → Nat) (tn p : Nat) (s : RS) : Option (Nat × RS) :=
  if ltr lx tn (p + rowN lx tn p) = 59 ∧ 2 ≤ rowN lx tn p ∧ rowN lx tn p ≤ 6 ∧ s.2.2.2 < 8 ∧ (s.2.2.2 = 0 ∨ rowN lx tn p = s.2.2.1) then
    some (p + rowN lx tn p + 1, rowT lx tn p (s.2.2.2 * rowN lx tn p) (rowN lx tn p) s.1, sgm (s.2.2.2 * rowN lx tn p) (rowN lx tn p) (fun _ => nI 4) s.2.1, rowN lx tn p, s.2.2.2 + 1)
  else none
def ownR (lx : Nat → Nat) (tn p : Nat) (s : RS) : Option (Nat × RS) :=
  if bnm lx tn p ≠ p ∧ bnm lx tn (bnm lx tn p + 1) ≠ bnm lx tn p + 1 ∧ ltr lx tn (bnm lx tn p) = 44 ∧ ltr lx tn (bnm lx tn (bnm lx tn p + 1)) = 59 ∧ nvr lx tn p (bnm lx tn p - p) < s.2.2.2 * s.2.2.1 ∧ nvr lx tn (bnm lx tn p + 1) (bnm lx tn (bnm lx tn p + 1) - (bnm lx tn p + 1)) < 4 then
    some (bnm lx tn (bnm lx tn p + 1) + 1, s.1, upd s.2.1 (nvr lx tn p (bnm lx tn p - p)) (nI (nvr lx tn (bnm lx tn p + 1) (bnm lx tn (bnm lx tn p + 1) - (bnm lx tn p + 1)))), s.2.2.1, s.2.2.2)
  else none
def itmR (lx : Nat → Nat) (tn p : Nat) (s : RS) : Option (Nat × RS) := if ltr lx tn p = 114 then rowR lx tn (p + 1) s else if ltr lx tn p = 111 then ownR lx tn (p + 1) s else none
def rdA (lx : Nat → Nat) (tn : Nat) : Nat → Nat → RS → Option Nat × RS
  | 0, _, s => (none, s)
  | n + 1, p, s => if p < tn then (match itmR lx tn p s with | none => (some p, s) | some q => rdA lx tn n q.1 q.2) else (none, s)
theorem rdA_end {lx : Nat → Nat} {tn p : Nat} (h : tn ≤ p) : ∀ (n : Nat) (s : RS), rdA lx tn n p s = (none, s)
  | 0, s => rfl
  | n + 1, s => by unfold rdA; rw [if_neg (by omega)]
theorem rdA_no {lx : Nat → Nat} {tn p n : Nat} {s : RS} (h : p < tn) (hi : itmR lx tn p s = none) : rdA lx tn (n + 1) p s = (some p, s) := by unfold rdA; rw [if_pos h, hi]
theorem rdA_go {lx : Nat → Nat} {tn p q n : Nat} {s t : RS} (h : p < tn) (hi : itmR lx tn p s = some (q, t)) : rdA lx tn (n + 1) p s = rdA lx tn n q t := by
  conv => lhs; unfold rdA
  rw [if_pos h, hi]
