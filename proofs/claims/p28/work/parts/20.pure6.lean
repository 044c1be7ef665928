/-! likely, by all ways in which rows freeze -/
def bitN (a k : Nat) : Nat := a / 2 ^ k % 2
set_option maxRecDepth 100000 in
theorem has_bit : ∀ a, a < 256 → ∀ k, k < 8 → ((nI a >>> (nI k &&& 31)) &&& nI 1) = nI (bitN a k) := by decide +kernel
theorem bitN_le (a k : Nat) : bitN a k = 0 ∨ bitN a k = 1 := by unfold bitN; omega
def pw2 (r : Nat) : Nat := 2 ^ r
theorem pw2_shl : ∀ r, r < 9 → (nI 1 <<< (nI r &&& 31)) = nI (pw2 r) := by decide +kernel
theorem pw2_in : ∀ r, r < 9 → 1 ≤ pw2 r ∧ pw2 r ≤ 256 := by decide +kernel
def pw10 (r : Nat) : Nat := 10 ^ r
theorem pw10_in : ∀ r, r < 9 → 1 ≤ pw10 r ∧ pw10 r ≤ 100000000 := by decide +kernel
theorem pw10_s (r : Nat) : lN (pw10 r) * 10 = lN (pw10 (r + 1)) := by show lN (pw10 r) * lN 10 = _; rw [lN_mul]; rfl
/-- the weight of the first k rows by t of ten -/
def lkW (t ice : Nat) : Nat → Nat
  | 0 => 1
  | k + 1 => lkW t ice k * (if bitN ice k = 1 then t else 10 - t)
theorem lkW_s (t ice k : Nat) : lkW t ice (k + 1) = lkW t ice k * (if bitN ice k = 1 then t else 10 - t) := rfl
theorem lkW_le {t ice : Nat} (ht : t ≤ 10) : ∀ k, lkW t ice k ≤ 10 ^ k
  | 0 => Nat.le_refl 1
  | k + 1 => by
    rw [lkW_s, Nat.pow_succ]
    exact Nat.mul_le_mul (lkW_le ht k) (by split <;> omega)
/-- the speed ahead of row k, the rows of ice frozen -/
def evs (th : Nat → Int32) (co x ice w : Nat) : Nat → Nat
  | 0 => w
  | k + 1 => spd (if bitN ice k = 1 then nI 1 else th (k * co + x)) (evs th co x ice w k)
theorem evs_s (th : Nat → Int32) (co x ice w k : Nat) : evs th co x ice w (k + 1) = spd (if bitN ice k = 1 then nI 1 else th (k * co + x)) (evs th co x ice w k) := rfl
theorem evs_le (th : Nat → Int32) (co x ice : Nat) {w : Nat} (hw : w ≤ 20) : ∀ k, evs th co x ice w k ≤ 20
  | 0 => hw
  | k + 1 => spd_le (evs_le th co x ice hw k)
def esp (th : Nat → Int32) (co ro x ice w : Nat) : Nat := fstP (fun k => decide (evs th co x ice w (k + 1) = 0)) ro
def eby (th : Nat → Int32) (co ro x ice w : Nat) : Nat := if esp th co ro x ice w < ro then esp th co ro x ice w * co + x else 99
theorem eby_stop {th : Nat → Int32} {co ro x ice w k : Nat} (hn : ∀ i, i < k → evs th co x ice w (i + 1) ≠ 0) (hs : evs th co x ice w (k + 1) = 0) (hk : k < ro) : eby th co ro x ice w = k * co + x := by
  have e : esp th co ro x ice w = k := fstP_eq (fun j hj => decide_eq_false (hn j hj)) (decide_eq_true hs) hk
  unfold eby; rw [e, if_pos hk]
theorem eby_sea {th : Nat → Int32} {co ro x ice w : Nat} (hn : ∀ i, i < ro → evs th co x ice w (i + 1) ≠ 0) : eby th co ro x ice w = 99 := by
  have e : esp th co ro x ice w = ro := fstP_none (fun j hj => decide_eq_false (hn j hj))
  unfold eby; rw [e, if_neg (Nat.lt_irrefl _)]
theorem eby_lt (th : Nat → Int32) {co ro x ice w : Nat} (hrc : ro * co ≤ 48) (hx : x < co) : eby th co ro x ice w ≤ 99 := by
  unfold eby; split
  · rename_i h
    have h2 : esp th co ro x ice w * co + co ≤ ro * co := by rw [← Nat.succ_mul]; exact Nat.mul_le_mul_right _ h
    omega
  · omega
/-- the weights of all ways below n in which it ends in c -/
def lkS (th : Nat → Int32) (co ro x w c t : Nat) : Nat → Nat
  | 0 => 0
  | i + 1 => lkS th co ro x w c t i + (if eby th co ro x i w = c then lkW t i ro else 0)
theorem lkS_s (th : Nat → Int32) (co ro x w c t i : Nat) : lkS th co ro x w c t (i + 1) = lkS th co ro x w c t i + (if eby th co ro x i w = c then lkW t i ro else 0) := rfl
theorem lkS_le (th : Nat → Int32) {co ro x w c t : Nat} (ht : t ≤ 10) (hr : ro ≤ 8) : ∀ i, lkS th co ro x w c t i ≤ i * 100000000
  | 0 => Nat.zero_le _
  | i + 1 => by
    have h1 := lkS_le th (co := co) (ro := ro) (x := x) (w := w) (c := c) ht hr i
    have h2 : lkW t i ro ≤ 100000000 := Nat.le_trans (lkW_le ht ro) (pw10_in ro (by omega)).2
    rw [lkS_s, Nat.succ_mul]
    refine Nat.add_le_add h1 ?_
    split
    · exact h2
    · exact Nat.zero_le _
abbrev vTen (t : Int32) : Prop := 0 ≤ t.toInt ∧ t.toInt ≤ 10
def lkN (th : Nat → Int32) (co ro x w c t : Nat) : Nat := lkS th co ro x w c t (pw2 ro)
def fLikely (th : Nat → Int32) (co ro : Nat) (x w c t part : Int32) : Int32 := if vRide co x w (nI 0) ∧ vEnd (ro * co) c ∧ vTen t ∧ vFlag part then (if part.toInt = 0 then nI (lkN th co ro (tn x) (tn w) (tn c) (tn t) / Nat.gcd (lkN th co ro (tn x) (tn w) (tn c) (tn t)) (pw10 ro)) else nI (pw10 ro / Nat.gcd (lkN th co ro (tn x) (tn w) (tn c) (tn t)) (pw10 ro))) else (-1)
theorem lN_ne0 {n : Nat} (h0 : 0 < n) (h : n < 2 ^ 63) : ¬ lN n = 0 := fun e => by
  have h1 : (lN n).toInt = (n : Int) := lg_ofNat_toInt h
  rw [e] at h1
  have h2 : (0 : Int64).toInt = 0 := rfl
  omega
theorem lN_is0 {n : Nat} (h : n < 2 ^ 63) : lN n = 0 ↔ n = 0 := by
  refine ⟨fun e => ?_, fun e => by rw [e]; rfl⟩
  rcases Nat.eq_zero_or_pos n with q | q
  · exact q
  · exact absurd e (lN_ne0 q h)
theorem lcmp0 {n : Nat} (h : n < 2 ^ 63) : (lg_cmp (lN n) 0 = 0) ↔ n = 0 := (lg_cmp_eq _ _).trans (lN_is0 h)
theorem gcd_go {a b x y : Nat} (h : Nat.gcd a b = Nat.gcd x y) (hy : y ≠ 0) : Nat.gcd a b = Nat.gcd y (x % y) := by
  rw [h, Nat.gcd_comm x y, Nat.gcd_rec y x, Nat.gcd_comm]
theorem shl_t {t k ice : Nat} (ht : t ≤ 10) (h : bitN ice k = 1) : lN (lkW t ice k) * (nI t).toInt64 = lN (lkW t ice (k + 1)) := by rw [nI_l (by omega), lN_mul, lkW_s, if_pos h]
theorem shl_f {t k ice : Nat} (ht : t ≤ 10) (h : bitN ice k = 0) : lN (lkW t ice k) * (nI (10 - t)).toInt64 = lN (lkW t ice (k + 1)) := by rw [nI_l (by omega), lN_mul, lkW_s, if_neg (by omega)]
theorem fLik_no {th : Nat → Int32} {co ro : Nat} {x w c t part : Int32} (h : ¬ (vRide co x w (nI 0) ∧ vEnd (ro * co) c ∧ vTen t ∧ vFlag part)) : fLikely th co ro x w c t part = (-1) := by unfold fLikely; rw [if_neg h]
theorem fLik_yes {th : Nat → Int32} {co ro jx jw jc jt g s : Nat} {part : Int32} (h1 : vRide co (nI jx) (nI jw) (nI 0)) (h2 : vEnd (ro * co) (nI jc)) (h3 : jt ≤ 10) (h4 : vFlag part) (hco : jx < 1000) (hw : jw < 1000) (hc : jc < 1000) (hs : s = lkN th co ro jx jw jc jt) (hg : g = Nat.gcd s (pw10 ro)) : fLikely th co ro (nI jx) (nI jw) (nI jc) (nI jt) part = (if part.toInt = 0 then nI (s / g) else nI (pw10 ro / g)) := by
  have ht := tiI (j := jt) (by omega)
  unfold fLikely
  rw [if_pos ⟨h1, h2, ⟨by omega, by omega⟩, h4⟩, tnI (by omega), tnI (by omega), tnI (by omega), tnI (by omega), ← hs, ← hg]
