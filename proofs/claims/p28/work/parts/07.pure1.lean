/-! a slide, as numbers -/
/-- the speed behind what lies on a cell -/
def spd (k : Int32) (v : Nat) : Nat := if k.toInt = 0 then v - 2 else if k.toInt = 1 then min (v + 1) 20 else if k.toInt = 2 then v - 5 else if k.toInt = 3 then (v - 2) / 2 else 0
theorem spd_le {k : Int32} {v : Nat} (h : v ≤ 20) : spd k v ≤ 20 := by
  unfold spd
  repeat' split
  all_goals omega
def hrow (hh : Nat) : Nat := if 10 < hh then hh - 10 else hh
def mvx (co hh x : Nat) : Nat := if 10 < hh then (if x + 1 < co then x + 1 else x) else x - 1
/-- column and speed ahead of row r -/
def rst (th : Nat → Int32) (co hh x0 w : Nat) : Nat → Nat × Nat
  | 0 => (x0, w)
  | r + 1 => if 0 < spd (th (r * co + (rst th co hh x0 w r).1)) (rst th co hh x0 w r).2 ∧ r + 1 = hrow hh then (mvx co hh (rst th co hh x0 w r).1, spd (th (r * co + (rst th co hh x0 w r).1)) (rst th co hh x0 w r).2 - 1) else ((rst th co hh x0 w r).1, spd (th (r * co + (rst th co hh x0 w r).1)) (rst th co hh x0 w r).2)
theorem rst_s (th : Nat → Int32) (co hh x0 w r : Nat) : rst th co hh x0 w (r + 1) = if 0 < spd (th (r * co + (rst th co hh x0 w r).1)) (rst th co hh x0 w r).2 ∧ r + 1 = hrow hh then (mvx co hh (rst th co hh x0 w r).1, spd (th (r * co + (rst th co hh x0 w r).1)) (rst th co hh x0 w r).2 - 1) else ((rst th co hh x0 w r).1, spd (th (r * co + (rst th co hh x0 w r).1)) (rst th co hh x0 w r).2) := rfl
theorem mvx_lt {co hh x : Nat} (h : x < co) : mvx co hh x < co := by unfold mvx; (repeat' split) <;> omega
theorem rst_in (th : Nat → Int32) {co hh x0 w : Nat} (hx : x0 < co) (hw : w ≤ 20) : ∀ r, (rst th co hh x0 w r).1 < co ∧ (rst th co hh x0 w r).2 ≤ 20
  | 0 => ⟨hx, hw⟩
  | r + 1 => by
    have ih := rst_in th (hh := hh) hx hw r
    have h2 := spd_le (k := th (r * co + (rst th co hh x0 w r).1)) ih.2
    rw [rst_s]
    split
    · exact ⟨mvx_lt ih.1, by show _ - 1 ≤ 20; omega⟩
    · exact ⟨ih.1, h2⟩
/-- the cell in row r -/
def rcl (th : Nat → Int32) (co hh x0 w r : Nat) : Nat := r * co + (rst th co hh x0 w r).1
theorem rcl_lt (th : Nat → Int32) {co hh x0 w r ro : Nat} (hx : x0 < co) (hw : w ≤ 20) (hr : r < ro) : rcl th co hh x0 w r < ro * co := by
  have h1 := (rst_in th (hh := hh) hx hw r).1
  have h2 : r * co + co ≤ ro * co := by rw [← Nat.succ_mul]; exact Nat.mul_le_mul_right _ hr
  unfold rcl; omega
/-- the first number below n of which p says yes, else n -/
def fstP (p : Nat → Bool) : Nat → Nat
  | 0 => 0
  | n + 1 => if fstP p n < n then fstP p n else if p n then n else n + 1
theorem fstP_le (p : Nat → Bool) : ∀ n, fstP p n ≤ n
  | 0 => Nat.le_refl 0
  | n + 1 => by have ih := fstP_le p n; unfold fstP; (repeat' split) <;> omega
theorem fstP_no (p : Nat → Bool) : ∀ n k, k < fstP p n → p k = false
  | 0, k, h => absurd h (Nat.not_lt_zero k)
  | n + 1, k, h => by
    have ih := fstP_no p n
    have hl := fstP_le p n
    unfold fstP at h
    split at h
    · exact ih k h
    · split at h
      · exact ih k (by omega)
      · rename_i h1 h2
        by_cases e : k = n
        · subst e; simpa using h2
        · exact ih k (by omega)
theorem fstP_yes (p : Nat → Bool) : ∀ n, fstP p n < n → p (fstP p n) = true
  | 0, h => absurd h (Nat.not_lt_zero _)
  | n + 1, h => by
    have ih := fstP_yes p n
    unfold fstP at h ⊢
    split
    · rename_i h1; exact ih h1
    · split
      · rename_i h1 h2; exact h2
      · rename_i h1 h2
        rw [if_neg h1, if_neg h2] at h
        omega
theorem fstP_eq {p : Nat → Bool} {n k : Nat} (h1 : ∀ j, j < k → p j = false) (h2 : p k = true) (hk : k < n) : fstP p n = k := by
  rcases Nat.lt_trichotomy (fstP p n) k with h | h | h
  · have := fstP_yes p n (by omega)
    rw [h1 _ h] at this; cases this
  · exact h
  · have := fstP_no p n k h
    rw [h2] at this; cases this
theorem fstP_none {p : Nat → Bool} {n : Nat} (h1 : ∀ j, j < n → p j = false) : fstP p n = n := by
  rcases Nat.lt_or_ge (fstP p n) n with h | h
  · have := fstP_yes p n h
    rw [h1 _ h] at this; cases this
  · have := fstP_le p n; omega
/-- the row in which it stops (ro: it comes to the sea) -/
def rsp (th : Nat → Int32) (co ro hh x0 w : Nat) : Nat := fstP (fun r => decide ((rst th co hh x0 w (r + 1)).2 = 0)) ro
/-- how many rows it comes to -/
def rln (th : Nat → Int32) (co ro hh x0 w : Nat) : Nat := if rsp th co ro hh x0 w < ro then rsp th co ro hh x0 w + 1 else ro
/-- where it stops: a cell, or 99 -/
def ren (th : Nat → Int32) (co ro hh x0 w : Nat) : Nat := if rsp th co ro hh x0 w < ro then rcl th co hh x0 w (rsp th co ro hh x0 w) else 99
theorem rln_le (th : Nat → Int32) (co ro hh x0 w : Nat) : rln th co ro hh x0 w ≤ ro := by
  unfold rln; split <;> omega
theorem r_stop {th : Nat → Int32} {co ro hh x0 w r : Nat} (hn : ∀ k, k < r → (rst th co hh x0 w (k + 1)).2 ≠ 0) (hs : (rst th co hh x0 w (r + 1)).2 = 0) (hr : r < ro) : rln th co ro hh x0 w = r + 1 ∧ ren th co ro hh x0 w = rcl th co hh x0 w r := by
  have e : rsp th co ro hh x0 w = r := fstP_eq (fun j hj => by simpa using hn j hj) (by simpa using hs) hr
  unfold rln ren
  rw [e, if_pos hr, if_pos hr]; exact ⟨rfl, rfl⟩
theorem r_sea {th : Nat → Int32} {co ro hh x0 w : Nat} (hn : ∀ k, k < ro → (rst th co hh x0 w (k + 1)).2 ≠ 0) : rln th co ro hh x0 w = ro ∧ ren th co ro hh x0 w = 99 := by
  have e : rsp th co ro hh x0 w = ro := fstP_none (fun j hj => by simpa using hn j hj)
  unfold rln ren
  rw [e, if_neg (Nat.lt_irrefl _), if_neg (Nat.lt_irrefl _)]; exact ⟨rfl, rfl⟩
theorem upd_extN {f : Nat → Int32} {g : Nat → Int32} {i : Nat} {x : Int32} (h : ∀ j, j < i → f j = g j) (hx : x = g i) : ∀ j, j < i + 1 → upd f i x j = g j := by
  rw [hx]; exact upd_ext h
/-- all cells of a list of places set -/
def owB (ow : Nat → Int32) (f : Int32) (cl : Nat → Nat) : Nat → Nat → Int32
  | 0 => ow
  | n + 1 => upd (owB ow f cl n) (cl n) f
theorem ren_lt (th : Nat → Int32) {co ro hh x0 w : Nat} (hrc : ro * co ≤ 48) (hx : x0 < co) (hw : w ≤ 20) : ren th co ro hh x0 w ≤ 99 := by
  unfold ren; split
  · rename_i h
    have := rcl_lt th (hh := hh) hx hw h
    omega
  · omega
theorem minN {a b : Nat} (ha : a < 2147483648) (hb : b < 2147483648) : (if nI b < nI a then nI b else nI a) = nI (min a b) := by
  rcases Nat.lt_or_ge b a with h | h
  · rw [if_pos (nI_lt h ha), show min a b = b by omega]
  · rw [if_neg (nI_nlt h hb), show min a b = a by omega]
/-- the place of the latest one on a ring of n places -/
def lstP (n nx : Nat) : Nat := if 0 < nx then nx - 1 else n - 1
def nxtP (n nx : Nat) : Nat := if nx + 1 < n then nx + 1 else 0
def aS (e : Nat → Nat) : Nat → Option Nat := fun j => some (e j)
/-- the heels that a search tries, in order -/
def hsA (i rl : Nat) : Nat := if i ≤ rl then i else i - rl + 10
theorem hsA_le {i rl : Nat} (h : i ≤ 2 * rl) : hsA i rl ≤ rl + 10 := by unfold hsA; split <;> omega
