/-! likely, row by row -/
theorem sumP_add (f : Nat → Nat) (a : Nat) : ∀ b, sumP f (a + b) = sumP f a + sumP (fun i => f (a + i)) b
  | 0 => rfl
  | b + 1 => by
    show sumP f (a + b) + f (a + b) = sumP f a + (sumP (fun i => f (a + i)) b + f (a + b))
    rw [sumP_add f a b, Nat.add_assoc]
theorem sumP_plus (f g : Nat → Nat) : ∀ n, sumP (fun i => f i + g i) n = sumP f n + sumP g n
  | 0 => rfl
  | n + 1 => by
    show sumP (fun i => f i + g i) n + (f n + g n) = (sumP f n + f n) + (sumP g n + g n)
    rw [sumP_plus f g n]; omega
theorem sumP_mul (f : Nat → Nat) (c : Nat) : ∀ n, sumP (fun i => f i * c) n = sumP f n * c
  | 0 => (Nat.zero_mul c).symm
  | n + 1 => by
    show sumP (fun i => f i * c) n + f n * c = (sumP f n + f n) * c
    rw [sumP_mul f c n, Nat.add_mul]
theorem sumP_zero {f : Nat → Nat} : ∀ {n : Nat}, (∀ k, k < n → f k = 0) → sumP f n = 0
  | 0, _ => rfl
  | n + 1, h => by
    show sumP f n + f n = 0
    rw [sumP_zero (fun k hk => h k (by omega)), h n (by omega)]
theorem sumP_one (c z : Nat) : ∀ n, sumP (fun v => if v = c then z else 0) n = if c < n then z else 0
  | 0 => rfl
  | n + 1 => by
    show sumP (fun v => if v = c then z else 0) n + (if n = c then z else 0) = _
    rw [sumP_one c z n]
    (repeat' split) <;> omega
/-- a sum, parted by where e lies -/
theorem sumP_part (A : Nat → Bool) (e a g : Nat → Nat) (v' : Nat) (he : ∀ i, e i ≤ 20) : ∀ n, sumP (fun i => if A i = true ∧ g (e i) = v' then a i else 0) n = sumP (fun v => if g v = v' then sumP (fun i => if A i = true ∧ e i = v then a i else 0) n else 0) 21
  | 0 => (sumP_zero (fun k _ => by show (if g k = v' then 0 else 0) = 0; split <;> rfl)).symm
  | n + 1 => by
    show sumP (fun i => if A i = true ∧ g (e i) = v' then a i else 0) n + (if A n = true ∧ g (e n) = v' then a n else 0) = _
    rw [sumP_part A e a g v' he n]
    have h1 : sumP (fun v => if v = e n then (if A n = true ∧ g (e n) = v' then a n else 0) else 0) 21 = (if A n = true ∧ g (e n) = v' then a n else 0) := by
      rw [sumP_one, if_pos (by have := he n; omega)]
    rw [← h1, ← sumP_plus]
    refine sumP_same (fun v _ => ?_)
    show _ = if g v = v' then (sumP (fun i => if A i = true ∧ e i = v then a i else 0) n + (if A n = true ∧ e n = v then a n else 0)) else 0
    by_cases q1 : g v = v'
    · rw [if_pos q1, if_pos q1]
      by_cases q2 : v = e n
      · subst q2
        rw [if_pos rfl]
        by_cases q3 : A n = true
        · rw [if_pos ⟨q3, q1⟩, if_pos ⟨q3, rfl⟩]
        · rw [if_neg (fun z => q3 z.1), if_neg (fun z => q3 z.1)]
      · rw [if_neg q2, if_neg (fun z => q2 z.2.symm)]
    · rw [if_neg q1, if_neg q1]
      by_cases q2 : v = e n
      · rw [if_pos q2, if_neg (fun z => q1 (by rw [q2]; exact z.2))]
      · rw [if_neg q2]
set_option maxRecDepth 100000 in
theorem bit_a : ∀ k, k < 8 → ∀ i, i < 2 ^ k → (∀ j, j < k → bitN (2 ^ k + i) j = bitN i j) ∧ bitN (2 ^ k + i) k = 1 ∧ bitN i k = 0 := by decide +kernel
section LK
variable {th : Nat → Int32} {co x w t : Nat}
theorem evs_lo {k i : Nat} (hk : k < 8) (hi : i < 2 ^ k) : ∀ j, j ≤ k → evs th co x (2 ^ k + i) w j = evs th co x i w j
  | 0, _ => rfl
  | j + 1, h => by rw [evs_s, evs_s, evs_lo hk hi j (by omega), (bit_a k hk i hi).1 j (by omega)]
theorem lkW_lo {k i : Nat} (hk : k < 8) (hi : i < 2 ^ k) : ∀ j, j ≤ k → lkW t (2 ^ k + i) j = lkW t i j
  | 0, _ => rfl
  | j + 1, h => by rw [lkW_s, lkW_s, lkW_lo hk hi j (by omega), (bit_a k hk i hi).1 j (by omega)]
def alB (th : Nat → Int32) (co x w i : Nat) : Nat → Bool
  | 0 => true
  | k + 1 => alB th co x w i k && decide (evs th co x i w (k + 1) ≠ 0)
theorem alB_iff {i : Nat} : ∀ {k : Nat}, alB th co x w i k = true ↔ ∀ j, j < k → evs th co x i w (j + 1) ≠ 0
  | 0 => ⟨fun _ j hj => absurd hj (Nat.not_lt_zero j), fun _ => rfl⟩
  | k + 1 => by
    unfold alB
    rw [Bool.and_eq_true, alB_iff, decide_eq_true_eq]
    exact ⟨fun h => lt_s h.1 h.2, fun h => ⟨fun j hj => h j (by omega), h k (by omega)⟩⟩
theorem alB_lo {k i : Nat} (hk : k < 8) (hi : i < 2 ^ k) : ∀ j, j ≤ k → alB th co x w (2 ^ k + i) j = alB th co x w i j
  | 0, _ => rfl
  | j + 1, h => by unfold alB; rw [alB_lo hk hi j (by omega), evs_lo hk hi (j + 1) h]
/-- one row: how the ways go on -/
def psS (k : Int32) (t : Nat) (W : Nat → Nat) (n v' : Nat) : Nat := sumP (fun v => (if spd (nI 1) v = v' then t * W v else 0) + (if spd k v = v' then (10 - t) * W v else 0)) n
def wyR (th : Nat → Int32) (co x w t : Nat) : Nat → Nat → Nat
  | 0 => fun v => if v = w then 1 else 0
  | r + 1 => fun v => if v = 0 then 0 else psS (th (r * co + x)) t (wyR th co x w t r) 21 v
def tkR (th : Nat → Int32) (co x w t k v : Nat) : Nat := sumP (fun i => if alB th co x w i k = true ∧ evs th co x i w k = v then lkW t i k else 0) (2 ^ k)
theorem tk_G (hw : w ≤ 20) {k : Nat} (hk : k < 8) (v' : Nat) : sumP (fun i => if alB th co x w i k = true ∧ evs th co x i w (k + 1) = v' then lkW t i (k + 1) else 0) (2 ^ (k + 1)) = psS (th (k * co + x)) t (tkR th co x w t k) 21 v' := by
  have hle : ∀ i, evs th co x i w k ≤ 20 := fun i => evs_le th co x i hw k
  rw [show 2 ^ (k + 1) = 2 ^ k + 2 ^ k by rw [Nat.pow_succ]; omega, sumP_add]
  have h1 : sumP (fun i => if alB th co x w i k = true ∧ evs th co x i w (k + 1) = v' then lkW t i (k + 1) else 0) (2 ^ k) = sumP (fun v => if spd (th (k * co + x)) v = v' then (10 - t) * tkR th co x w t k v else 0) 21 := by
    rw [sumP_same (m2 := fun i => (if alB th co x w i k = true ∧ spd (th (k * co + x)) (evs th co x i w k) = v' then lkW t i k else 0) * (10 - t)) (fun i hi => by
      have hb := (bit_a k hk i hi).2.2
      rw [evs_s, lkW_s, hb]
      show (if alB th co x w i k = true ∧ spd (th (k * co + x)) (evs th co x i w k) = v' then lkW t i k * (10 - t) else 0) = _
      split
      · rfl
      · exact (Nat.zero_mul _).symm)]
    rw [sumP_mul, sumP_part (fun i => alB th co x w i k) (fun i => evs th co x i w k) (fun i => lkW t i k) (fun v => spd (th (k * co + x)) v) v' hle, ← sumP_mul]
    refine sumP_same (fun v _ => ?_)
    show (if spd (th (k * co + x)) v = v' then tkR th co x w t k v else 0) * (10 - t) = _
    split
    · exact Nat.mul_comm _ _
    · exact Nat.zero_mul _
  have h2 : sumP (fun i => (fun i => if alB th co x w i k = true ∧ evs th co x i w (k + 1) = v' then lkW t i (k + 1) else 0) (2 ^ k + i)) (2 ^ k) = sumP (fun v => if spd (nI 1) v = v' then t * tkR th co x w t k v else 0) 21 := by
    rw [sumP_same (m2 := fun i => (if alB th co x w i k = true ∧ spd (nI 1) (evs th co x i w k) = v' then lkW t i k else 0) * t) (fun i hi => by
      have hb := (bit_a k hk i hi).2.1
      show (if alB th co x w (2 ^ k + i) k = true ∧ evs th co x (2 ^ k + i) w (k + 1) = v' then lkW t (2 ^ k + i) (k + 1) else 0) = _
      rw [evs_s, lkW_s, hb, alB_lo hk hi k (Nat.le_refl _), evs_lo hk hi k (Nat.le_refl _), lkW_lo hk hi k (Nat.le_refl _)]
      show (if alB th co x w i k = true ∧ spd (nI 1) (evs th co x i w k) = v' then lkW t i k * t else 0) = _
      split
      · rfl
      · exact (Nat.zero_mul _).symm)]
    rw [sumP_mul, sumP_part (fun i => alB th co x w i k) (fun i => evs th co x i w k) (fun i => lkW t i k) (fun v => spd (nI 1) v) v' hle, ← sumP_mul]
    refine sumP_same (fun v _ => ?_)
    show (if spd (nI 1) v = v' then tkR th co x w t k v else 0) * t = _
    split
    · exact Nat.mul_comm _ _
    · exact Nat.zero_mul _
  rw [h1, h2, Nat.add_comm, ← sumP_plus]
  rfl
theorem psS_cong {k : Int32} {W W2 : Nat → Nat} {n v' : Nat} (h : ∀ v, v < n → W v = W2 v) : psS k t W n v' = psS k t W2 n v' := sumP_same (fun v hv => by rw [h v hv])
theorem tk_wy (hw : w ≤ 20) : ∀ k, k ≤ 8 → ∀ v, tkR th co x w t k v = wyR th co x w t k v
  | 0, _, v => by
    show 0 + (if true = true ∧ w = v then 1 else 0) = if v = w then 1 else 0
    rw [Nat.zero_add]
    by_cases q : v = w
    · rw [if_pos q, if_pos ⟨rfl, q.symm⟩]
    · rw [if_neg q, if_neg (fun z => q z.2.symm)]
  | k + 1, hk, v => by
    have ih := tk_wy hw k (by omega)
    show _ = if v = 0 then 0 else psS (th (k * co + x)) t (wyR th co x w t k) 21 v
    by_cases q : v = 0
    · rw [if_pos q]
      refine sumP_zero (fun i _ => ?_)
      rw [if_neg (fun z => ?_)]
      exact (alB_iff.mp z.1 k (by omega)) (z.2.trans q)
    · rw [if_neg q, ← psS_cong (fun v _ => ih v), ← tk_G hw (by omega) v]
      refine sumP_same (fun i _ => ?_)
      by_cases z : alB th co x w i k = true ∧ evs th co x i w (k + 1) = v
      · rw [if_pos z, if_pos ⟨alB_iff.mpr (lt_s (alB_iff.mp z.1) (by rw [z.2]; exact q)), z.2⟩]
      · rw [if_neg z, if_neg (fun y => z ⟨alB_iff.mpr (fun j hj => alB_iff.mp y.1 j (by omega)), y.2⟩)]
theorem lk_tail {Q : Nat → Bool} (ht : t ≤ 10) {k : Nat} (hQ : ∀ n, k ≤ n → n < 8 → ∀ i, i < 2 ^ n → Q (2 ^ n + i) = Q i) : ∀ m, k + m ≤ 8 → sumP (fun i => if Q i = true then lkW t i (k + m) else 0) (2 ^ (k + m)) = sumP (fun i => if Q i = true then lkW t i k else 0) (2 ^ k) * pw10 m
  | 0, _ => (Nat.mul_one _).symm
  | m + 1, h => by
    have ih := lk_tail ht hQ m (by omega)
    show sumP (fun i => if Q i = true then lkW t i ((k + m) + 1) else 0) (2 ^ ((k + m) + 1)) = _
    rw [show 2 ^ ((k + m) + 1) = 2 ^ (k + m) + 2 ^ (k + m) by rw [Nat.pow_succ]; omega, sumP_add]
    rw [sumP_same (m := fun i => if Q i = true then lkW t i ((k + m) + 1) else 0) (m2 := fun i => (if Q i = true then lkW t i (k + m) else 0) * (10 - t)) (fun i hi => by
      rw [lkW_s, (bit_a (k + m) (by omega) i hi).2.2]
      show (if Q i = true then lkW t i (k + m) * (10 - t) else 0) = _
      split
      · rfl
      · exact (Nat.zero_mul _).symm)]
    rw [sumP_same (m := fun i => (fun i => if Q i = true then lkW t i ((k + m) + 1) else 0) (2 ^ (k + m) + i)) (m2 := fun i => (if Q i = true then lkW t i (k + m) else 0) * t) (fun i hi => by
      show (if Q (2 ^ (k + m) + i) = true then lkW t (2 ^ (k + m) + i) ((k + m) + 1) else 0) = _
      rw [lkW_s, (bit_a (k + m) (by omega) i hi).2.1, lkW_lo (by omega) hi _ (Nat.le_refl _), hQ (k + m) (by omega) (by omega) i hi]
      show (if Q i = true then lkW t i (k + m) * t else 0) = _
      split
      · rfl
      · exact (Nat.zero_mul _).symm)]
    rw [sumP_mul, sumP_mul, ih, ← Nat.mul_add, show 10 - t + t = 10 by omega, Nat.mul_assoc]
    rfl
theorem lkS_sum (ro c : Nat) : ∀ n, lkS th co ro x w c t n = sumP (fun i => if eby th co ro x i w = c then lkW t i ro else 0) n
  | 0 => rfl
  | n + 1 => by rw [lkS_s, lkS_sum ro c n]; rfl
theorem eby_row {ro r i : Nat} (hx : x < co) (hrc : ro * co ≤ 48) (hr : r < ro) : eby th co ro x i w = r * co + x ↔ (alB th co x w i r = true ∧ evs th co x i w (r + 1) = 0) := by
  refine ⟨fun h => ?_, fun h => eby_stop (alB_iff.mp h.1) h.2 hr⟩
  have hb : r * co + co ≤ ro * co := by rw [← Nat.succ_mul]; exact Nat.mul_le_mul_right _ hr
  unfold eby at h
  split at h
  · rename_i q
    have e : esp th co ro x i w = r := Nat.eq_of_mul_eq_mul_right (by omega : 0 < co) (by omega)
    rw [e] at q
    refine ⟨alB_iff.mpr (fun j hj => ?_), ?_⟩
    · exact of_decide_eq_false (fstP_no (fun k => decide (evs th co x i w (k + 1) = 0)) ro j (by show j < esp th co ro x i w; omega))
    · have := of_decide_eq_true (fstP_yes (fun k => decide (evs th co x i w (k + 1) = 0)) ro (by show esp th co ro x i w < ro; omega))
      rw [← e]; exact this
  · omega
theorem eby_99 {ro i : Nat} (hx : x < co) (hrc : ro * co ≤ 48) : eby th co ro x i w = 99 ↔ alB th co x w i ro = true := by
  refine ⟨fun h => ?_, fun h => eby_sea (alB_iff.mp h)⟩
  unfold eby at h
  split at h
  · rename_i q
    have hb : esp th co ro x i w * co + co ≤ ro * co := by rw [← Nat.succ_mul]; exact Nat.mul_le_mul_right _ q
    omega
  · rename_i q
    exact alB_iff.mpr (fun j hj => of_decide_eq_false (fstP_no (fun k => decide (evs th co x i w (k + 1) = 0)) ro j (by show j < esp th co ro x i w; omega)))
theorem lk_row (hw : w ≤ 20) (ht : t ≤ 10) {ro r : Nat} (hx : x < co) (hrc : ro * co ≤ 48) (hro : ro ≤ 8) (hr : r < ro) : lkN th co ro x w (r * co + x) t = psS (th (r * co + x)) t (wyR th co x w t r) 21 0 * pw10 (ro - (r + 1)) := by
  unfold lkN
  rw [lkS_sum]
  have e : ro = (r + 1) + (ro - (r + 1)) := by omega
  have h1 : sumP (fun i => if eby th co ro x i w = r * co + x then lkW t i ro else 0) (pw2 ro) = sumP (fun i => if (alB th co x w i r && decide (evs th co x i w (r + 1) = 0)) = true then lkW t i ro else 0) (2 ^ ro) := by
    refine sumP_same (fun i _ => ?_)
    by_cases q : eby th co ro x i w = r * co + x
    · have q2 := (eby_row hx hrc hr).mp q
      rw [if_pos q, if_pos (by rw [q2.1, decide_eq_true q2.2]; rfl)]
    · rw [if_neg q, if_neg (fun z => q ((eby_row hx hrc hr).mpr (by rw [Bool.and_eq_true, decide_eq_true_eq] at z; exact z)))]
  rw [h1]
  have h2 := lk_tail (t := t) (Q := fun i => (alB th co x w i r && decide (evs th co x i w (r + 1) = 0))) ht (k := r + 1) (fun n h3 h4 i hi => by
    show (alB th co x w (2 ^ n + i) r && decide (evs th co x (2 ^ n + i) w (r + 1) = 0)) = _
    rw [alB_lo h4 hi r (by omega), evs_lo h4 hi (r + 1) h3]) (ro - (r + 1)) (by omega)
  rw [← e] at h2
  rw [h2, psS_cong (W2 := tkR th co x w t r) (fun v _ => (tk_wy hw r (by omega) v).symm), ← tk_G hw (by omega) 0]
  congr 1
  refine sumP_same (fun i _ => ?_)
  by_cases q : alB th co x w i r = true ∧ evs th co x i w (r + 1) = 0
  · rw [if_pos q, if_pos (by rw [q.1, decide_eq_true q.2]; rfl)]
  · rw [if_neg q, if_neg (fun z => q (by rw [Bool.and_eq_true, decide_eq_true_eq] at z; exact z))]
theorem lk_sea (hw : w ≤ 20) {ro : Nat} (hx : x < co) (hrc : ro * co ≤ 48) (hro : ro ≤ 8) : lkN th co ro x w 99 t = sumP (wyR th co x w t ro) 21 := by
  unfold lkN
  rw [lkS_sum, sumP_same (m2 := fun i => if alB th co x w i ro = true ∧ (fun _ => 0) (evs th co x i w ro) = 0 then lkW t i ro else 0) (fun i _ => by
    by_cases q : eby th co ro x i w = 99
    · rw [if_pos q, if_pos ⟨(eby_99 hx hrc).mp q, rfl⟩]
    · rw [if_neg q, if_neg (fun z => q ((eby_99 hx hrc).mpr z.1))])]
  rw [sumP_part (fun i => alB th co x w i ro) (fun i => evs th co x i w ro) (fun i => lkW t i ro) (fun _ => 0) 0 (fun i => evs_le th co x i hw ro)]
  refine sumP_same (fun v _ => ?_)
  rw [if_pos rfl]
  exact tk_wy hw ro hro v
theorem lk_none {ro c : Nat} (h9 : c ≠ 99) (hc : ∀ r, r < ro → c ≠ r * co + x) : lkN th co ro x w c t = 0 := by
  unfold lkN
  rw [lkS_sum]
  refine sumP_zero (fun i _ => if_neg (fun z => ?_))
  unfold eby at z
  split at z
  · rename_i q
    exact hc _ q z.symm
  · exact h9 z.symm
theorem spd_le' (k : Int32) {v : Nat} (h : v ≤ 20) : spd k v < 21 := Nat.lt_succ_of_le (spd_le h)
/-- no way is lost: what comes on is ten times as many at most -/
theorem psS_tot {k : Int32} {W : Nat → Nat} (ht : t ≤ 10) : ∀ n, n ≤ 21 → sumP (fun v' => psS k t W n v') 21 = 10 * sumP W n
  | 0, _ => sumP_zero (fun _ _ => rfl)
  | n + 1, h => by
    show sumP (fun v' => psS k t W n v' + ((if spd (nI 1) n = v' then t * W n else 0) + (if spd k n = v' then (10 - t) * W n else 0))) 21 = 10 * (sumP W n + W n)
    rw [sumP_plus, psS_tot ht n (by omega), sumP_plus]
    have h1 : ∀ z a : Nat, a < 21 → sumP (fun v' => if a = v' then z else 0) 21 = z := fun z a ha => by
      rw [sumP_same (m2 := fun v => if v = a then z else 0) (fun v _ => by by_cases q : a = v; rw [if_pos q, if_pos q.symm]; rw [if_neg q, if_neg (fun y => q y.symm)]), sumP_one, if_pos ha]
    rw [h1 _ _ (spd_le' _ (by omega)), h1 _ _ (spd_le' _ (by omega)), Nat.mul_add, ← Nat.add_mul, show t + (10 - t) = 10 by omega]
theorem sumP_mono {f g : Nat → Nat} : ∀ {n : Nat}, (∀ k, k < n → f k ≤ g k) → sumP f n ≤ sumP g n
  | 0, _ => Nat.le_refl _
  | n + 1, h => Nat.add_le_add (sumP_mono (fun k hk => h k (by omega))) (h n (by omega))
theorem sumP_ge {f : Nat → Nat} : ∀ {n k : Nat}, k < n → f k ≤ sumP f n
  | 0, k, h => absurd h (Nat.not_lt_zero k)
  | n + 1, k, h => by
    show f k ≤ sumP f n + f n
    rcases Nat.lt_or_ge k n with q | q
    · have := sumP_ge (f := f) q; omega
    · rw [show k = n by omega]; omega
theorem wy_tot (ht : t ≤ 10) (hw : w ≤ 20) : ∀ r, sumP (wyR th co x w t r) 21 ≤ pw10 r
  | 0 => by
    show sumP (fun v => if v = w then 1 else 0) 21 ≤ 1
    rw [sumP_one, if_pos (by omega)]; exact Nat.le_refl _
  | r + 1 => by
    have ih := wy_tot ht hw r
    have h1 : sumP (wyR th co x w t (r + 1)) 21 ≤ sumP (fun v' => psS (th (r * co + x)) t (wyR th co x w t r) 21 v') 21 := sumP_mono (fun k _ => by
      show (if k = 0 then 0 else psS (th (r * co + x)) t (wyR th co x w t r) 21 k) ≤ _
      split
      · exact Nat.zero_le _
      · exact Nat.le_refl _)
    rw [psS_tot ht 21 (Nat.le_refl _)] at h1
    have h2 : pw10 (r + 1) = pw10 r * 10 := rfl
    omega
theorem ps_le (ht : t ≤ 10) (hw : w ≤ 20) (r v : Nat) (hv : v < 21) : psS (th (r * co + x)) t (wyR th co x w t r) 21 v ≤ pw10 (r + 1) := by
  have h1 := sumP_ge (f := fun v' => psS (th (r * co + x)) t (wyR th co x w t r) 21 v') hv
  rw [psS_tot ht 21 (Nat.le_refl _)] at h1
  have h2 := wy_tot (th := th) (co := co) (x := x) ht hw r
  have h3 : pw10 (r + 1) = pw10 r * 10 := rfl
  omega
end LK
theorem pw10_add (a b : Nat) : pw10 (a + b) = pw10 a * pw10 b := Nat.pow_add 10 a b
theorem gcd_out {s a m : Nat} (hm : 0 < m) : s * m / Nat.gcd (s * m) (a * m) = s / Nat.gcd s a ∧ a * m / Nat.gcd (s * m) (a * m) = a / Nat.gcd s a := by
  rw [Nat.gcd_mul_right]
  exact ⟨Nat.mul_div_mul_right _ _ hm, Nat.mul_div_mul_right _ _ hm⟩
/-- the two numbers in lowest terms -/
def lowN (s a : Nat) (part : Int32) : Int32 := if part.toInt = 0 then nI (s / Nat.gcd s a) else nI (a / Nat.gcd s a)
theorem lowN_m {s a m : Nat} (hm : 0 < m) (part : Int32) : lowN (s * m) (a * m) part = lowN s a part := by
  unfold lowN
  obtain ⟨h1, h2⟩ := gcd_out (s := s) (a := a) hm
  rw [h1, h2]
theorem lowN_0 {a b : Nat} (ha : 0 < a) (hb : 0 < b) (part : Int32) : lowN 0 a part = lowN 0 b part := by
  unfold lowN
  rw [Nat.gcd_zero_left, Nat.gcd_zero_left, Nat.zero_div, Nat.zero_div, Nat.div_self ha, Nat.div_self hb]
theorem fLik_low {th : Nat → Int32} {co ro jx jw jc jt : Nat} {part : Int32} (h1 : vRide co (nI jx) (nI jw) (nI 0)) (h2 : vEnd (ro * co) (nI jc)) (h3 : jt ≤ 10) (h4 : vFlag part) (hx : jx < 1000) (hw : jw < 1000) (hc : jc < 1000) : fLikely th co ro (nI jx) (nI jw) (nI jc) (nI jt) part = lowN (lkN th co ro jx jw jc jt) (pw10 ro) part := fLik_yes h1 h2 h3 h4 hx hw hc rfl rfl
theorem eucl_s {h l k P : Nat} (h0 : l < h) (hl : 0 < l) (hp : h * l * 2 ^ k ≤ P) : h % l < l ∧ l * (h % l) * 2 ^ (k + 1) ≤ P := by
  have h1 := Nat.mod_lt h hl
  refine ⟨h1, Nat.le_trans ?_ hp⟩
  have h2 : 2 * (h % l) ≤ h := by
    have h3 := Nat.div_add_mod h l
    have h4 : 1 ≤ h / l := Nat.div_pos (Nat.le_of_lt h0) hl
    have h5 : l ≤ l * (h / l) := Nat.le_mul_of_pos_right l h4
    omega
  have h6 : l * (h % l) * 2 ^ (k + 1) = (2 * (h % l)) * l * 2 ^ k := by
    rw [Nat.pow_succ, Nat.mul_comm l (h % l)]
    rw [Nat.mul_comm (2 ^ k) 2, ← Nat.mul_assoc, Nat.mul_comm (h % l * l) 2, ← Nat.mul_assoc]
  rw [h6]
  exact Nat.mul_le_mul_right _ (Nat.mul_le_mul_right _ h2)
theorem eucl_end {h l : Nat} (h0 : l < h) (hp : h * l * 2 ^ 63 ≤ 10000000000000000) : l = 0 := by
  rcases Nat.eq_zero_or_pos l with q | q
  · exact q
  · have h1 : 1 ≤ h * l := Nat.mul_pos (by omega) q
    have h2 := Nat.mul_le_mul_right (2 ^ 63) h1
    have h3 : (1 : Nat) * 2 ^ 63 = 9223372036854775808 := by decide
    omega
theorem psS_1 {k : Int32} {t : Nat} {W : Nat → Nat} (h0 : W 0 = 0) (v : Nat) : psS k t W 1 v = 0 := by
  show 0 + ((if spd (nI 1) 0 = v then t * W 0 else 0) + (if spd k 0 = v then (10 - t) * W 0 else 0)) = 0
  rw [h0, Nat.mul_zero, Nat.mul_zero]
  (repeat' split) <;> rfl
theorem psS_s {k : Int32} {t : Nat} {W : Nat → Nat} (n v : Nat) : psS k t W (n + 1) v = psS k t W n v + (if spd (nI 1) n = v then t * W n else 0) + (if spd k n = v then (10 - t) * W n else 0) := by
  rw [Nat.add_assoc]; rfl
theorem ps_step {k : Int32} {t i : Nat} {W : Nat → Nat} {nw : Nat → Int32} (h : ∀ v, v < 21 → nw v = nI (psS k t W i v)) (hi : i ≤ 20) : ∀ v, v < 21 → upd (upd nw (spd (nI 1) i) (nw (spd (nI 1) i) + nI (t * W i))) (spd k i) (upd nw (spd (nI 1) i) (nw (spd (nI 1) i) + nI (t * W i)) (spd k i) + nI ((10 - t) * W i)) v = nI (psS k t W (i + 1) v) := fun v hv => by
  have g : ∀ z, z < 21 → upd nw (spd (nI 1) i) (nw (spd (nI 1) i) + nI (t * W i)) z = nI (psS k t W i z + (if spd (nI 1) i = z then t * W i else 0)) := fun z hz => by
    by_cases e : z = spd (nI 1) i
    · subst e; rw [upd_at, if_pos rfl, h _ hz, nI_add]
    · rw [upd_ne _ _ e, if_neg (fun q => e q.symm), h z hz, Nat.add_zero]
  rw [psS_s]
  by_cases e : v = spd k i
  · subst e; rw [upd_at, if_pos rfl, g _ hv, nI_add]
  · rw [upd_ne _ _ e, g v hv, show (if spd k i = v then (10 - t) * W i else 0) = 0 from if_neg (fun q => e q.symm), Nat.add_zero]
theorem wy_0 {th : Nat → Int32} {co x w t : Nat} (hw : 1 ≤ w) : ∀ r, wyR th co x w t r 0 = 0
  | 0 => by show (if 0 = w then 1 else 0) = 0; rw [if_neg (by omega)]
  | r + 1 => rfl
theorem wy_next {th : Nat → Int32} {co x w t r : Nat} {wa : Nat → Int32} (h : ∀ v, v < 21 → wa v = nI (psS (th (r * co + x)) t (wyR th co x w t r) 21 v)) : ∀ v, v < 21 → upd wa 0 (nI 0) v = nI (wyR th co x w t (r + 1) v) := fun v hv => by
  show _ = nI (if v = 0 then 0 else psS (th (r * co + x)) t (wyR th co x w t r) 21 v)
  by_cases e : v = 0
  · rw [e, upd_at, if_pos rfl]
  · rw [upd_ne _ _ e, if_neg e]; exact h v hv
def EuP (i h l : Nat) : Prop := 1 ≤ i ∧ l < h ∧ h * l * 2 ^ (i - 1) ≤ 10000000000000000
theorem eu_first {a b : Nat} (ha : a ≤ 100000000) (hb : b ≤ 100000000) (h0 : b ≠ 0) : EuP 1 b (a % b) := by
  have h1 := Nat.mod_lt a (show b > 0 by omega)
  refine ⟨Nat.le_refl _, h1, ?_⟩
  show b * (a % b) * 1 ≤ _
  rw [Nat.mul_one]
  exact Nat.le_trans (Nat.mul_le_mul hb (show a % b ≤ 100000000 by omega)) (by decide)
theorem eu_next {i h l : Nat} (hp : EuP i h l) (h0 : l ≠ 0) : EuP (i + 1) l (h % l) := by
  obtain ⟨h1, h2, h3⟩ := hp
  obtain ⟨g1, g2⟩ := eucl_s h2 (by omega) h3
  refine ⟨by omega, g1, ?_⟩
  rw [show i + 1 - 1 = i - 1 + 1 by omega]; exact g2
theorem eu_end {h l : Nat} (hp : EuP 64 h l) : l = 0 := eucl_end hp.2.1 hp.2.2
theorem low_ab {s a : Nat} {ab be : Int32} (h1 : ab = nI (s / Nat.gcd s a)) (h2 : be = nI (a / Nat.gcd s a)) (part : Int32) : (if part.toInt = 0 then ab else be) = lowN s a part := by
  unfold lowN; rw [h1, h2]
theorem lik_row {th : Nat → Int32} {co ro x w t r : Nat} {ab be : Int32} (hw : w ≤ 20) (ht : t ≤ 10) (hx : x < co) (hrc : ro * co ≤ 48) (hro : ro ≤ 8) (hr : r < ro) (h1 : ab = nI (psS (th (r * co + x)) t (wyR th co x w t r) 21 0 / Nat.gcd (psS (th (r * co + x)) t (wyR th co x w t r) 21 0) (pw10 (r + 1)))) (h2 : be = nI (pw10 (r + 1) / Nat.gcd (psS (th (r * co + x)) t (wyR th co x w t r) 21 0) (pw10 (r + 1)))) : ∀ part : Int32, (if part.toInt = 0 then ab else be) = lowN (lkN th co ro x w (r * co + x) t) (pw10 ro) part := fun part => by
  rw [low_ab h1 h2, lk_row hw ht hx hrc hro hr, show pw10 ro = pw10 (r + 1) * pw10 (ro - (r + 1)) by rw [← pw10_add, show r + 1 + (ro - (r + 1)) = ro by omega]]
  exact (lowN_m (pw10_in _ (by omega)).1 part).symm
theorem lik_sea {th : Nat → Int32} {co ro x w t : Nat} {ab be : Int32} (hw : w ≤ 20) (hx : x < co) (hrc : ro * co ≤ 48) (hro : ro ≤ 8) (h1 : ab = nI (sumP (wyR th co x w t ro) 21 / Nat.gcd (sumP (wyR th co x w t ro) 21) (pw10 ro))) (h2 : be = nI (pw10 ro / Nat.gcd (sumP (wyR th co x w t ro) 21) (pw10 ro))) : ∀ part : Int32, (if part.toInt = 0 then ab else be) = lowN (lkN th co ro x w 99 t) (pw10 ro) part := fun part => by
  rw [low_ab h1 h2, lk_sea hw hx hrc hro]
theorem lik_no {th : Nat → Int32} {co ro x w c t : Nat} {ab be : Int32} (h9 : c ≠ 99) (hc : ∀ r, r < ro → c ≠ r * co + x) (h1 : ab = nI (0 / Nat.gcd 0 (pw10 ro))) (h2 : be = nI (pw10 ro / Nat.gcd 0 (pw10 ro))) : ∀ part : Int32, (if part.toInt = 0 then ab else be) = lowN (lkN th co ro x w c t) (pw10 ro) part := fun part => by
  rw [low_ab h1 h2, lk_none h9 hc]
