/-! the two sides in step -/
theorem rel_cong {n : Nat} {a b c d a' b' : Nat → Int32} (hn : n ≤ 48) (h : rel n a b c d) (ha : ∀ j, j < 48 → a' j = a j) (hb : ∀ j, j < 48 → b' j = b j) : rel n a' b' c d := fun j hj => by
  rw [ha j (by omega), hb j (by omega)]; exact h j hj
theorem note_lo {at_ k : Nat} (sl : Int32) (t m f : Nat → Int32) (h : k < at_) : noteA at_ sl t m f k = f k := by
  unfold noteA; rw [if_neg (by omega), if_neg (by omega), if_neg (by omega)]
/-- the place on a ring of the i-th oldest -/
def rgP (N nx sz i : Nat) : Nat := (nx + N - sz + i) % N
def ringR (N nx sz co ro : Nat) (tS oS : Nat → Nat → Int32) (cS rS ah : Nat → Int32) : Prop := ∀ i, i < sz → cS (rgP N nx sz i) = nI co ∧ rS (rgP N nx sz i) = nI ro ∧ rel (ro * co) (tkT (97 * i) ah) (tkO (97 * i) ah) (tS (rgP N nx sz i)) (oS (rgP N nx sz i))
theorem ring_0 (N nx co ro : Nat) (tS oS : Nat → Nat → Int32) (cS rS ah : Nat → Int32) : ringR N nx 0 co ro tS oS cS rS ah := fun i hi => absurd hi (Nat.not_lt_zero i)
theorem ring_note {N nx sz nx2 co ro : Nat} {tS oS : Nat → Nat → Int32} {cS rS ah th ow thM moM : Nat → Int32} {sl : Int32} (hp : ∀ i, i < sz → rgP N nx2 (sz + 1) i = rgP N nx sz i ∧ rgP N nx sz i ≠ nx) (hq : rgP N nx2 (sz + 1) sz = nx) (hrc : ro * co ≤ 48) (h : ringR N nx sz co ro tS oS cS rS ah) (hrel : rel (ro * co) thM moM th ow) : ringR N nx2 (sz + 1) co ro (va_up tS nx th) (va_up oS nx ow) (va_up cS nx (nI co)) (va_up rS nx (nI ro)) (noteA (97 * sz) sl thM moM ah) := fun i hi => by
  by_cases e : i = sz
  · subst e
    rw [hq]
    refine ⟨if_pos rfl, if_pos rfl, ?_⟩
    rw [show va_up tS nx th nx = th from if_pos rfl, show va_up oS nx ow nx = ow from if_pos rfl]
    exact rel_cong hrc hrel (fun j hj => tkT_note _ _ _ _ _ hj) (fun j hj => tkO_note _ _ _ _ _ hj)
  · have hlt : i < sz := by omega
    obtain ⟨e1, e2⟩ := hp i hlt
    obtain ⟨h1, h2, h3⟩ := h i hlt
    rw [e1]
    refine ⟨(if_neg e2).trans h1, (if_neg e2).trans h2, ?_⟩
    rw [show va_up tS nx th (rgP N nx sz i) = tS (rgP N nx sz i) from if_neg e2, show va_up oS nx ow (rgP N nx sz i) = oS (rgP N nx sz i) from if_neg e2]
    refine rel_cong hrc h3 (fun j hj => ?_) (fun j hj => ?_)
    · exact note_lo _ _ _ _ (by omega)
    · exact note_lo _ _ _ _ (by omega)
theorem rg8_a : ∀ nx, nx < 8 → ∀ sz, sz < 8 → (∀ i, i < sz → (rgP 8 (nxtP 8 nx) (sz + 1) i = rgP 8 nx sz i ∧ rgP 8 nx sz i ≠ nx)) ∧ rgP 8 (nxtP 8 nx) (sz + 1) sz = nx := by decide +kernel
theorem rg8_b : ∀ nx, nx < 8 → (∀ i, i < 7 → (rgP 8 nx 7 i = rgP 8 nx 8 (i + 1) ∧ rgP 8 (nxtP 8 nx) 8 i = rgP 8 nx 7 i ∧ rgP 8 nx 7 i ≠ nx)) ∧ rgP 8 (nxtP 8 nx) 8 7 = nx := by decide +kernel
theorem rg8_c : ∀ nx, nx < 8 → ∀ sz, sz < 9 → ∀ i, i < sz - 1 → rgP 8 (lstP 8 nx) (sz - 1) i = rgP 8 nx sz i := by decide +kernel
theorem ring_push {nx sz co ro : Nat} {tS oS : Nat → Nat → Int32} {cS rS ah th ow thM moM : Nat → Int32} {sl : Int32} (hnx : nx < 8) (hsz : sz ≤ 8) (hrc : ro * co ≤ 48) (h : ringR 8 nx sz co ro tS oS cS rS ah) (hrel : rel (ro * co) thM moM th ow) : ringR 8 (nxtP 8 nx) (min (sz + 1) 8) co ro (va_up tS nx th) (va_up oS nx ow) (va_up cS nx (nI co)) (va_up rS nx (nI ro)) (ntA sz sl thM moM ah) := by
  rcases Nat.lt_or_ge sz 8 with q | q
  · rw [show min (sz + 1) 8 = sz + 1 by omega, show ntA sz sl thM moM ah = noteA (97 * sz) sl thM moM ah from if_neg (by omega)]
    exact ring_note (rg8_a nx hnx sz q).1 (rg8_a nx hnx sz q).2 hrc h hrel
  · have e8 : sz = 8 := by omega
    subst e8
    rw [show min (8 + 1) 8 = 8 from rfl, show ntA 8 sl thM moM ah = noteA (97 * 7) sl thM moM (shiA ah) from if_pos rfl]
    have hs : ringR 8 nx 7 co ro tS oS cS rS (shiA ah) := fun i hi => by
      obtain ⟨h1, h2, h3⟩ := h (i + 1) (by omega)
      rw [((rg8_b nx hnx).1 i hi).1]
      refine ⟨h1, h2, rel_cong hrc h3 (fun j hj => ?_) (fun j hj => ?_)⟩
      · show shiA ah (97 * i + 1 + j) = ah (97 * (i + 1) + 1 + j)
        unfold shiA; rw [if_pos (by omega), show 97 * i + 1 + j + 97 = 97 * (i + 1) + 1 + j by omega]
      · show shiA ah (97 * i + 49 + j) = ah (97 * (i + 1) + 49 + j)
        unfold shiA; rw [if_pos (by omega), show 97 * i + 49 + j + 97 = 97 * (i + 1) + 49 + j by omega]
    intro i hi
    by_cases e : i = 7
    · subst e
      rw [(rg8_b nx hnx).2]
      refine ⟨if_pos rfl, if_pos rfl, ?_⟩
      rw [show va_up tS nx th nx = th from if_pos rfl, show va_up oS nx ow nx = ow from if_pos rfl]
      exact rel_cong hrc hrel (fun j hj => tkT_note _ _ _ _ _ hj) (fun j hj => tkO_note _ _ _ _ _ hj)
    · obtain ⟨h1, h2, h3⟩ := hs i (by omega)
      obtain ⟨_, e1, e2⟩ := (rg8_b nx hnx).1 i (by omega)
      rw [e1]
      refine ⟨(if_neg e2).trans h1, (if_neg e2).trans h2, ?_⟩
      rw [show va_up tS nx th (rgP 8 nx 7 i) = tS (rgP 8 nx 7 i) from if_neg e2, show va_up oS nx ow (rgP 8 nx 7 i) = oS (rgP 8 nx 7 i) from if_neg e2]
      refine rel_cong hrc h3 (fun j hj => ?_) (fun j hj => ?_)
      · exact note_lo _ _ _ _ (by omega)
      · exact note_lo _ _ _ _ (by omega)
theorem lst8 {nx sz : Nat} (hnx : nx < 8) (h0 : 0 < sz) (hsz : sz ≤ 8) : lstP 8 nx = rgP 8 nx sz (sz - 1) ∧ lstP 8 nx < 8 := by unfold lstP rgP; split <;> omega
theorem lst2 {nx sz : Nat} (hnx : nx < 2) (h0 : 0 < sz) (hsz : sz ≤ 2) : lstP 2 nx = rgP 2 nx sz (sz - 1) ∧ lstP 2 nx < 2 := by unfold lstP rgP; split <;> omega
theorem ring_pop8 {nx sz co ro : Nat} {tS oS : Nat → Nat → Int32} {cS rS ah : Nat → Int32} (hnx : nx < 8) (h0 : 0 < sz) (hsz : sz ≤ 8) (h : ringR 8 nx sz co ro tS oS cS rS ah) : ringR 8 (lstP 8 nx) (sz - 1) co ro tS oS cS rS ah := fun i hi => by
  rw [rg8_c nx hnx sz (by omega) i hi]
  exact h i (by omega)
theorem ring_pop2 {nx sz co ro : Nat} {tS oS : Nat → Nat → Int32} {cS rS ah : Nat → Int32} (hnx : nx < 2) (h0 : 0 < sz) (hsz : sz ≤ 2) (h : ringR 2 nx sz co ro tS oS cS rS ah) : ringR 2 (lstP 2 nx) (sz - 1) co ro tS oS cS rS ah := fun i hi => by
  have hl : (lstP 2 nx + 1) % 2 = nx ∧ lstP 2 nx < 2 := by unfold lstP; split <;> omega
  rw [show rgP 2 (lstP 2 nx) (sz - 1) i = rgP 2 nx sz i from by unfold rgP; omega]
  exact h i (by omega)
theorem ring_keep {nk zk co ro : Nat} {tS oS : Nat → Nat → Int32} {cS rS ah th ow thM moM : Nat → Int32} {sl : Int32} (hnk : nk < 2) (hzk : zk < 2) (hrc : ro * co ≤ 48) (h : ringR 2 nk zk co ro tS oS cS rS ah) (hrel : rel (ro * co) thM moM th ow) : ringR 2 (nxtP 2 nk) (zk + 1) co ro (va_up tS nk th) (va_up oS nk ow) (va_up cS nk (nI co)) (va_up rS nk (nI ro)) (noteA (97 * zk) sl thM moM ah) := by
  have hnp : nxtP 2 nk < 2 ∧ (nxtP 2 nk + 1) % 2 = nk := by unfold nxtP; split <;> omega
  exact ring_note (fun i hi => by unfold rgP; omega) (by unfold rgP; omega) hrc h hrel
/-! the reading sees letters below the length alone -/
section TC
variable {lx lx' : Nat → Nat} {tn_ : Nat}
theorem ltr_c (h : ∀ j, j < tn_ → lx j = lx' j) : ltr lx tn_ = ltr lx' tn_ := by
  funext p; unfold ltr
  by_cases q : p < tn_
  · rw [if_pos q, if_pos q]; exact h p q
  · rw [if_neg q, if_neg q]
theorem bnm_c (h : ltr lx tn_ = ltr lx' tn_) : bnm lx tn_ = bnm lx' tn_ := by funext p; unfold bnm; rw [h]
theorem nvr_c (h : ltr lx tn_ = ltr lx' tn_) (a : Nat) : ∀ k, nvr lx tn_ a k = nvr lx' tn_ a k
  | 0 => rfl
  | k + 1 => by unfold nvr; rw [h, nvr_c h a k]
theorem rowN_c (h : ltr lx tn_ = ltr lx' tn_) : rowN lx tn_ = rowN lx' tn_ := by funext p; unfold rowN; rw [h]
theorem rowT_c (h : ltr lx tn_ = ltr lx' tn_) : rowT lx tn_ = rowT lx' tn_ := by funext p lo n f j; unfold rowT; rw [h]
theorem rowR_c (h : ltr lx tn_ = ltr lx' tn_) : rowR lx tn_ = rowR lx' tn_ := by funext p s; unfold rowR; rw [rowN_c h, rowT_c h, h]
theorem ownR_c (h : ltr lx tn_ = ltr lx' tn_) : ownR lx tn_ = ownR lx' tn_ := by
  funext p s
  unfold ownR
  rw [bnm_c h, h, nvr_c h, nvr_c h]
theorem itmR_c (h : ltr lx tn_ = ltr lx' tn_) : itmR lx tn_ = itmR lx' tn_ := by funext p s; unfold itmR; rw [rowR_c h, ownR_c h, h]
theorem rdA_c (h : ltr lx tn_ = ltr lx' tn_) : ∀ (n p : Nat) (s : RS), rdA lx tn_ n p s = rdA lx' tn_ n p s
  | 0, _, _ => rfl
  | n + 1, p, s => by
    unfold rdA
    rw [itmR_c h]
    by_cases q : p < tn_
    · rw [if_pos q, if_pos q]
      cases itmR lx' tn_ p s with
      | none => rfl
      | some z => exact rdA_c h n z.1 z.2
    · rw [if_neg q, if_neg q]
theorem itmR_co {p q : Nat} {s t : RS} (hs : s.2.2.2 = 0 ∨ 2 ≤ s.2.2.1) (h : itmR lx tn_ p s = some (q, t)) : t.2.2.2 = 0 ∨ 2 ≤ t.2.2.1 := by
  unfold itmR at h
  split at h
  · unfold rowR at h
    split at h
    · rename_i hc
      cases h
      exact Or.inr hc.2.1
    · cases h
  · split at h
    · unfold ownR at h
      split at h
      · cases h; exact hs
      · cases h
    · cases h
theorem rdA_co : ∀ (n p : Nat) (s : RS), (s.2.2.2 = 0 ∨ 2 ≤ s.2.2.1) → (rdA lx tn_ n p s).2.2.2.2 = 0 ∨ 2 ≤ (rdA lx tn_ n p s).2.2.2.1
  | 0, _, _, h => h
  | n + 1, p, s, h => by
    unfold rdA
    by_cases q : p < tn_
    · rw [if_pos q]
      cases hi : itmR lx tn_ p s with
      | none => exact h
      | some z => exact rdA_co n z.1 z.2 (itmR_co h hi)
    · rw [if_neg q]; exact h
end TC
theorem ton_le {p : Int32} (h : p.toInt ≤ 126) : ton p ≤ 126 := by show p.toInt.toNat ≤ 126; omega
theorem tn_lt {p : Int32} {n : Nat} (h0 : 0 ≤ p.toInt) (h : p.toInt < (n : Int)) : tn p < n := by show p.toInt.toNat < n; omega
theorem tn_le {p : Int32} {n : Nat} (h0 : 0 ≤ p.toInt) (h : p.toInt ≤ (n : Int)) : tn p ≤ n := by show p.toInt.toNat ≤ n; omega
theorem up_agree {lx lx' : Nat → Nat} {n x : Nat} (h : ∀ j, j < n → lx j = lx' j) : ∀ j, j < n + 1 → va_up lx n x j = va_up lx' n x j := fun j hj => by
  unfold va_up
  by_cases e : j = n
  · rw [if_pos e, if_pos e]
  · rw [if_neg e, if_neg e]; exact h j (by omega)
