/-! the two sides' cells, held side by side -/
/-- what the reference has in its cells (a, b) is what the class has in its own (c, d) -/
def rel (n : Nat) (a b c d : Nat → Int32) : Prop := ∀ j, j < n → a j = c j ∧ b j = sON (d j) ∧ (0 ≤ (c j).toInt ∧ (c j).toInt ≤ 3) ∧ (0 ≤ (d j).toInt ∧ (d j).toInt ≤ 4)
theorem rel_th {n : Nat} {a b c d : Nat → Int32} (h : rel n a b c d) {j : Nat} (hj : j < n) : a j = c j := (h j hj).1
theorem rel_mo {n : Nat} {a b c d : Nat → Int32} (h : rel n a b c d) {j : Nat} (hj : j < n) : b j = sON (d j) := (h j hj).2.1
theorem rel_updT {n : Nat} {a b c d : Nat → Int32} (h : rel n a b c d) (i : Nat) {x : Int32} (h0 : 0 ≤ x.toInt) (h3 : x.toInt ≤ 3) : rel n (upd a i x) b (upd c i x) d := fun j hj => by
  obtain ⟨h1, h2, h4, h5⟩ := h j hj
  by_cases e : j = i
  · subst e; rw [upd_at, upd_at]; exact ⟨rfl, h2, ⟨h0, h3⟩, h5⟩
  · rw [upd_ne _ _ e, upd_ne _ _ e]; exact ⟨h1, h2, h4, h5⟩
theorem rel_updO {n : Nat} {a b c d : Nat → Int32} (h : rel n a b c d) (i : Nat) {x y : Int32} (hxy : y = sON x) (h0 : 0 ≤ x.toInt) (h4 : x.toInt ≤ 4) : rel n a (upd b i y) c (upd d i x) := fun j hj => by
  obtain ⟨h1, h2, h3, h5⟩ := h j hj
  by_cases e : j = i
  · subst e; rw [upd_at, upd_at]; exact ⟨h1, hxy, h3, ⟨h0, h4⟩⟩
  · rw [upd_ne _ _ e, upd_ne _ _ e]; exact ⟨h1, h2, h3, h5⟩
theorem fz_in {x : Int32} (h0 : 0 ≤ x.toInt) (h3 : x.toInt ≤ 3) : 0 ≤ (fz x).toInt ∧ (fz x).toInt ≤ 3 := by
  unfold fz; split
  · exact ⟨by decide, by decide⟩
  · split
    · exact ⟨by decide, by decide⟩
    · exact ⟨h0, h3⟩
theorem rel_fz {n : Nat} {a b c d : Nat → Int32} (h : rel n a b c d) (lo k : Nat) : rel n (sgm lo k fz a) b (sgm lo k fz c) d := fun j hj => by
  obtain ⟨h1, h2, h4, h5⟩ := h j hj
  unfold sgm
  by_cases z : lo ≤ j ∧ j < lo + k
  · rw [if_pos z, if_pos z, h1]; exact ⟨rfl, h2, fz_in h4.1 h4.2, h5⟩
  · rw [if_neg z, if_neg z]; exact ⟨h1, h2, h4, h5⟩
theorem sON_side {x f : Int32} (h0 : 0 ≤ x.toInt) (h4 : x.toInt ≤ 4) (hf : 0 ≤ f.toInt) (hf4 : f.toInt < 4) : sON x = f ↔ x = f := by
  unfold sON; split
  · rename_i e
    refine ⟨fun q => ?_, fun q => ?_⟩
    · have := congrArg Int32.toInt q; rw [show (-4 : Int32).toInt = -4 from rfl] at this; omega
    · rw [q] at e; omega
  · exact Iff.rfl
theorem sON_none {x : Int32} (h0 : 0 ≤ x.toInt) : sON x = (-4) ↔ x = nI 4 := by
  unfold sON; split
  · rename_i e
    exact ⟨fun _ => Int32.toInt_inj.mp (by rw [e]; rfl), fun _ => rfl⟩
  · rename_i e
    refine ⟨fun q => ?_, fun q => ?_⟩
    · have := congrArg Int32.toInt q; rw [show (-4 : Int32).toInt = -4 from rfl] at this; omega
    · rw [q] at e; exact absurd rfl e
theorem spd_0 {x : Int32} (h0 : 0 ≤ x.toInt) (h3 : x.toInt ≤ 3) (v : Nat) : spd x v = if x.toInt = 1 then min (v + 1) 20 else if x.toInt = 2 then v - 5 else if x.toInt = 3 then (v - 2) / 2 else v - 2 := by
  unfold spd
  repeat' split
  all_goals omega
/-- a note of an estate in an array of numbers -/
def noteA (at_ : Nat) (sl : Int32) (th mo f : Nat → Int32) : Nat → Int32 := fun j => if j = at_ then sl else if at_ + 1 ≤ j ∧ j < at_ + 49 then th (j - (at_ + 1)) else if at_ + 49 ≤ j ∧ j < at_ + 97 then mo (j - (at_ + 49)) else f j
/-- the same, up to i cells -/
def noteI (at_ i : Nat) (sl : Int32) (th mo f : Nat → Int32) : Nat → Int32 := fun j => if j = at_ then sl else if at_ + 1 ≤ j ∧ j < at_ + 1 + i then th (j - (at_ + 1)) else if at_ + 49 ≤ j ∧ j < at_ + 49 + i then mo (j - (at_ + 49)) else f j
theorem noteI_0 (at_ : Nat) (sl : Int32) (th mo f : Nat → Int32) : upd f at_ sl = noteI at_ 0 sl th mo f := by
  funext j; unfold upd noteI
  by_cases e : j = at_
  · rw [if_pos e, if_pos e]
  · rw [if_neg e, if_neg e, if_neg (by omega), if_neg (by omega)]
theorem noteI_s {at_ i : Nat} (hi : i < 48) (sl : Int32) (th mo f : Nat → Int32) : upd (upd (noteI at_ i sl th mo f) (at_ + 1 + i) (th i)) (at_ + 49 + i) (mo i) = noteI at_ (i + 1) sl th mo f := by
  funext j; unfold upd noteI
  by_cases e : j = at_ + 49 + i
  · rw [if_pos e, if_neg (by omega), if_neg (by omega), if_pos (by omega), show j - (at_ + 49) = i by omega]
  · rw [if_neg e]
    by_cases e1 : j = at_ + 1 + i
    · rw [if_pos e1, if_neg (by omega), if_pos (by omega), show j - (at_ + 1) = i by omega]
    · rw [if_neg e1]
      by_cases e0 : j = at_
      · rw [if_pos e0, if_pos e0]
      · rw [if_neg e0, if_neg e0]
        by_cases z : at_ + 1 ≤ j ∧ j < at_ + 1 + i
        · rw [if_pos z, if_pos (by omega)]
        · by_cases z2 : at_ + 49 ≤ j ∧ j < at_ + 49 + i
          · rw [if_neg z, if_pos z2, if_neg (by omega), if_pos (by omega)]
          · rw [if_neg z, if_neg z2, if_neg (by omega), if_neg (by omega)]
theorem noteI_48 (at_ : Nat) (sl : Int32) (th mo f : Nat → Int32) : noteI at_ 48 sl th mo f = noteA at_ sl th mo f := by
  funext j; unfold noteI noteA; rfl
/-- the first note dropped, of eight -/
def shiA (f : Nat → Int32) : Nat → Int32 := fun j => if j < 679 then f (j + 97) else f j
def shiI (i : Nat) (f : Nat → Int32) : Nat → Int32 := fun j => if j < i then f (j + 97) else f j
theorem shiI_0 (f : Nat → Int32) : f = shiI 0 f := by funext j; unfold shiI; rw [if_neg (by omega)]
theorem shiI_s (i : Nat) (f : Nat → Int32) : upd (shiI i f) i (shiI i f (i + 97)) = shiI (i + 1) f := by
  funext j; unfold upd shiI
  by_cases e : j = i
  · rw [if_pos e, if_neg (by omega), if_pos (by omega), e]
  · rw [if_neg e]
    by_cases z : j < i
    · rw [if_pos z, if_pos (by omega)]
    · rw [if_neg z, if_neg (by omega)]
def ntA (um : Nat) (sl : Int32) (th mo f : Nat → Int32) : Nat → Int32 := if um = 8 then noteA (97 * 7) sl th mo (shiA f) else noteA (97 * um) sl th mo f
def ntN (um : Nat) : Nat := if um = 8 then 8 else um + 1
def tkT (at_ : Nat) (f : Nat → Int32) : Nat → Int32 := fun j => f (at_ + 1 + j)
def tkO (at_ : Nat) (f : Nat → Int32) : Nat → Int32 := fun j => f (at_ + 49 + j)
def relT (n : Nat) (a c : Nat → Int32) : Prop := ∀ j, j < n → a j = c j ∧ (0 ≤ (c j).toInt ∧ (c j).toInt ≤ 3)
theorem rel_T {n : Nat} {a b c d : Nat → Int32} (h : rel n a b c d) : relT n a c := fun j hj => ⟨(h j hj).1, (h j hj).2.2.1⟩
theorem rel_own {n : Nat} {a b c d : Nat → Int32} (h : rel n a b c d) {j : Nat} (hj : j < n) {f : Int32} (hf : 0 ≤ f.toInt ∧ f.toInt < 4) : b j = f ↔ d j = f := by
  rw [rel_mo h hj]; exact sON_side (h j hj).2.2.2.1 (h j hj).2.2.2.2 hf.1 hf.2
theorem rel_non {n : Nat} {a b c d : Nat → Int32} (h : rel n a b c d) {j : Nat} (hj : j < n) : b j = (-4) ↔ d j = nI 4 := by
  rw [rel_mo h hj]; exact sON_none (h j hj).2.2.2.1
theorem upd_up {f : Nat → Int32} {r : Nat} {x y : Int32} (h : ∀ k, r ≤ k → k < 8 → f k = y) : ∀ k, r + 1 ≤ k → k < 8 → upd f r x k = y := fun k h1 h2 => by
  rw [upd_ne _ _ (by omega)]; exact h k (by omega) h2
theorem gv_same {ow : Nat → Int32} {f : Int32} {cl : Nat → Nat} {ce : Nat → Int32} {i len n : Nat} (hn : n ≤ 48) (hc : ∀ k, k < len → ce k = nI (cl k) ∧ cl k < n) (c : (ce i).toInt = -4) : owB ow f cl (min (i + 1) len) = owB ow f cl (min i len) := by
  have h : ¬ i < len := fun q => by
    have e := hc i q
    rw [e.1, nI_toInt (by omega)] at c
    omega
  rw [show min (i + 1) len = min i len by omega]
theorem gv_lt {ce : Nat → Int32} {i len : Nat} (hcn : ∀ k, len ≤ k → k < 8 → ce k = (-4)) (h8 : i < 8) (c : ¬ (ce i).toInt = -4) : i < len := by
  rcases Nat.lt_or_ge i len with q | q
  · exact q
  · exact absurd (show (ce i).toInt = -4 by rw [hcn i q h8]; rfl) c
theorem sON_inj {x y : Int32} (hx0 : 0 ≤ x.toInt) (hx : x.toInt ≤ 4) (hy0 : 0 ≤ y.toInt) (hy : y.toInt ≤ 4) : sON x = sON y ↔ x = y := by
  refine ⟨fun q => ?_, fun q => by rw [q]⟩
  rcases (show y.toInt = 4 ∨ y.toInt < 4 by omega) with e | e
  · have e2 : y = nI 4 := Int32.toInt_inj.mp (by rw [e]; rfl)
    rw [e2] at q ⊢
    exact (sON_none hx0).mp q
  · rw [show sON y = y from by unfold sON; rw [if_neg (by omega)]] at q
    exact (sON_side hx0 hx hy0 e).mp q
theorem rel_giv {n : Nat} {a b c d : Nat → Int32} (h : rel n a b c d) {j : Nat} (hj : j < n) {f : Int32} (h0 : 0 ≤ f.toInt) (h4 : f.toInt ≤ 4) : b j = sON f ↔ d j = f := by
  rw [rel_mo h hj]; exact sON_inj (h j hj).2.2.2.1 (h j hj).2.2.2.2 h0 h4
theorem allH_s (th : Nat → Int32) (co ro : Nat) (kx kw ke : Nat → Nat) (n : Nat) : allH th co ro kx kw ke (n + 1) = (allH th co ro kx kw ke n && decide (ren th co ro 0 (kx n) (kw n) = ke n)) := rfl
theorem so_no {th : Nat → Int32} {co ro : Nat} {kx kw ke : Nat → Nat} {n : Nat} (h : allH th co ro kx kw ke n = false) : ¬ ∀ i, i < n → ren th co ro 0 (kx i) (kw i) = ke i := fun q => by
  rw [allH_iff.mpr q] at h; cases h
theorem tkT_note (a : Nat) (sl : Int32) (th mo f : Nat → Int32) {j : Nat} (hj : j < 48) : tkT a (noteA a sl th mo f) j = th j := by
  unfold tkT noteA; rw [if_neg (by omega), if_pos (by omega), show a + 1 + j - (a + 1) = j by omega]
theorem tkO_note (a : Nat) (sl : Int32) (th mo f : Nat → Int32) {j : Nat} (hj : j < 48) : tkO a (noteA a sl th mo f) j = mo j := by
  unfold tkO noteA; rw [if_neg (by omega), if_neg (by omega), if_pos (by omega), show a + 49 + j - (a + 49) = j by omega]
theorem note_at (a : Nat) (sl : Int32) (th mo f : Nat → Int32) : noteA a sl th mo f a = sl := if_pos rfl
