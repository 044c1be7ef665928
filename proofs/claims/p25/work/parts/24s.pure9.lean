/-! searches: all slides by their numbers -/
theorem hrow_0 : hrow 0 = 0 := rfl
theorem rst_h {th : Nat → Int32} {co x w h rl : Nat} (hh : rl < hrow h) : ∀ r, r ≤ rl → rst th co h x w r = rst th co 0 x w r
  | 0, _ => rfl
  | r + 1, hr => by
    rw [rst_s, rst_s, rst_h hh r (by omega), if_neg (fun q => by have := q.2; omega), if_neg (fun q => by have := q.2; rw [hrow_0] at this; omega)]
theorem ride_h {th : Nat → Int32} {co ro x w h : Nat} (hh : rln th co ro 0 x w < hrow h) : rln th co ro h x w = rln th co ro 0 x w ∧ ren th co ro h x w = ren th co ro 0 x w ∧ ∀ k, k < rln th co ro 0 x w → rcl th co h x w k = rcl th co 0 x w k := by
  obtain ⟨rl, hrl⟩ : ∃ z, z = rln th co ro 0 x w := ⟨_, rfl⟩
  rw [← hrl] at hh
  have hc : ∀ k, k ≤ rl → rcl th co h x w k = rcl th co 0 x w k := fun k hk => by unfold rcl; rw [rst_h hh k hk]
  have e : rsp th co ro h x w = rsp th co ro 0 x w := by
    have hle := fstP_le (fun r => decide ((rst th co 0 x w (r + 1)).2 = 0)) ro
    rcases Nat.lt_or_ge (rsp th co ro 0 x w) ro with q | q
    · have e1 : rl = rsp th co ro 0 x w + 1 := by rw [hrl]; unfold rln; rw [if_pos q]
      refine fstP_eq (fun j hj => ?_) ?_ q
      · rw [rst_h hh (j + 1) (by omega)]
        exact fstP_no (fun r => decide ((rst th co 0 x w (r + 1)).2 = 0)) ro j hj
      · rw [rst_h hh _ (by omega)]
        exact fstP_yes (fun r => decide ((rst th co 0 x w (r + 1)).2 = 0)) ro q
    · have e1 : rl = ro := by rw [hrl]; unfold rln; rw [if_neg (by omega)]
      have e2 : rsp th co ro 0 x w = ro := Nat.le_antisymm hle q
      rw [e2]
      refine fstP_none (fun j hj => ?_)
      rw [rst_h hh (j + 1) (by omega)]
      exact fstP_no (fun r => decide ((rst th co 0 x w (r + 1)).2 = 0)) ro j (by show j < rsp th co ro 0 x w; omega)
  refine ⟨?_, ?_, fun k hk => hc k (by omega)⟩
  · unfold rln; rw [e]
  · unfold ren
    rw [e]
    split
    · rename_i q
      have e1 : rl = rsp th co ro 0 x w + 1 := by rw [hrl]; unfold rln; rw [if_pos q]
      exact hc _ (by omega)
    · rfl
abbrev vHee (h : Nat) : Prop := h ≤ 8 ∨ (11 ≤ h ∧ h ≤ 18)
/-- heels that the search leaves out are as none -/
theorem hs_cover {th : Nat → Int32} {co ro x w h rl : Nat} (hrl : EqN rl (rln th co ro 0 x w)) (hv : vHee h) : (∃ i, i ≤ 2 * rl ∧ hsA i rl = h) ∨ (rl < hrow h) := by
  have hl := rln_le th co ro 0 x w
  rw [← hrl.eq] at hl
  rcases Nat.lt_or_ge rl (hrow h) with q | q
  · exact Or.inr q
  · refine Or.inl ?_
    unfold hrow at q
    rcases hv with z | z
    · rw [if_neg (by omega)] at q
      exact ⟨h, by omega, by unfold hsA; rw [if_pos q]⟩
    · rw [if_pos (by omega)] at q
      exact ⟨h - 10 + rl, by omega, by unfold hsA; rw [if_neg (by omega)]; omega⟩
theorem hsA_mono {i j rl : Nat} (hr : rl ≤ 8) (h : hsA i rl < hsA j rl) : i < j := by unfold hsA at h; (repeat' split at h) <;> omega
theorem hsA_vh {i rl : Nat} (hi : i ≤ 2 * rl) (hr : rl ≤ 8) : vHee (hsA i rl) := by unfold hsA; split <;> omega
theorem hsA_0 (rl : Nat) : hsA 0 rl = 0 := by unfold hsA; rw [if_pos (Nat.zero_le _)]
abbrev vCode (co c : Nat) : Prop := c / 10000 < co ∧ (1 ≤ c / 100 % 100 ∧ c / 100 % 100 ≤ 20) ∧ vHee (c % 100)
def aimP (th : Nat → Int32) (co ro jc c : Nat) : Bool := decide (vCode co c ∧ ren th co ro (c % 100) (c / 10000) (c / 100 % 100) = jc)
def aimK (th : Nat → Int32) (co ro jc : Nat) : Nat := fstP (aimP th co ro jc) (10000 * co)
def aimR (th : Nat → Int32) (co ro jc : Nat) : Int32 := if aimK th co ro jc < 10000 * co then nI (aimK th co ro jc) else (-4)
def fAim (th : Nat → Int32) (co ro : Nat) (c : Int32) : Int32 := if vCell (ro * co) c then aimR th co ro (tn c) else (-1)
theorem aimR_yes {th : Nat → Int32} {co ro jc c : Nat} (hno : ∀ k, k < c → aimP th co ro jc k = false) (hy : aimP th co ro jc c = true) (hc : c < 10000 * co) : aimR th co ro jc = nI c := by
  have e : aimK th co ro jc = c := fstP_eq hno hy hc
  unfold aimR; rw [e, if_pos hc]
theorem aimR_no {th : Nat → Int32} {co ro jc : Nat} (hno : ∀ k, k < 10000 * co → aimP th co ro jc k = false) : aimR th co ro jc = (-4) := by
  have e : aimK th co ro jc = 10000 * co := fstP_none hno
  unfold aimR; rw [e, if_neg (Nat.lt_irrefl _)]
theorem fAim_in {th : Nat → Int32} {co ro jc : Nat} (hjc : jc < ro * co) (hrc : ro * co ≤ 48) : fAim th co ro (nI jc) = aimR th co ro jc := by
  unfold fAim; rw [if_pos (cellI hjc (by omega)), tnI (by omega)]
theorem aim_w0 {th : Nat → Int32} {co ro jc x : Nat} (h : ∀ k, k < 10000 * x → aimP th co ro jc k = false) : ∀ k, k < 10000 * x + 100 * 1 → aimP th co ro jc k = false := fun k hk => by
  rcases Nat.lt_or_ge k (10000 * x) with q | q
  · exact h k q
  · exact decide_eq_false (fun z => by have := z.1.2.1.1; omega)
theorem aim_w21 {th : Nat → Int32} {co ro jc x w : Nat} (hw : 21 ≤ w) (h : ∀ k, k < 10000 * x + 100 * w → aimP th co ro jc k = false) : ∀ k, k < 10000 * (x + 1) → aimP th co ro jc k = false := fun k hk => by
  rcases Nat.lt_or_ge k (10000 * x + 100 * w) with q | q
  · exact h k q
  · exact decide_eq_false (fun z => by have := z.1.2.1.2; omega)
theorem code_at {x w h : Nat} (hw : w < 100) (hh : h < 100) : (10000 * x + 100 * w + h) / 10000 = x ∧ (10000 * x + 100 * w + h) / 100 % 100 = w ∧ (10000 * x + 100 * w + h) % 100 = h := by omega
/-- below the number with heels hh, all those that are none or that an earlier one is like -/
theorem aim_upto {th : Nat → Int32} {co ro jc x w rl i lim : Nat} (hrl : EqN rl (rln th co ro 0 x w)) (hw : 1 ≤ w ∧ w ≤ 20) (hlim : lim ≤ 100) (h : ∀ k, k < 10000 * x + 100 * w → aimP th co ro jc k = false) (hi : ∀ j, j < i → ren th co ro (hsA j rl) x w ≠ jc) (hcov : ∀ j, j ≤ 2 * rl → hsA j rl < lim → j < i) (h0 : lim = 0 ∨ 0 < i) : ∀ k, k < 10000 * x + 100 * w + lim → aimP th co ro jc k = false := fun k hk => by
  rcases Nat.lt_or_ge k (10000 * x + 100 * w) with q | q
  · exact h k q
  · refine decide_eq_false (fun z => ?_)
    obtain ⟨hh, e⟩ : ∃ y, k = 10000 * x + 100 * w + y := ⟨k - (10000 * x + 100 * w), by omega⟩
    have hlt : hh < lim := by omega
    obtain ⟨c1, c2, c3⟩ := code_at (x := x) (w := w) (h := hh) (by omega) (by omega)
    rw [e] at z
    obtain ⟨⟨z1, z2, z3⟩, z4⟩ := z
    rw [c3] at z3
    rw [c1, c2, c3] at z4
    rcases hs_cover hrl z3 with ⟨j, hj, ej⟩ | hb
    · exact hi j (hcov j hj (by omega)) (by rw [ej]; exact z4)
    · have hb2 : rln th co ro 0 x w < hrow hh := by rw [← hrl.eq]; exact hb
      have h00 := hi 0 (by omega)
      rw [hsA_0] at h00
      exact h00 ((ride_h hb2).2.1.symm.trans z4)
/-! the first with most -/
def bst (V : Nat → Bool) (M : Nat → Nat) : Nat → Option (Nat × Nat)
  | 0 => none
  | k + 1 => if V k = true then (match bst V M k with | none => some (k, M k) | some q => if q.2 < M k then some (k, M k) else some q) else bst V M k
theorem bst_no {V : Nat → Bool} {M : Nat → Nat} {k : Nat} (h : V k = false) : bst V M (k + 1) = bst V M k := by
  conv => lhs; unfold bst
  rw [if_neg (by rw [h]; decide)]
theorem bst_first {V : Nat → Bool} {M : Nat → Nat} {k : Nat} (h : V k = true) (hb : bst V M k = none) : bst V M (k + 1) = some (k, M k) := by
  conv => lhs; unfold bst
  rw [if_pos h, hb]
theorem bst_more {V : Nat → Bool} {M : Nat → Nat} {k : Nat} {q : Nat × Nat} (h : V k = true) (hb : bst V M k = some q) (hm : q.2 < M k) : bst V M (k + 1) = some (k, M k) := by
  conv => lhs; unfold bst
  rw [if_pos h, hb]; exact if_pos hm
theorem bst_same {V : Nat → Bool} {M : Nat → Nat} {k : Nat} {q : Nat × Nat} (h : V k = true) (hb : bst V M k = some q) (hm : M k ≤ q.2) : bst V M (k + 1) = some q := by
  conv => lhs; unfold bst
  rw [if_pos h, hb]; exact if_neg (by omega)
theorem bst_ge {V : Nat → Bool} {M : Nat → Nat} : ∀ {n k : Nat}, k < n → V k = true → ∃ q, bst V M n = some q ∧ M k ≤ q.2
  | 0, k, h, _ => absurd h (Nat.not_lt_zero k)
  | n + 1, k, h, hv => by
    cases hn : V n with
    | false =>
      rw [bst_no hn]
      have e : k ≠ n := fun e => by rw [e, hn] at hv; cases hv
      exact bst_ge (by omega) hv
    | true =>
      cases hb : bst V M n with
      | none =>
        rw [bst_first hn hb]
        rcases Nat.lt_or_ge k n with q | q
        · obtain ⟨z, e, _⟩ := bst_ge (M := M) q hv
          rw [hb] at e; cases e
        · rw [show k = n by omega]; exact ⟨_, rfl, Nat.le_refl _⟩
      | some z =>
        rcases Nat.lt_or_ge z.2 (M n) with q | q
        · rw [bst_more hn hb q]
          refine ⟨_, rfl, ?_⟩
          rcases Nat.lt_or_ge k n with p | p
          · obtain ⟨y, e, hy⟩ := bst_ge (M := M) p hv
            rw [hb] at e; cases e
            exact Nat.le_trans hy (Nat.le_of_lt q)
          · rw [show k = n by omega]; exact Nat.le_refl _
        · rw [bst_same hn hb q]
          refine ⟨_, rfl, ?_⟩
          rcases Nat.lt_or_ge k n with p | p
          · obtain ⟨y, e, hy⟩ := bst_ge (M := M) p hv
            rw [hb] at e; cases e
            exact hy
          · rw [show k = n by omega]; exact q
theorem bst_skip {V : Nat → Bool} {M : Nat → Nat} {a : Nat} : ∀ (d : Nat), (∀ k, a ≤ k → k < a + d → V k = true → ∃ q, bst V M a = some q ∧ M k ≤ q.2) → bst V M (a + d) = bst V M a
  | 0, _ => rfl
  | d + 1, h => by
    have ih := bst_skip d (fun k h1 h2 h3 => h k h1 (by omega) h3)
    show bst V M ((a + d) + 1) = _
    cases hn : V (a + d) with
    | false => rw [bst_no hn, ih]
    | true =>
      obtain ⟨q, e, hq⟩ := h (a + d) (by omega) (by omega) hn
      rw [bst_same hn (ih.trans e) hq, e]
def takM (th ow : Nat → Int32) (co ro : Nat) (f : Int32) (its h x w : Nat) : Nat := cntP (fun k => decide (ow (rcl th co h x w k) = f ↔ its = 1)) (rln th co ro h x w)
theorem takM_h {th ow : Nat → Int32} {co ro : Nat} {f : Int32} {its h x w : Nat} (hh : rln th co ro 0 x w < hrow h) : takM th ow co ro f its h x w = takM th ow co ro f its 0 x w := by
  obtain ⟨h1, _, h3⟩ := ride_h hh
  unfold takM
  rw [h1]
  exact cntP_cong (fun k hk => by rw [h3 k hk])
def vcB (co : Nat) : Nat → Bool := fun c => decide (vCode co c)
def tkC (th ow : Nat → Int32) (co ro : Nat) (f : Int32) (its : Nat) : Nat → Nat := fun c => takM th ow co ro f its (c % 100) (c / 10000) (c / 100 % 100)
abbrev gnB (th ow : Nat → Int32) (co ro : Nat) (f : Int32) (its : Nat) (n : Nat) : Option (Nat × Nat) := bst (vcB co) (tkC th ow co ro f its) n
theorem tkC_at {th ow : Nat → Int32} {co ro : Nat} {f : Int32} {its x w h : Nat} (hw : w < 100) (hh : h < 100) : tkC th ow co ro f its (10000 * x + 100 * w + h) = takM th ow co ro f its h x w := by
  obtain ⟨c1, c2, c3⟩ := code_at (x := x) hw hh
  unfold tkC; rw [c1, c2, c3]
theorem vcB_at {co x w h : Nat} (hx : x < co) (hw : 1 ≤ w ∧ w ≤ 20) (hh : vHee h) : vcB co (10000 * x + 100 * w + h) = true := by
  obtain ⟨c1, c2, c3⟩ := code_at (x := x) (w := w) (h := h) (by omega) (by omega)
  unfold vcB; exact decide_eq_true (by unfold vCode; rw [c1, c2, c3]; exact ⟨hx, hw, hh⟩)
theorem takM_le {th ow : Nat → Int32} {co ro : Nat} {f : Int32} {its h x w : Nat} (hro : ro ≤ 8) : takM th ow co ro f its h x w ≤ 8 := Nat.le_trans (cntP_le _ _) (Nat.le_trans (rln_le th co ro h x w) hro)
theorem tkC_le {th ow : Nat → Int32} {co ro : Nat} {f : Int32} {its c : Nat} (hro : ro ≤ 8) : tkC th ow co ro f its c ≤ 8 := takM_le hro
def StC (o : Option (Nat × Nat)) (cd tk : Int32) : Prop := (o = none ∧ cd = (-4) ∧ tk = (-4)) ∨ ∃ q, o = some q ∧ cd = nI q.1 ∧ tk = nI q.2 ∧ q.2 ≤ 8
/-- the best, told by the state of a search up to n -/
theorem stc_go {V : Nat → Bool} {M : Nat → Nat} {n : Nat} {cd tk : Int32} (hs : StC (bst V M n) cd tk) (hv : V n = true) (hm : tk.toInt < ((M n : Nat) : Int)) (h8 : M n ≤ 8) : StC (bst V M (n + 1)) (nI n) (nI (M n)) := by
  rcases hs with ⟨h1, h2, h3⟩ | ⟨q, h1, h2, h3, h4⟩
  · exact Or.inr ⟨_, bst_first hv h1, rfl, rfl, h8⟩
  · rw [h3, nI_toInt (by omega)] at hm
    exact Or.inr ⟨_, bst_more hv h1 (by omega), rfl, rfl, h8⟩
theorem stc_stay {V : Nat → Bool} {M : Nat → Nat} {n : Nat} {cd tk : Int32} (hs : StC (bst V M n) cd tk) (hv : V n = true) (hm : ((M n : Nat) : Int) ≤ tk.toInt) : StC (bst V M (n + 1)) cd tk := by
  rcases hs with ⟨h1, h2, h3⟩ | ⟨q, h1, h2, h3, h4⟩
  · rw [h3, show (-4 : Int32).toInt = -4 from rfl] at hm; omega
  · rw [h3, nI_toInt (by omega)] at hm
    exact Or.inr ⟨_, bst_same hv h1 (by omega), h2, h3, h4⟩
def hlim (i rl : Nat) : Nat := if i = 0 then 0 else hsA (i - 1) rl + 1
theorem gn_skip {th ow : Nat → Int32} {co ro : Nat} {f : Int32} {its x w rl i lim : Nat} (hx : x < co) (hw : 1 ≤ w ∧ w ≤ 20) (hrl : EqN rl (rln th co ro 0 x w)) (hlim2 : lim ≤ 100) (hle : hlim i rl ≤ lim) (hcov : ∀ j, j ≤ 2 * rl → ¬ (hlim i rl ≤ hsA j rl ∧ hsA j rl < lim)) (h0 : hlim i rl = lim ∨ 0 < i) : gnB th ow co ro f its (10000 * x + 100 * w + lim) = gnB th ow co ro f its (10000 * x + 100 * w + hlim i rl) := by
  rcases h0 with e | hi0
  · rw [e]
  · obtain ⟨d, e⟩ : ∃ d, lim = hlim i rl + d := ⟨lim - hlim i rl, by omega⟩
    rw [e, ← Nat.add_assoc]
    refine bst_skip d (fun k h1 h2 hv => ?_)
    obtain ⟨hh, ek⟩ : ∃ y, k = 10000 * x + 100 * w + y := ⟨k - (10000 * x + 100 * w), by omega⟩
    subst ek
    have hh1 : hh < 100 := by omega
    have hpos : 1 ≤ hlim i rl := by unfold hlim; rw [if_neg (by omega)]; omega
    obtain ⟨c1, c2, c3⟩ := code_at (x := x) (w := w) (h := hh) (by omega) hh1
    have hv2 := of_decide_eq_true hv
    unfold vCode at hv2
    rw [c1, c2, c3] at hv2
    obtain ⟨q, e1, e2⟩ := bst_ge (V := vcB co) (M := tkC th ow co ro f its) (n := 10000 * x + 100 * w + hlim i rl) (k := 10000 * x + 100 * w + 0) (by omega) (vcB_at hx hw (Or.inl (Nat.zero_le _)))
    refine ⟨q, e1, ?_⟩
    rw [tkC_at (by omega) (by decide)] at e2
    rw [tkC_at (by omega) hh1]
    rcases hs_cover hrl hv2.2.2 with ⟨j, hj, ej⟩ | hb
    · exact absurd ⟨by omega, by omega⟩ (hcov j hj)
    · rw [takM_h (by rw [← hrl.eq]; exact hb)]; exact e2
theorem hlim_s (i rl : Nat) : hlim (i + 1) rl = hsA i rl + 1 := by unfold hlim; rw [if_neg (by omega)]; rfl
theorem hlim_0 (rl : Nat) : hlim 0 rl = 0 := rfl
theorem hlim_le {i rl : Nat} (hr : rl ≤ 8) : hlim i rl ≤ hsA i rl := by unfold hlim hsA; (repeat' split) <;> omega
theorem hsA_gap {i j rl : Nat} (hj : j ≤ 2 * rl) : ¬ (hlim i rl ≤ hsA j rl ∧ hsA j rl < hsA i rl) := by unfold hlim hsA; (repeat' split) <;> omega
theorem hsA_end {i j rl : Nat} (hi : 2 * rl < i) (hj : j ≤ 2 * rl) : ¬ (hlim i rl ≤ hsA j rl ∧ hsA j rl < 100) := by unfold hlim hsA; (repeat' split) <;> omega
theorem gn_to {th ow : Nat → Int32} {co ro : Nat} {f : Int32} {its x w rl i : Nat} (hx : x < co) (hw : 1 ≤ w ∧ w ≤ 20) (hrl : EqN rl (rln th co ro 0 x w)) (hr8 : rl ≤ 8) (hi : i ≤ 2 * rl) : gnB th ow co ro f its (10000 * x + 100 * w + hsA i rl) = gnB th ow co ro f its (10000 * x + 100 * w + hlim i rl) := by
  have h1 := hsA_le hi
  refine gn_skip hx hw hrl (by omega) (hlim_le hr8) (fun j hj => hsA_gap hj) ?_
  rcases Nat.eq_zero_or_pos i with q | q
  · exact Or.inl (by rw [q, hlim_0, hsA_0])
  · exact Or.inr q
theorem gn_end {th ow : Nat → Int32} {co ro : Nat} {f : Int32} {its x w rl i : Nat} (hx : x < co) (hw : 1 ≤ w ∧ w ≤ 20) (hrl : EqN rl (rln th co ro 0 x w)) (hr8 : rl ≤ 8) (hi : 2 * rl < i) (hi2 : i ≤ 2 * rl + 1) : gnB th ow co ro f its (10000 * x + 100 * (w + 1)) = gnB th ow co ro f its (10000 * x + 100 * w + hlim i rl) := by
  have h1 : hlim i rl ≤ 100 := by unfold hlim hsA; (repeat' split) <;> omega
  rw [show 10000 * x + 100 * (w + 1) = 10000 * x + 100 * w + 100 by omega]
  exact gn_skip hx hw hrl (Nat.le_refl _) h1 (fun j hj => hsA_end hi hj) (Or.inr (by omega))
theorem gn_w0 {th ow : Nat → Int32} {co ro : Nat} {f : Int32} {its x : Nat} : gnB th ow co ro f its (10000 * x + 100 * 1) = gnB th ow co ro f its (10000 * x) :=
  bst_skip 100 (fun k h1 h2 hv => by have h3 := (of_decide_eq_true hv).2.1.1; omega)
theorem gn_w21 {th ow : Nat → Int32} {co ro : Nat} {f : Int32} {its x : Nat} : gnB th ow co ro f its (10000 * (x + 1)) = gnB th ow co ro f its (10000 * x + 100 * 21) := by
  rw [show 10000 * (x + 1) = 10000 * x + 100 * 21 + 7900 by omega]
  exact bst_skip 7900 (fun k h1 h2 hv => by have h3 := (of_decide_eq_true hv).2.1.2; omega)
theorem gn_some {th ow : Nat → Int32} {co ro : Nat} {f : Int32} {its : Nat} (hc : 0 < co) : ∃ q, gnB th ow co ro f its (10000 * co) = some q := by
  obtain ⟨q, e, _⟩ := bst_ge (V := vcB co) (M := tkC th ow co ro f its) (n := 10000 * co) (k := 10000 * 0 + 100 * 1 + 0) (by omega) (vcB_at hc ⟨by omega, by omega⟩ (Or.inl (Nat.zero_le _)))
  exact ⟨q, e⟩
def valI (its own m : Nat) : Int32 := if its = 0 then nI own + nI m else nI own - nI m
theorem valI_toInt {its own m : Nat} (h1 : own ≤ 1000) (h2 : m ≤ 1000) : (valI its own m).toInt = if its = 0 then ((own : Nat) : Int) + ((m : Nat) : Int) else ((own : Nat) : Int) - ((m : Nat) : Int) := by
  unfold valI; split
  · rw [nI_add, nI_toInt (by omega)]; omega
  · exact pk_sub_toInt (by omega) (by omega)
def ownN (ow : Nat → Int32) (n : Nat) (f : Int32) : Nat := cntP (fun k => decide (ow k = f)) n
theorem ownN_le (ow : Nat → Int32) (n : Nat) (f : Int32) : ownN ow n f ≤ n := cntP_le _ _
def fBest (th ow : Nat → Int32) (co ro : Nat) (f : Int32) (its : Nat) (what : Int32) : Int32 := match gnB th ow co ro f its (10000 * co) with
  | none => (-4)
  | some q => if what.toInt = 0 then nI q.1 else valI its (ownN ow (ro * co) f) q.2
def fGain (th ow : Nat → Int32) (co ro : Nat) (f what : Int32) : Int32 := if vSide f ∧ vFlag what then fBest th ow co ro f 0 what else (-1)
def fSpoil (th ow : Nat → Int32) (co ro : Nat) (f g what : Int32) : Int32 := if vSide f ∧ vSide g ∧ f ≠ g ∧ vFlag what then fBest th ow co ro g 1 what else (-1)
theorem fBest_c {th ow : Nat → Int32} {co ro : Nat} {f what cd tk : Int32} {its : Nat} (hc : 0 < co) (hs : StC (gnB th ow co ro f its (10000 * co)) cd tk) : (what.toInt = 0 → fBest th ow co ro f its what = cd) ∧ (its = 0 → what.toInt ≠ 0 → fBest th ow co ro f its what = nI (ownN ow (ro * co) f) + tk) ∧ (its = 1 → what.toInt ≠ 0 → fBest th ow co ro f its what = nI (ownN ow (ro * co) f) - tk) := by
  obtain ⟨q, e⟩ := gn_some (th := th) (ow := ow) (ro := ro) (f := f) (its := its) hc
  rcases hs with ⟨h1, _⟩ | ⟨z, h1, h2, h3, _⟩
  · rw [e] at h1; cases h1
  · unfold fBest
    rw [h1]
    refine ⟨fun h => ?_, fun h0 h => ?_, fun h0 h => ?_⟩
    · rw [h2]; exact if_pos h
    · rw [h3]; exact (if_neg h).trans (by unfold valI; rw [if_pos h0])
    · rw [h3]; exact (if_neg h).trans (by unfold valI; rw [if_neg (by omega)])
def StM (its own : Nat) (o : Option (Nat × Nat)) (bs bh : Int32) : Prop := (o = none ∧ bs = (-4)) ∨ ∃ q, o = some q ∧ bs = nI q.1 ∧ q.1 < 100000 ∧ bh = valI its own q.2 ∧ q.2 ≤ 8
theorem fBest_m {th ow : Nat → Int32} {co ro : Nat} {f what bs bh : Int32} {its : Nat} (hc : 0 < co) (hs : StM its (ownN ow (ro * co) f) (gnB th ow co ro f its (10000 * co)) bs bh) : (what.toInt = 0 → fBest th ow co ro f its what = bs) ∧ (what.toInt ≠ 0 → fBest th ow co ro f its what = bh) := by
  obtain ⟨q, e⟩ := gn_some (th := th) (ow := ow) (ro := ro) (f := f) (its := its) hc
  rcases hs with ⟨h1, _⟩ | ⟨z, h1, h2, _, h3, _⟩
  · rw [e] at h1; cases h1
  · unfold fBest
    rw [h1]
    exact ⟨fun h => by rw [h2]; exact if_pos h, fun h => by rw [h3]; exact if_neg h⟩
theorem stm_none {its own : Nat} {V : Nat → Bool} {M : Nat → Nat} {n : Nat} {bs bh : Int32} (hs : StM its own (bst V M n) bs bh) (hv : V n = true) (hb : bs = (-4)) (hn : n < 100000) (h8 : M n ≤ 8) : StM its own (bst V M (n + 1)) (nI n) (valI its own (M n)) := by
  rcases hs with ⟨h1, h2⟩ | ⟨q, h1, h2, h3, h4, h5⟩
  · exact Or.inr ⟨_, bst_first hv h1, rfl, hn, rfl, h8⟩
  · rw [h2] at hb
    have := congrArg Int32.toInt hb
    rw [nI_toInt (by omega), show (-4 : Int32).toInt = -4 from rfl] at this; omega
theorem stm_go {its own : Nat} {V : Nat → Bool} {M : Nat → Nat} {n : Nat} {bs bh : Int32} (hs : StM its own (bst V M n) bs bh) (hv : V n = true) (hb : ¬ bs = (-4)) (ho : own ≤ 48) (hn : n < 100000) (h8 : M n ≤ 8) (hc : (its = 0 ∧ bh.toInt < (valI its own (M n)).toInt) ∨ (its = 1 ∧ (valI its own (M n)).toInt < bh.toInt)) : StM its own (bst V M (n + 1)) (nI n) (valI its own (M n)) := by
  rcases hs with ⟨h1, h2⟩ | ⟨q, h1, h2, h3, h4, h5⟩
  · exact absurd h2 hb
  · rw [h4, valI_toInt (by omega) (by omega), valI_toInt (by omega) (by omega)] at hc
    refine Or.inr ⟨_, bst_more hv h1 ?_, rfl, hn, rfl, h8⟩
    rcases hc with ⟨i0, hc⟩ | ⟨i1, hc⟩
    · rw [if_pos i0, if_pos i0] at hc; omega
    · rw [if_neg (by omega), if_neg (by omega)] at hc; omega
theorem stm_stay {its own : Nat} {V : Nat → Bool} {M : Nat → Nat} {n : Nat} {bs bh : Int32} (hs : StM its own (bst V M n) bs bh) (hv : V n = true) (hb : ¬ bs = (-4)) (ho : own ≤ 48) (h8 : M n ≤ 8) (hc : (its = 0 ∧ (valI its own (M n)).toInt ≤ bh.toInt) ∨ (its = 1 ∧ bh.toInt ≤ (valI its own (M n)).toInt)) : StM its own (bst V M (n + 1)) bs bh := by
  rcases hs with ⟨h1, h2⟩ | ⟨q, h1, h2, h3, h4, h5⟩
  · exact absurd h2 hb
  · rw [h4, valI_toInt (by omega) (by omega), valI_toInt (by omega) (by omega)] at hc
    refine Or.inr ⟨_, bst_same hv h1 ?_, h2, h3, h4, h5⟩
    rcases hc with ⟨i0, hc⟩ | ⟨i1, hc⟩
    · rw [if_pos i0, if_pos i0] at hc; omega
    · rw [if_neg (by omega), if_neg (by omega)] at hc; omega
theorem valI_p {own m : Nat} : valI 0 own m + nI 1 = valI 0 own (m + 1) := by
  show nI own + nI m + nI 1 = nI own + nI (m + 1)
  rw [Int32.add_assoc, nI_add]
theorem valI_m {own m : Nat} : valI 1 own m + (-1) = valI 1 own (m + 1) := by
  show nI own - nI m + (-1) = nI own - nI (m + 1)
  rw [← nI_add, Int32.sub_eq_add_neg, Int32.sub_eq_add_neg, Int32.neg_add, Int32.add_assoc, show nI 1 = (1 : Int32) from rfl, Int32.sub_eq_add_neg]
theorem gv_ge {n i len : Nat} {cl : Nat → Nat} {ce : Nat → Int32} (hn : n ≤ 48) (hc : ∀ k, k < len → ce k = nI (cl k) ∧ cl k < n) (c : (ce i).toInt = -4) : len ≤ i := by
  rcases Nat.lt_or_ge i len with q | q
  · have e := hc i q
    rw [e.1, nI_toInt (by omega)] at c; omega
  · exact q
theorem ot_out {its own len i : Nat} {P : Nat → Bool} {n : Int32} (hn : n = valI its own (cntP P (min i len))) (h : len ≤ i) : n + nI 0 = valI its own (cntP P (min (i + 1) len)) := by
  rw [show min (i + 1) len = min i len by omega, ← hn]; exact Int32.add_zero n
theorem ot_0 {its own len i : Nat} {P : Nat → Bool} {n : Int32} (hn : n = valI its own (cntP P (min i len))) (h : i < len) (hp : ¬ P i = true) : n + nI 0 = valI its own (cntP P (min (i + 1) len)) := by
  rw [show min (i + 1) len = i + 1 by omega, cntP_no hp]
  rw [show min i len = i by omega] at hn
  rw [← hn]; exact Int32.add_zero n
theorem ot_1 {its own len i : Nat} {P : Nat → Bool} {n : Int32} (hn : n = valI its own (cntP P (min i len))) (h : i < len) (h0 : its = 0) (hp : P i = true) : n + nI 1 = valI its own (cntP P (min (i + 1) len)) := by
  rw [show min (i + 1) len = i + 1 by omega, cntP_yes hp]
  rw [show min i len = i by omega] at hn
  subst h0
  rw [hn]; exact valI_p
theorem ot_m {its own len i : Nat} {P : Nat → Bool} {n : Int32} (hn : n = valI its own (cntP P (min i len))) (h : i < len) (h1 : its = 1) (hp : P i = true) : n + (-1) = valI its own (cntP P (min (i + 1) len)) := by
  rw [show min (i + 1) len = i + 1 by omega, cntP_yes hp]
  rw [show min i len = i by omega] at hn
  subst h1
  rw [hn]; exact valI_m
