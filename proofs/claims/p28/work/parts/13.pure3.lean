/-! what the calls answer, of any numbers -/
abbrev tn (x : Int32) : Nat := x.toNatClampNeg
theorem tnI {j : Nat} (h : j < 2147483648) : tn (nI j) = j := nI_clamp h
theorem tiI {j : Nat} (h : j < 2147483648) : (nI j).toInt = (j : Int) := nI_toInt h
abbrev vCell (n : Nat) (c : Int32) : Prop := 0 ≤ c.toInt ∧ c.toInt < (n : Int)
abbrev vFlag (x : Int32) : Prop := x.toInt = 0 ∨ x.toInt = 1
abbrev vSide (f : Int32) : Prop := 0 ≤ f.toInt ∧ f.toInt < 4
abbrev vHeels (h : Int32) : Prop := (0 ≤ h.toInt ∧ h.toInt ≤ 8) ∨ (11 ≤ h.toInt ∧ h.toInt ≤ 18)
abbrev vWeight (w : Int32) : Prop := 1 ≤ w.toInt ∧ w.toInt ≤ 20
abbrev vRide (co : Nat) (x w h : Int32) : Prop := vCell co x ∧ vWeight w ∧ vHeels h
abbrev vEnd (n : Nat) (c : Int32) : Prop := c.toInt = 99 ∨ vCell n c
abbrev ton (x : Int32) : Nat := x.toNatClampNeg
theorem cellI {j n : Nat} (h : j < n) (hn : j < 2147483648) : vCell n (nI j) := by have := tiI (j := j) hn; omega
/-- the place of the first fault, or none -/
def fltO : Option Nat → Int32
  | none => (-4)
  | some q => nI q
def sON (x : Int32) : Int32 := if x.toInt = 4 then (-4) else x
def fCell (th ow : Nat → Int32) (n : Nat) (c what : Int32) : Int32 := if vCell n c ∧ vFlag what then (if what.toInt = 0 then th (tn c) else sON (ow (tn c))) else (-1)
def fStops (th : Nat → Int32) (co ro : Nat) (x w h : Int32) : Int32 := if vRide co x w h then nI (ren th co ro (tn h) (tn x) (tn w)) else (-1)
def fTrack (th : Nat → Int32) (co ro : Nat) (x w h k what : Int32) : Int32 := if vRide co x w h ∧ vCell ro k ∧ vFlag what then (if tn k < rln th co ro (tn h) (tn x) (tn w) then (if what.toInt = 0 then nI (rcl th co (tn h) (tn x) (tn w) (tn k)) else nI (rst th co (tn h) (tn x) (tn w) (tn k + 1)).2) else (-4)) else (-1)
def fHolds (ow : Nat → Int32) (n : Nat) (f : Int32) : Int32 := if vSide f then nI (cntP (fun k => decide (ow k = f)) n) else (-1)
/-- of weights from 20 down to w: how many, and the least, with which a slide stops in c -/
def hvN (th : Nat → Int32) (co ro x c : Nat) : Nat → Nat
  | 0 => 0
  | i + 1 => hvN th co ro x c i + if ren th co ro 0 x (20 - i) = c then 1 else 0
def hvL (th : Nat → Int32) (co ro x c : Nat) : Nat → Int32
  | 0 => (-4)
  | i + 1 => if ren th co ro 0 x (20 - i) = c then nI (20 - i) else hvL th co ro x c i
def fHeavy (th : Nat → Int32) (co ro : Nat) (x c what : Int32) : Int32 := if vCell co x ∧ vEnd (ro * co) c ∧ vFlag what then (if what.toInt = 0 then nI (hvN th co ro (tn x) (tn c) 20) else hvL th co ro (tn x) (tn c) 20) else (-1)
def allH (th : Nat → Int32) (co ro : Nat) (kx kw ke : Nat → Nat) : Nat → Bool
  | 0 => true
  | n + 1 => allH th co ro kx kw ke n && decide (ren th co ro 0 (kx n) (kw n) = ke n)
theorem allH_iff {th : Nat → Int32} {co ro : Nat} {kx kw ke : Nat → Nat} : ∀ {sn : Nat}, allH th co ro kx kw ke sn = true ↔ ∀ i, i < sn → ren th co ro 0 (kx i) (kw i) = ke i
  | 0 => ⟨fun _ i hi => absurd hi (Nat.not_lt_zero i), fun _ => rfl⟩
  | n + 1 => by
    unfold allH
    rw [Bool.and_eq_true, allH_iff, decide_eq_true_eq]
    exact ⟨fun h => lt_s h.1 h.2, fun h => ⟨fun i hi => h i (by omega), h n (by omega)⟩⟩
def lsB (th : Nat → Int32) (co ro : Nat) (kx kw ke : Nat → Nat) (sn c : Nat) : Nat → Int32
  | 0 => nI 0
  | k + 1 => if allH (upd th c (nI k)) co ro kx kw ke sn = true then lsB th co ro kx kw ke sn c k ||| (nI 1 <<< (nI k &&& 31)) else lsB th co ro kx kw ke sn c k
def fLies (th : Nat → Int32) (co ro : Nat) (kx kw ke : Nat → Nat) (sn : Nat) (c : Int32) : Int32 := if vCell (ro * co) c then lsB th co ro kx kw ke sn (tn c) 4 else (-1)
/-- the first other thing on a cell by which the slide stops in c (4: none) -/
def cuK (th : Nat → Int32) (co ro hh x w c a : Nat) : Nat := fstP (fun k => decide (nI k ≠ th a ∧ ren (upd th a (nI k)) co ro hh x w = c)) 4
def cuA (th : Nat → Int32) (co ro hh x w c : Nat) : Nat := fstP (fun a => decide (cuK th co ro hh x w c a < 4)) (ro * co)
def fCure (th : Nat → Int32) (co ro : Nat) (x w h c : Int32) : Int32 := if vRide co x w h ∧ vCell (ro * co) c then (if ren th co ro (tn h) (tn x) (tn w) = tn c then (-4) else if cuA th co ro (tn h) (tn x) (tn w) (tn c) < ro * co then nI (10 * cuA th co ro (tn h) (tn x) (tn w) (tn c) + cuK th co ro (tn h) (tn x) (tn w) (tn c) (cuA th co ro (tn h) (tn x) (tn w) (tn c))) else (-4)) else (-1)
/-- a winter's draws, and what one does -/
def drw (z i : Nat) : Nat := (7919 * z + 6151 * i + 1) * (7919 * z + 6151 * i + 1) % 65521 / 2
def wTh (co ro : Nat) (th : Nat → Int32) (d : Nat) : Nat → Int32 := if d / 64 % 4 = 0 then upd th (d % (ro * co)) (nI (d / 256 % 4)) else if d / 64 % 4 = 1 then sgm (d % (ro * co) / co * co) co fz th else th
def wOw (co ro : Nat) (th ow : Nat → Int32) (d : Nat) : Nat → Int32 := if d / 64 % 4 = 0 then ow else if d / 64 % 4 = 1 then ow else owB ow (nI (d / 16 % 4)) (rcl th co 0 (d % (ro * co) % co) (d / 256 % 20 + 1)) (rln th co ro 0 (d % (ro * co) % co) (d / 256 % 20 + 1))
def wSe (co ro : Nat) (th : Nat → Int32) (d : Nat) : Nat := if d / 64 % 4 = 0 then 0 else if d / 64 % 4 = 1 then 0 else if ren th co ro 0 (d % (ro * co) % co) (d / 256 % 20 + 1) = 99 then 1 else 0
/-- a winter by n things: what lies, whose it is, how many came to the sea -/
def wnt (co ro z : Nat) (th ow : Nat → Int32) : Nat → (Nat → Int32) × (Nat → Int32) × Nat
  | 0 => (th, ow, 0)
  | i + 1 => (wTh co ro (wnt co ro z th ow i).1 (drw z i), wOw co ro (wnt co ro z th ow i).1 (wnt co ro z th ow i).2.1 (drw z i), (wnt co ro z th ow i).2.2 + wSe co ro (wnt co ro z th ow i).1 (drw z i))
abbrev vWint (z n what : Int32) : Prop := (0 ≤ z.toInt ∧ z.toInt ≤ 9999) ∧ (1 ≤ n.toInt ∧ n.toInt ≤ 60) ∧ (0 ≤ what.toInt ∧ what.toInt ≤ 2)
def fWinter (th ow : Nat → Int32) (co ro : Nat) (z n what : Int32) : Int32 := if vWint z n what then (if what.toInt = 0 then nI (ro * co - cntP (fun k => decide ((wnt co ro (tn z) th ow (tn n)).2.1 k = nI 4)) (ro * co)) else if what.toInt = 1 then nI (cntP (fun k => decide ((wnt co ro (tn z) th ow (tn n)).1 k = nI 1)) (ro * co)) else nI (wnt co ro (tn z) th ow (tn n)).2.2) else (-1)
theorem upd_off {t f : Nat → Int32} {c : Nat} {x : Int32} (h : ∀ j, j ≠ c → t j = f j) : upd t c x = upd f c x := by
  funext j; unfold upd; split
  · rfl
  · rename_i e; exact h j e
theorem upd_back {t f : Nat → Int32} {c : Nat} (h : ∀ j, j ≠ c → t j = f j) : upd t c (f c) = f := by
  funext j; unfold upd; split
  · rename_i e; rw [e]
  · rename_i e; exact h j e
def fCount (th ow : Nat → Int32) (co ro : Nat) (sl : Int32) (sn sz zk tn : Nat) (what : Int32) : Int32 :=
  if what.toInt = 0 then nI (ro * co) else if what.toInt = 1 then nI co else if what.toInt = 2 then nI ro else if what.toInt = 3 then nI (ro * co - cntP (fun k => decide (ow k = nI 4)) (ro * co)) else if what.toInt = 4 then nI (cntP (fun k => decide (th k = nI 1)) (ro * co)) else if what.toInt = 5 then sl else if what.toInt = 6 then nI sn else if what.toInt = 7 then nI sz else if what.toInt = 8 then nI zk else if what.toInt = 9 then nI tn else (-1)
theorem drw_long (z i : Nat) (hz : z ≤ 9999) (hi : i ≤ 60) : ((((7919 : Int64) * (nI z).toInt64 + 6151 * (nI i).toInt64 + 1) * (7919 * (nI z).toInt64 + 6151 * (nI i).toInt64 + 1) - (7919 * (nI z).toInt64 + 6151 * (nI i).toInt64 + 1) * (7919 * (nI z).toInt64 + 6151 * (nI i).toInt64 + 1) / 65521 * 65521) / 2).toInt32 = nI (drw z i) := by
  have e : (7919 : Int64) * (nI z).toInt64 + 6151 * (nI i).toInt64 + 1 = lN (7919 * z + 6151 * i + 1) := by
    rw [nI_l (by omega), nI_l (by omega), show (7919 : Int64) = lN 7919 from rfl, show (6151 : Int64) = lN 6151 from rfl, lN_mul, lN_mul, lN_add, lN_1]
  have hb : (7919 * z + 6151 * i + 1) * (7919 * z + 6151 * i + 1) ≤ 80000000 * 80000000 := Nat.mul_le_mul (by omega) (by omega)
  rw [e, lN_mul, show (65521 : Int64) = lN 65521 from rfl, show (2 : Int64) = lN 2 from rfl, pk_lRem (by omega) (by decide) (by decide), pk_lDiv (by have := Nat.mod_lt ((7919 * z + 6151 * i + 1) * (7919 * z + 6151 * i + 1)) (show 0 < 65521 by decide); omega) (by decide) (by decide), lN_i]
  rfl
theorem drw_lt (z i : Nat) : drw z i < 32761 := by
  unfold drw
  have := Nat.mod_lt ((7919 * z + 6151 * i + 1) * (7919 * z + 6151 * i + 1)) (show 0 < 65521 by decide)
  omega
