/-! cells beside one another; pieces -/
abbrev adjB (co a b : Nat) : Prop := b = a + co ∨ a = b + co ∨ (a / co = b / co ∧ (b = a + 1 ∨ a = b + 1))
theorem adjB_symm {co a b : Nat} (h : adjB co a b) : adjB co b a := by
  rcases h with h | h | ⟨h, h2⟩
  · exact Or.inr (Or.inl h)
  · exact Or.inl h
  · exact Or.inr (Or.inr ⟨h.symm, h2.symm⟩)
theorem div_at {co q z : Nat} (h1 : co * q ≤ z) (h2 : z < co * q + co) : z / co = q :=
  Nat.div_eq_of_lt_le (by rw [Nat.mul_comm]; exact h1) (by rw [Nat.succ_mul, Nat.mul_comm]; exact h2)
theorem bsd_adj {co ro c b : Nat} (hc0 : 0 < co) (hc : c < ro * co) : (∃ d, d < 4 ∧ bsd co ro c d = some b) ↔ (b < ro * co ∧ adjB co c b) := by
  obtain ⟨q, eq⟩ : ∃ z, z = c / co := ⟨_, rfl⟩
  obtain ⟨m, em⟩ : ∃ z, z = c % co := ⟨_, rfl⟩
  have h1 : co * q + m = c := by rw [eq, em]; exact Nat.div_add_mod c co
  have h2 : m < co := by rw [em]; exact Nat.mod_lt c hc0
  have h3 : q < ro := by rw [eq]; exact (Nat.div_lt_iff_lt_mul hc0).mpr hc
  have h4 : co * q + co ≤ ro * co := by rw [Nat.mul_comm co q, ← Nat.succ_mul]; exact Nat.mul_le_mul_right co h3
  have h5 : q + 1 < ro → co * q + co + co ≤ ro * co := fun z => by have := Nat.mul_le_mul_right co (show q + 2 ≤ ro by omega); rw [Nat.add_mul, Nat.mul_comm q co] at this; omega
  have h6 : ro ≤ q + 1 → ro * co ≤ co * q + co := fun z => by have := Nat.mul_le_mul_right co z; rw [Nat.succ_mul, Nat.mul_comm q co] at this; exact this
  have h7 : 0 < q → co ≤ co * q := fun z => Nat.le_mul_of_pos_right co z
  unfold bsd
  rw [← eq, ← em]
  constructor
  · rintro ⟨d, hd, h⟩
    rcases (show d = 0 ∨ d = 1 ∨ d = 2 ∨ d = 3 by omega) with rfl | rfl | rfl | rfl
    · rw [if_pos rfl] at h
      split at h
      · cases h
        refine ⟨by omega, Or.inr (Or.inr ⟨?_, by omega⟩)⟩
        rw [div_at (z := c - 1) (q := q) (by omega) (by omega)]; exact eq.symm
      · cases h
    · rw [if_neg (by decide), if_pos rfl] at h
      split at h
      · cases h
        refine ⟨by omega, Or.inr (Or.inr ⟨?_, by omega⟩)⟩
        rw [div_at (z := c + 1) (q := q) (by omega) (by omega)]; exact eq.symm
      · cases h
    · rw [if_neg (by decide), if_neg (by decide), if_pos rfl] at h
      split at h
      · rename_i z
        have := h7 z
        cases h
        exact ⟨by omega, Or.inr (Or.inl (by omega))⟩
      · cases h
    · rw [if_neg (by decide), if_neg (by decide), if_neg (by decide)] at h
      split at h
      · rename_i z
        have := h5 z
        cases h
        exact ⟨by omega, Or.inl rfl⟩
      · cases h
  · rintro ⟨hb, h | h | ⟨h, h' | h'⟩⟩
    · refine ⟨3, by decide, ?_⟩
      rw [if_neg (by decide), if_neg (by decide), if_neg (by decide), if_pos ?_, h]
      rcases Nat.lt_or_ge (q + 1) ro with z | z
      · exact z
      · have := h6 z; omega
    · refine ⟨2, by decide, ?_⟩
      rw [if_neg (by decide), if_neg (by decide), if_pos rfl, if_pos ?_]
      · exact congrArg some (by omega)
      · rcases Nat.eq_zero_or_pos q with z | z
        · rw [z, Nat.mul_zero] at h1; omega
        · exact z
    · refine ⟨1, by decide, ?_⟩
      rw [if_neg (by decide), if_pos rfl, if_pos ?_, h']
      have g1 := Nat.div_add_mod (c + 1) co
      have g2 := Nat.mod_lt (c + 1) hc0
      rw [← h', ← h, ← eq, h'] at g1
      omega
    · refine ⟨0, by decide, ?_⟩
      rw [if_pos rfl, if_pos ?_]
      · exact congrArg some (by omega)
      · have g1 := Nat.div_add_mod b co
        rw [← h, ← eq] at g1
        omega
def rch (E : Nat → Nat → Prop) : Nat → Nat → Nat → Prop
  | 0, a, b => a = b
  | k + 1, a, b => ∃ c, rch E k a c ∧ E c b
def cnn (E : Nat → Nat → Prop) (a b : Nat) : Prop := ∃ k, rch E k a b
theorem cnn_refl (E : Nat → Nat → Prop) (a : Nat) : cnn E a a := ⟨0, rfl⟩
theorem cnn_step {E : Nat → Nat → Prop} {a c b : Nat} (h : cnn E a c) (he : E c b) : cnn E a b := by
  obtain ⟨k, hk⟩ := h; exact ⟨k + 1, c, hk, he⟩
theorem cnn_tr {E : Nat → Nat → Prop} {a b : Nat} (h : cnn E a b) : ∀ (k c : Nat), rch E k b c → cnn E a c
  | 0, c, e => by have e : b = c := e; rw [← e]; exact h
  | k + 1, c, ⟨d, hd, he⟩ => cnn_step (cnn_tr h k d hd) he
theorem cnn_trans {E : Nat → Nat → Prop} {a b c : Nat} (h : cnn E a b) (h2 : cnn E b c) : cnn E a c := by
  obtain ⟨k, hk⟩ := h2; exact cnn_tr h k c hk
theorem cnn_symm {E : Nat → Nat → Prop} (hs : ∀ a b, E a b → E b a) : ∀ (k a b : Nat), rch E k a b → cnn E b a
  | 0, a, b, e => by have e : a = b := e; rw [e]; exact cnn_refl E b
  | k + 1, a, b, ⟨c, hc, he⟩ => cnn_trans (cnn_step (cnn_refl E b) (hs c b he)) (cnn_symm hs k a c hc)
def eG (ow : Nat → Int32) (f : Int32) (co ro c b : Nat) : Prop := c < ro * co ∧ b < ro * co ∧ ow c = f ∧ ow b = f ∧ adjB co c b
theorem eG_symm {ow : Nat → Int32} {f : Int32} {co ro c b : Nat} (h : eG ow f co ro c b) : eG ow f co ro b c := ⟨h.2.1, h.1, h.2.2.2.1, h.2.2.1, adjB_symm h.2.2.2.2⟩
theorem eG_first {ow : Nat → Int32} {f : Int32} {co ro : Nat} : ∀ (k a b : Nat), rch (eG ow f co ro) k a b → a = b ∨ ow a = f
  | 0, a, b, e => Or.inl e
  | k + 1, a, b, ⟨c, hc, he⟩ => by
    rcases eG_first k a c hc with e | e
    · rw [e]; exact Or.inr he.2.2.1
    · exact Or.inr e
noncomputable def pcB (ow : Nat → Int32) (f : Int32) (co ro : Nat) : Nat → Bool := fun c => @decide (ow c = f ∧ ∀ d, d < c → ¬ cnn (eG ow f co ro) d c) (Classical.propDecidable _)
theorem pcB_iff {ow : Nat → Int32} {f : Int32} {co ro c : Nat} : pcB ow f co ro c = true ↔ (ow c = f ∧ ∀ d, d < c → ¬ cnn (eG ow f co ro) d c) := by
  unfold pcB; exact @decide_eq_true_iff _ (Classical.propDecidable _)
noncomputable def pcN (ow : Nat → Int32) (f : Int32) (co ro : Nat) : Nat := cntP (pcB ow f co ro) (ro * co)
noncomputable def fPieces (ow : Nat → Int32) (co ro : Nat) (f : Int32) : Int32 := if vSide f then nI (pcN ow f co ro) else (-1)
theorem pc_same {ow : Nat → Int32} {f : Int32} {co ro : Nat} {m : Nat → Nat} (h2 : ∀ a b, eG ow f co ro a b → m a ≤ m b) : ∀ (k a b : Nat), rch (eG ow f co ro) k a b → m a = m b
  | 0, a, b, e => by have e : a = b := e; rw [e]
  | k + 1, a, b, ⟨c, hc, he⟩ => (pc_same h2 k a c hc).trans (Nat.le_antisymm (h2 c b he) (h2 b c (eG_symm he)))
theorem pc_fix {ow : Nat → Int32} {f : Int32} {co ro : Nat} {m : Nat → Nat} (h1 : ∀ j, j < ro * co → m j ≤ j ∧ cnn (eG ow f co ro) (m j) j) (h2 : ∀ a b, eG ow f co ro a b → m a ≤ m b) {c : Nat} (hc : c < ro * co) : m c = c ↔ ∀ d, d < c → ¬ cnn (eG ow f co ro) d c := by
  constructor
  · intro e d hd hcn
    obtain ⟨k, hk⟩ := hcn
    have h3 := pc_same h2 k d c hk
    have h4 := (h1 d (by omega)).1
    omega
  · intro h
    obtain ⟨h3, h4⟩ := h1 c hc
    rcases Nat.lt_or_ge (m c) c with q | q
    · exact absurd h4 (h _ q)
    · omega
abbrev MKd (mk : Nat → Int32) (c : Nat) : Prop := (mk c).toInt ≠ 0
theorem mk_up {mk : Nat → Int32} {b c : Nat} : MKd (upd mk b (nI 1)) c ↔ (c = b ∨ MKd mk c) := by
  unfold MKd upd
  by_cases e : c = b
  · rw [if_pos e]; exact ⟨fun _ => Or.inl e, fun _ => by decide⟩
  · rw [if_neg e]; exact ⟨Or.inr, fun h => h.resolve_left e⟩
theorem cntP_up {p q : Nat → Bool} {b : Nat} : ∀ {n : Nat}, b < n → (∀ k, k < n → k ≠ b → q k = p k) → p b = false → q b = true → cntP q n = cntP p n + 1
  | 0, h, _, _, _ => absurd h (Nat.not_lt_zero b)
  | n + 1, h, hk, hp, hq => by
    by_cases e : b = n
    · subst e
      rw [cntP_yes hq, cntP_no (by rw [hp]; decide), cntP_cong (fun k h1 => hk k (by omega) (by omega))]
    · rw [cntP_s, cntP_s, cntP_up (by omega) (fun k h1 h2 => hk k (by omega) h2) hp hq, hk n (by omega) (fun z => e z.symm)]; omega
theorem cntP_lt {p : Nat → Bool} {b : Nat} : ∀ {n : Nat}, b < n → p b = false → cntP p n < n
  | 0, h, _ => absurd h (Nat.not_lt_zero b)
  | n + 1, h, hp => by
    by_cases e : b = n
    · subst e
      have := cntP_le p b
      rw [cntP_no (by rw [hp]; decide)]; omega
    · have := cntP_lt (n := n) (by omega) hp
      rw [cntP_s]; split <;> omega
theorem nI_inj {a b : Nat} (ha : a < 2147483648) (hb : b < 2147483648) (h : nI a = nI b) : a = b := (nI_eq ha hb).mp h
section MP
variable {ow : Nat → Int32} {f : Int32} {co ro s : Nat} {mk mk1 wg : Nat → Int32} {wn t c dr b : Nat}
def MI (ow : Nat → Int32) (f : Int32) (co ro s : Nat) (mk mk1 wg : Nat → Int32) (wn : Nat) : Prop := (∀ k, k < wn → ∃ j, wg k = nI j ∧ j < ro * co ∧ MKd mk1 j) ∧ (∀ c, c < ro * co → MKd mk c → MKd mk1 c) ∧ (∀ c, c < ro * co → MKd mk1 c → MKd mk c ∨ cnn (eG ow f co ro) s c) ∧ MKd mk1 s
def MD (ow : Nat → Int32) (f : Int32) (co ro : Nat) (mk1 wg : Nat → Int32) (wn : Nat) : Prop := ∀ c, c < ro * co → MKd mk1 c → (∃ k, k < wn ∧ wg k = nI c) ∨ ∀ b, eG ow f co ro c b → MKd mk1 b
def MD2 (ow : Nat → Int32) (f : Int32) (co ro c dr : Nat) (mk1 wg : Nat → Int32) (wn : Nat) : Prop := (∀ c2, c2 < ro * co → MKd mk1 c2 → c2 ≠ c → (∃ k, k < wn ∧ wg k = nI c2) ∨ ∀ b, eG ow f co ro c2 b → MKd mk1 b) ∧ (∀ d, d < dr → ∀ b, bsd co ro c d = some b → ow b = f → MKd mk1 b)
def MC (n : Nat) (mk mk1 : Nat → Int32) : Nat := cntP (fun c => decide (MKd mk1 c ∧ ¬ MKd mk c)) n
theorem mc_up (hb : b < ro * co) (h1 : ¬ MKd mk1 b) (h0 : ¬ MKd mk b) : MC (ro * co) mk (upd mk1 b (nI 1)) = MC (ro * co) mk mk1 + 1 := by
  refine cntP_up hb (fun k hk e => ?_) (decide_eq_false (fun z => h1 z.1)) (decide_eq_true ⟨mk_up.mpr (Or.inl rfl), h0⟩)
  by_cases z : MKd mk1 k ∧ ¬ MKd mk k
  · rw [decide_eq_true z, decide_eq_true ⟨mk_up.mpr (Or.inr z.1), z.2⟩]
  · rw [decide_eq_false z, decide_eq_false (fun y => z ⟨(mk_up.mp y.1).resolve_left e, y.2⟩)]
theorem mp_start (hs : s < ro * co) (h0 : ¬ MKd mk s) (hcl : ∀ c b, eG ow f co ro c b → MKd mk c → MKd mk b) : MI ow f co ro s mk (upd mk s (nI 1)) (upd wg 0 (nI s)) (0 + 1) ∧ MD ow f co ro (upd mk s (nI 1)) (upd wg 0 (nI s)) (0 + 1) ∧ EqN (MC (ro * co) mk (upd mk s (nI 1))) (0 + (0 + 1)) := by
  refine ⟨⟨fun k hk => ⟨s, by rw [show k = 0 by omega]; exact upd_at _ _ _, hs, mk_up.mpr (Or.inl rfl)⟩, fun c _ h => mk_up.mpr (Or.inr h), fun c _ h => ?_, mk_up.mpr (Or.inl rfl)⟩, fun c _ h => ?_, ?_⟩
  · rcases mk_up.mp h with e | e
    · rw [e]; exact Or.inr (cnn_refl _ _)
    · exact Or.inl e
  · rcases mk_up.mp h with e | e
    · exact Or.inl ⟨0, by omega, by rw [e]; exact upd_at _ _ _⟩
    · exact Or.inr (fun b hb => mk_up.mpr (Or.inr (hcl c b hb e)))
  · refine .mk ?_
    rw [mc_up hs h0 h0]
    have : MC (ro * co) mk mk = 0 := by
      unfold MC
      have : ∀ n, cntP (fun c => decide (MKd mk c ∧ ¬ MKd mk c)) n = 0 := fun n => by
        induction n with
        | zero => rfl
        | succ n ih => rw [cntP_no (fun z => (of_decide_eq_true z).2 (of_decide_eq_true z).1)]; exact ih
      exact this _
    rw [this]
theorem mp_pop (hn : ro * co ≤ 48) (hc : c < ro * co) (h1 : 1 ≤ wn) (hw : wg (wn - 1) = nI c) (hI : MI ow f co ro s mk mk1 wg wn) (hD : MD ow f co ro mk1 wg wn) : MI ow f co ro s mk mk1 wg (wn - 1) ∧ MD2 ow f co ro c 0 mk1 wg (wn - 1) := by
  refine ⟨⟨fun k hk => hI.1 k (by omega), hI.2⟩, fun c2 hc2 hm e => ?_, fun d hd => absurd hd (Nat.not_lt_zero d)⟩
  rcases hD c2 hc2 hm with ⟨k, hk, ek⟩ | h
  · refine Or.inl ⟨k, ?_, ek⟩
    rcases Nat.lt_or_ge k (wn - 1) with z | z
    · exact z
    · rw [show k = wn - 1 by omega, hw] at ek
      exact absurd (nI_inj (by omega) (by omega) ek).symm e
  · exact Or.inr h
theorem mp_push (hc0 : 0 < co) (hc : c < ro * co) (hb : b < ro * co) (ho : ow b = f) (hco : ow c = f) (hcs : MKd mk c ∨ cnn (eG ow f co ro) s c) (hcl : ∀ c b, eG ow f co ro c b → MKd mk c → MKd mk b) (hbs : bsd co ro c dr = some b) (hd : dr < 4) (h0 : ¬ MKd mk1 b) (hI : MI ow f co ro s mk mk1 wg wn) (hD : MD2 ow f co ro c dr mk1 wg wn) : MI ow f co ro s mk (upd mk1 b (nI 1)) (upd wg wn (nI b)) (wn + 1) ∧ MD2 ow f co ro c (dr + 1) (upd mk1 b (nI 1)) (upd wg wn (nI b)) (wn + 1) ∧ MC (ro * co) mk (upd mk1 b (nI 1)) = MC (ro * co) mk mk1 + 1 := by
  obtain ⟨i1, i2, i3, i4⟩ := hI
  have hE : eG ow f co ro c b := ⟨hc, hb, hco, ho, ((bsd_adj hc0 hc).mp ⟨dr, hd, hbs⟩).2⟩
  have hn0 : ¬ MKd mk b := fun z => h0 (i2 b hb z)
  refine ⟨⟨fun k hk => ?_, fun z hz h => mk_up.mpr (Or.inr (i2 z hz h)), fun z hz h => ?_, mk_up.mpr (Or.inr i4)⟩, ⟨fun c2 hc2 hm e => ?_, fun d hdd b2 hb2 ho2 => ?_⟩, mc_up hb h0 hn0⟩
  · by_cases e : k = wn
    · rw [e]; exact ⟨b, upd_at _ _ _, hb, mk_up.mpr (Or.inl rfl)⟩
    · obtain ⟨j, j1, j2, j3⟩ := i1 k (by omega)
      exact ⟨j, by rw [upd_ne _ _ e]; exact j1, j2, mk_up.mpr (Or.inr j3)⟩
  · rcases mk_up.mp h with e | e
    · rw [e]
      rcases hcs with z2 | z2
      · exact absurd (hcl c b hE z2) hn0
      · exact Or.inr (cnn_step z2 hE)
    · exact i3 z hz e
  · rcases mk_up.mp hm with e2 | e2
    · exact Or.inl ⟨wn, by omega, by rw [e2]; exact upd_at _ _ _⟩
    · rcases hD.1 c2 hc2 e2 e with ⟨k, hk, ek⟩ | h
      · exact Or.inl ⟨k, by omega, by rw [upd_ne _ _ (by omega)]; exact ek⟩
      · exact Or.inr (fun b2 hb2 => mk_up.mpr (Or.inr (h b2 hb2)))
  · by_cases e : d = dr
    · rw [e, hbs] at hb2
      cases hb2
      exact mk_up.mpr (Or.inl rfl)
    · exact mk_up.mpr (Or.inr (hD.2 d (by omega) b2 hb2 ho2))
theorem mp_stay (hD : MD2 ow f co ro c dr mk1 wg wn) (h : ∀ b, bsd co ro c dr = some b → ow b = f → MKd mk1 b) : MD2 ow f co ro c (dr + 1) mk1 wg wn := by
  refine ⟨hD.1, fun d hd b hb ho => ?_⟩
  by_cases e : d = dr
  · rw [e] at hb; exact h b hb ho
  · exact hD.2 d (by omega) b hb ho
theorem mp_done (hc0 : 0 < co) (h4 : 4 ≤ dr) (hD : MD2 ow f co ro c dr mk1 wg wn) : MD ow f co ro mk1 wg wn := fun c2 hc2 hm => by
  by_cases e : c2 = c
  · refine Or.inr (fun b hb => ?_)
    rw [e] at hb
    obtain ⟨d, hd, hbs⟩ := (bsd_adj hc0 hb.1).mpr ⟨hb.2.1, hb.2.2.2.2⟩
    exact hD.2 d (by omega) b hbs hb.2.2.2.1
  · exact hD.1 c2 hc2 hm e
theorem mp_end (hI : MI ow f co ro s mk mk1 wg 0) (hD : MD ow f co ro mk1 wg 0) : ∀ c, c < ro * co → (MKd mk1 c ↔ (MKd mk c ∨ cnn (eG ow f co ro) s c)) := by
  obtain ⟨_, i2, i3, i4⟩ := hI
  have hcl : ∀ c b, eG ow f co ro c b → MKd mk1 c → MKd mk1 b := fun c b he hm => by
    rcases hD c he.1 hm with ⟨k, hk, _⟩ | h
    · exact absurd hk (Nat.not_lt_zero k)
    · exact h b he
  have hr : ∀ (k c : Nat), rch (eG ow f co ro) k s c → MKd mk1 c := fun k => by
    induction k with
    | zero => intro c e; have e : s = c := e; rw [← e]; exact i4
    | succ k ih => intro c ⟨d, hd, he⟩; exact hcl d c he (ih d hd)
  intro c hc
  refine ⟨i3 c hc, fun h => ?_⟩
  rcases h with h | ⟨k, h⟩
  · exact i2 c hc h
  · exact hr k c h
/-- what is marked when all cells below i have been looked at -/
def PM (ow : Nat → Int32) (f : Int32) (co ro i : Nat) (mk : Nat → Int32) : Prop := ∀ c, c < ro * co → (MKd mk c ↔ (ow c = f ∧ ∃ d, d < i ∧ ow d = f ∧ cnn (eG ow f co ro) d c))
theorem pm_0 : PM ow f co ro 0 (fun _ => nI 0) := fun c _ => ⟨fun h => absurd rfl h, fun ⟨_, d, hd, _⟩ => absurd hd (Nat.not_lt_zero d)⟩
theorem cnn_own {a : Nat} (ha : ow a = f) : ∀ (k c : Nat), rch (eG ow f co ro) k a c → ow c = f
  | 0, c, e => by have e : a = c := e; rw [← e]; exact ha
  | k + 1, c, ⟨d, hd, he⟩ => he.2.2.2.1
theorem pm_cl {i : Nat} (h : PM ow f co ro i mk) : ∀ c b, eG ow f co ro c b → MKd mk c → MKd mk b := fun c b he hm => by
  obtain ⟨_, d, hd, ho, hcn⟩ := (h c he.1).mp hm
  exact (h b he.2.1).mpr ⟨he.2.2.2.1, d, hd, ho, cnn_step hcn he⟩
theorem pm_new {i : Nat} (hi : i < ro * co) (ho : ow i = f) (h : PM ow f co ro i mk) (h2 : ∀ c, c < ro * co → (MKd mk1 c ↔ (MKd mk c ∨ cnn (eG ow f co ro) i c))) : PM ow f co ro (i + 1) mk1 := fun c hc => by
  rw [h2 c hc, h c hc]
  constructor
  · rintro (⟨z1, d, z2, z3, z4⟩ | ⟨k, z⟩)
    · exact ⟨z1, d, by omega, z3, z4⟩
    · exact ⟨cnn_own ho k c z, i, by omega, ho, ⟨k, z⟩⟩
  · rintro ⟨z1, d, z2, z3, z4⟩
    by_cases e : d = i
    · rw [e] at z4; exact Or.inr z4
    · exact Or.inl ⟨z1, d, by omega, z3, z4⟩
theorem pm_old {i : Nat} (hi : i < ro * co) (h : PM ow f co ro i mk) (h2 : ow i = f → MKd mk i) : PM ow f co ro (i + 1) mk := fun c hc => by
  rw [h c hc]
  constructor
  · rintro ⟨z1, d, z2, z3, z4⟩; exact ⟨z1, d, by omega, z3, z4⟩
  · rintro ⟨z1, d, z2, z3, z4⟩
    by_cases e : d = i
    · rw [e] at z3 z4
      obtain ⟨_, d2, w2, w3, w4⟩ := (h i hi).mp (h2 z3)
      exact ⟨z1, d2, w2, w3, cnn_trans w4 z4⟩
    · exact ⟨z1, d, by omega, z3, z4⟩
theorem pm_yes {i : Nat} (hi : i < ro * co) (ho : ow i = f) (h : PM ow f co ro i mk) (h0 : ¬ MKd mk i) : pcB ow f co ro i = true := pcB_iff.mpr ⟨ho, fun d hd ⟨k, hk⟩ => h0 ((h i hi).mpr ⟨ho, d, hd, (eG_first k d i hk).resolve_left (by omega), ⟨k, hk⟩⟩)⟩
theorem pm_no {i : Nat} (hi : i < ro * co) (h : PM ow f co ro i mk) (h2 : ow i = f → MKd mk i) : ¬ pcB ow f co ro i = true := fun z => by
  obtain ⟨z1, z2⟩ := pcB_iff.mp z
  obtain ⟨_, d, w2, _, w4⟩ := (h i hi).mp (h2 z1)
  exact z2 d w2 w4
end MP
