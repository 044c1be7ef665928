/-! the least bridge -/
def csN (ow : Nat → Int32) (f : Int32) (e : Nat) : Nat := if ow e = f then 0 else 1
theorem csN_le (ow : Nat → Int32) (f : Int32) (e : Nat) : csN ow f e ≤ 1 := by unfold csN; split <;> omega
def wlk (ow : Nat → Int32) (f : Int32) (co ro a : Nat) : Nat → Nat → Nat → Prop
  | 0, e, v => e = a ∧ v = 0
  | k + 1, e, v => ∃ c u, wlk ow f co ro a k c u ∧ c < ro * co ∧ e < ro * co ∧ adjB co c e ∧ v = u + csN ow f e
def wex (ow : Nat → Int32) (f : Int32) (co ro a e v : Nat) : Prop := ∃ k, wlk ow f co ro a k e v
def brD (ow : Nat → Int32) (f : Int32) (co ro a e v : Nat) : Prop := wex ow f co ro a e v ∧ ∀ u, wex ow f co ro a e u → v ≤ u
theorem least_of {P : Nat → Prop} : ∀ v, P v → ∃ w, P w ∧ ∀ u, P u → w ≤ u := fun v => by
  induction v using Nat.strongRecOn with
  | ind v ih =>
    intro hv
    rcases Classical.em (∃ u, u < v ∧ P u) with ⟨u, h1, h2⟩ | h
    · exact ih u h1 h2
    · exact ⟨v, hv, fun u hu => Nat.not_lt.mp (fun z => h ⟨u, z, hu⟩)⟩
noncomputable def brN (ow : Nat → Int32) (f : Int32) (co ro a e : Nat) : Nat := @Classical.epsilon Nat ⟨0⟩ (brD ow f co ro a e)
theorem cell_prev {co ro e : Nat} (hc0 : 0 < co) (he : e < ro * co) (h0 : 0 < e) : ∃ p, p < e ∧ p / co + p % co + 1 = e / co + e % co ∧ adjB co p e ∧ adjB co e p := by
  obtain ⟨q, eq⟩ : ∃ z, z = e / co := ⟨_, rfl⟩
  obtain ⟨m, em⟩ : ∃ z, z = e % co := ⟨_, rfl⟩
  have h1 : co * q + m = e := by rw [eq, em]; exact Nat.div_add_mod e co
  have h2 : m < co := by rw [em]; exact Nat.mod_lt e hc0
  rw [← eq, ← em]
  rcases Nat.eq_zero_or_pos q with z | z
  · rw [z, Nat.mul_zero] at h1
    have g : (e - 1) / co = 0 := div_at (q := 0) (by omega) (by omega)
    have g2 := Nat.div_add_mod (e - 1) co
    rw [g, Nat.mul_zero] at g2
    have ad : adjB co (e - 1) e := Or.inr (Or.inr ⟨by rw [g, ← eq, z], by omega⟩)
    exact ⟨e - 1, by omega, by omega, ad, adjB_symm ad⟩
  · obtain ⟨r, hr⟩ : ∃ r, q = r + 1 := ⟨q - 1, by omega⟩
    rw [hr, Nat.mul_succ] at h1
    have g : (e - co) / co = r := div_at (by omega) (by omega)
    have g2 := Nat.div_add_mod (e - co) co
    rw [g] at g2
    have ad : adjB co (e - co) e := Or.inl (by omega)
    exact ⟨e - co, by omega, by omega, ad, adjB_symm ad⟩
section BR
variable {ow : Nat → Int32} {f : Int32} {co ro a : Nat}
theorem wlk_in (ha : a < ro * co) : ∀ (k e v : Nat), wlk ow f co ro a k e v → e < ro * co
  | 0, e, v, h => by rw [h.1]; exact ha
  | k + 1, e, v, ⟨c, u, _, _, h, _⟩ => h
theorem wex_ext (ha : a < ro * co) {c e u : Nat} (h : wex ow f co ro a c u) (he : e < ro * co) (hadj : adjB co c e) : wex ow f co ro a e (u + csN ow f e) := by
  obtain ⟨k, hk⟩ := h
  exact ⟨k + 1, c, u, hk, wlk_in ha k c u hk, he, hadj, rfl⟩
theorem wl_dn (hc0 : 0 < co) (ha : a < ro * co) : ∀ (n x v : Nat), x / co + x % co = n → x < ro * co → wex ow f co ro a x v → ∃ v2, wex ow f co ro a 0 v2 ∧ v2 ≤ v + n
  | 0, x, v, hn, hx, h => by
    have h1 := Nat.div_add_mod x co
    rw [(Nat.add_eq_zero_iff.mp hn).1, Nat.mul_zero, (Nat.add_eq_zero_iff.mp hn).2] at h1
    exact ⟨v, by rw [← h1] at h; exact h, by omega⟩
  | n + 1, x, v, hn, hx, h => by
    have h0 : 0 < x := by
      rcases Nat.eq_zero_or_pos x with z | z
      · rw [z, Nat.zero_div, Nat.zero_mod] at hn; omega
      · exact z
    obtain ⟨p, p1, p2, p3, p4⟩ := cell_prev hc0 hx h0
    have hcs := csN_le ow f p
    obtain ⟨v2, g1, g2⟩ := wl_dn hc0 ha n p (v + csN ow f p) (by omega) (by omega) (wex_ext ha h (by omega) p4)
    exact ⟨v2, g1, by omega⟩
theorem wl_up (hc0 : 0 < co) (ha : a < ro * co) {V : Nat} (h0 : wex ow f co ro a 0 V) : ∀ (n e : Nat), e / co + e % co = n → e < ro * co → ∃ v, wex ow f co ro a e v ∧ v ≤ V + n
  | 0, e, hn, he => by
    have h1 := Nat.div_add_mod e co
    rw [(Nat.add_eq_zero_iff.mp hn).1, Nat.mul_zero, (Nat.add_eq_zero_iff.mp hn).2] at h1
    exact ⟨V, by rw [← h1]; exact h0, by omega⟩
  | n + 1, e, hn, he => by
    have h1 : 0 < e := by
      rcases Nat.eq_zero_or_pos e with z | z
      · rw [z, Nat.zero_div, Nat.zero_mod] at hn; omega
      · exact z
    obtain ⟨p, p1, p2, p3, p4⟩ := cell_prev hc0 he h1
    have hcs := csN_le ow f e
    obtain ⟨v, g1, g2⟩ := wl_up hc0 ha h0 n p (by omega) (by omega)
    exact ⟨v + csN ow f e, wex_ext ha g1 he p3, by omega⟩
theorem wl_all (hc0 : 0 < co) (hco : co ≤ 6) (hro : ro ≤ 8) (ha : a < ro * co) {e : Nat} (he : e < ro * co) : ∃ v, wex ow f co ro a e v ∧ v ≤ 24 := by
  have a1 := (Nat.div_lt_iff_lt_mul hc0).mpr ha
  have a2 := Nat.mod_lt a hc0
  have e1 := (Nat.div_lt_iff_lt_mul hc0).mpr he
  have e2 := Nat.mod_lt e hc0
  obtain ⟨v, g1, g2⟩ := wl_dn hc0 ha (a / co + a % co) a 0 rfl ha ⟨0, rfl, rfl⟩
  obtain ⟨v2, g3, g4⟩ := wl_up hc0 ha g1 (e / co + e % co) e rfl he
  exact ⟨v2, g3, by omega⟩
theorem brN_spec (hc0 : 0 < co) (hco : co ≤ 6) (hro : ro ≤ 8) (ha : a < ro * co) {e : Nat} (he : e < ro * co) : brD ow f co ro a e (brN ow f co ro a e) ∧ brN ow f co ro a e ≤ 24 := by
  obtain ⟨v, g1, g2⟩ := wl_all (ow := ow) (f := f) hc0 hco hro ha he
  obtain ⟨w, h1, h2⟩ := least_of v g1
  have hsp : brD ow f co ro a e (brN ow f co ro a e) := @Classical.epsilon_spec Nat (brD ow f co ro a e) ⟨w, h1, h2⟩
  exact ⟨hsp, Nat.le_trans (hsp.2 v g1) g2⟩
/-- marks that are lengths of ways, or X -/
def BM (ow : Nat → Int32) (f : Int32) (co ro a X : Nat) (m : Nat → Nat) : Prop := m a = 0 ∧ ∀ e, e < ro * co → m e ≤ X ∧ (m e < X → wex ow f co ro a e (m e))
theorem bm_up {X : Nat} {m : Nat → Nat} {c e : Nat} (ha : a < ro * co) (hX : 48 ≤ X) (hc : c < ro * co) (he : e < ro * co) (hadj : adjB co c e) (hlt : m c + csN ow f e < m e) (h : BM ow f co ro a X m) : BM ow f co ro a X (va_up m e (m c + csN ow f e)) := by
  have hea : a ≠ e := fun z => by rw [← z, h.1] at hlt; omega
  have hme := (h.2 e he).1
  refine ⟨by unfold va_up; rw [if_neg hea]; exact h.1, fun j hj => ?_⟩
  unfold va_up
  by_cases z : j = e
  · rw [if_pos z, z]
    exact ⟨by omega, fun _ => wex_ext ha ((h.2 c hc).2 (by omega)) he hadj⟩
  · rw [if_neg z]; exact h.2 j hj
theorem bm_0 (X : Nat) (m : Nat → Nat) (h0 : m a = 0) (h1 : ∀ e, e ≠ a → m e = X) : BM ow f co ro a X m := by
  refine ⟨h0, fun e _ => ?_⟩
  by_cases z : e = a
  · rw [z, h0]; exact ⟨Nat.zero_le _, fun _ => ⟨0, rfl, rfl⟩⟩
  · rw [h1 e z]; exact ⟨Nat.le_refl _, fun q => absurd q (Nat.lt_irrefl _)⟩
theorem br_low {m : Nat → Nat} (h0 : m a = 0) (hfx : ∀ c e, c < ro * co → e < ro * co → adjB co c e → m e ≤ m c + csN ow f e) : ∀ (k e u : Nat), wlk ow f co ro a k e u → m e ≤ u
  | 0, e, u, h => by rw [h.1, h0]; exact Nat.zero_le _
  | k + 1, e, u, ⟨c, v, h1, h2, h3, h4, h5⟩ => by
    have := br_low h0 hfx k c v h1
    have := hfx c e h2 h3 h4
    omega
theorem br_fin {m : Nat → Nat} {X b : Nat} (hc0 : 0 < co) (hco : co ≤ 6) (hro : ro ≤ 8) (ha : a < ro * co) (hX : 48 ≤ X) (hb : b < ro * co) (h : BM ow f co ro a X m) (hfx : ∀ c e, c < ro * co → e < ro * co → adjB co c e → m e ≤ m c + csN ow f e) : m b = brN ow f co ro a b := by
  obtain ⟨⟨⟨k, h1⟩, h2⟩, h3⟩ := brN_spec (ow := ow) (f := f) hc0 hco hro ha hb
  have g1 := br_low h.1 hfx k b _ h1
  have g2 := h2 _ ((h.2 b hb).2 (by omega))
  omega
noncomputable def fBridge (ow : Nat → Int32) (co ro : Nat) (f a b : Int32) : Int32 := if vSide f ∧ vCell (ro * co) a ∧ vCell (ro * co) b then (if ow (tn a) = f ∧ ow (tn b) = f then nI (brN ow f co ro (tn a) (tn b)) else (-2)) else (-1)
/-- how many marks are least already -/
noncomputable def brS (ow : Nat → Int32) (f : Int32) (co ro a : Nat) (m : Nat → Nat) : Nat := cntP (fun e => decide (m e = brN ow f co ro a e)) (ro * co)
theorem cntP_more {p q : Nat → Bool} {b : Nat} : ∀ {n : Nat}, b < n → (∀ k, k < n → p k = true → q k = true) → p b = false → q b = true → cntP p n + 1 ≤ cntP q n
  | 0, h, _, _, _ => absurd h (Nat.not_lt_zero b)
  | n + 1, h, hk, hp, hq => by
    have hmono : ∀ j, j ≤ n → cntP p j ≤ cntP q j := fun j => by
      induction j with
      | zero => intro _; exact Nat.le_refl _
      | succ j ih =>
        intro hj
        have i1 := ih (by omega)
        rw [cntP_s, cntP_s]
        by_cases z : p j = true
        · rw [if_pos z, if_pos (hk j (by omega) z)]; omega
        · rw [if_neg z]; split <;> omega
    by_cases e : b = n
    · subst e
      have := hmono b (Nat.le_refl _)
      rw [cntP_yes hq, cntP_no (by rw [hp]; decide)]; omega
    · have ih := cntP_more (n := n) (by omega) (fun k h1 => hk k (by omega)) hp hq
      rw [cntP_s, cntP_s]
      by_cases z : p n = true
      · rw [if_pos z, if_pos (hk n (by omega) z)]; omega
      · rw [if_neg z]; split <;> omega
theorem cntP_ex {p : Nat → Bool} : ∀ {n : Nat}, cntP p n < n → ∃ k, k < n ∧ p k = false
  | 0, h => absurd h (Nat.not_lt_zero _)
  | n + 1, h => by
    cases z : p n with
    | false => exact ⟨n, by omega, z⟩
    | true =>
      rw [cntP_yes z] at h
      obtain ⟨k, h1, h2⟩ := cntP_ex (n := n) (p := p) (by omega)
      exact ⟨k, by omega, h2⟩
theorem cntP_all {p : Nat → Bool} {n : Nat} (h : n ≤ cntP p n) : ∀ k, k < n → p k = true := fun k hk => by
  cases z : p k with
  | true => rfl
  | false => have := cntP_lt hk z; omega
theorem br_edge {m : Nat → Nat} (hc0 : 0 < co) (hco : co ≤ 6) (hro : ro ≤ 8) (ha : a < ro * co) (h0 : m a = 0) : ∀ (k e : Nat), e < ro * co → wlk ow f co ro a k e (brN ow f co ro a e) → m e ≠ brN ow f co ro a e → ∃ c e2, c < ro * co ∧ e2 < ro * co ∧ m c = brN ow f co ro a c ∧ m e2 ≠ brN ow f co ro a e2 ∧ adjB co c e2 ∧ brN ow f co ro a e2 = brN ow f co ro a c + csN ow f e2
  | 0, e, he, h, hn => by rw [h.1] at hn; have h2 := h.2; rw [h.1] at h2; rw [h0, h2] at hn; exact absurd rfl hn
  | k + 1, e, he, ⟨c, u, h1, h2, h3, h4, h5⟩, hn => by
    have hc := (brN_spec (ow := ow) (f := f) hc0 hco hro ha h2).1
    have hE := (brN_spec (ow := ow) (f := f) hc0 hco hro ha he).1
    have g1 := hc.2 u ⟨k, h1⟩
    have g2 := hE.2 _ (wex_ext ha hc.1 he h4)
    have hu : u = brN ow f co ro a c := by omega
    rcases Classical.em (m c = brN ow f co ro a c) with z | z
    · exact ⟨c, e, h2, he, z, hn, h4, by omega⟩
    · rw [hu] at h1
      exact br_edge hc0 hco hro ha h0 k c h2 h1 z
theorem br_sweep {m m1 : Nat → Nat} (hc0 : 0 < co) (hco : co ≤ 6) (hro : ro ≤ 8) (ha : a < ro * co) (h : BM ow f co ro a 48 m) (h1 : BM ow f co ro a 48 m1) (hle : ∀ e, e < ro * co → m1 e ≤ m e) (hrx : ∀ e, e < ro * co → ∀ c, c < ro * co → adjB co c e → m1 e ≤ m c + csN ow f e) : ro * co ≤ brS ow f co ro a m1 ∨ brS ow f co ro a m + 1 ≤ brS ow f co ro a m1 := by
  have settle : ∀ e, e < ro * co → m1 e ≤ brN ow f co ro a e → m1 e = brN ow f co ro a e := fun e he hl => by
    obtain ⟨g1, g2⟩ := brN_spec (ow := ow) (f := f) hc0 hco hro ha he
    have := g1.2 _ ((h1.2 e he).2 (by omega))
    omega
  have hk : ∀ k, k < ro * co → decide (m k = brN ow f co ro a k) = true → decide (m1 k = brN ow f co ro a k) = true := fun k hk z => by
    have z1 := of_decide_eq_true z
    exact decide_eq_true (settle k hk (by rw [← z1]; exact hle k hk))
  rcases Nat.lt_or_ge (brS ow f co ro a m) (ro * co) with q | q
  · obtain ⟨e, e1, e2⟩ := cntP_ex q
    obtain ⟨⟨⟨k, g1⟩, _⟩, _⟩ := brN_spec (ow := ow) (f := f) hc0 hco hro ha e1
    obtain ⟨c, e3, c1, c2, c3, c4, c5, c6⟩ := br_edge hc0 hco hro ha h.1 k e e1 g1 (of_decide_eq_false e2)
    have g3 := hrx e3 c2 c c1 c5
    exact Or.inr (cntP_more c2 hk (decide_eq_false c4) (decide_eq_true (settle e3 c2 (by omega))))
  · refine Or.inl (Nat.le_of_eq ?_)
    have hall := cntP_all q
    have : ∀ k, k < ro * co → decide (m1 k = brN ow f co ro a k) = decide (m k = brN ow f co ro a k) := fun k hk2 => by rw [hall k hk2]; exact hk k hk2 (hall k hk2)
    show ro * co = brS ow f co ro a m1
    unfold brS
    rw [cntP_cong this]
    exact Nat.le_antisymm q (cntP_le _ _)
/-- one cell's mark lowered by what lies beside it, dr directions looked at -/
def LMk (ow : Nat → Int32) (f : Int32) (co ro : Nat) (m m2 : Nat → Nat) (c dr : Nat) : Prop := (∀ j, j ≠ c → m2 j = m j) ∧ m2 c ≤ m c ∧ (∀ d, d < dr → ∀ o, bsd co ro c d = some o → m2 c ≤ m o + csN ow f c) ∧ (m2 c = m c ∨ ∃ o, o < ro * co ∧ adjB co o c ∧ m2 c = m o + csN ow f c ∧ m2 c < m c)
theorem adj_ne {o c : Nat} (hc0 : 0 < co) (h : adjB co c o) : o ≠ c := fun e => by
  rw [e] at h
  rcases h with h | h | ⟨_, h | h⟩ <;> omega
theorem lm_up {m m2 : Nat → Nat} {c dr o : Nat} (hc0 : 0 < co) (hc : c < ro * co) (hd : dr < 4) (hbs : bsd co ro c dr = some o) (h : LMk ow f co ro m m2 c dr) (hlt : m2 o + csN ow f c < m2 c) : LMk ow f co ro m (va_up m2 c (m2 o + csN ow f c)) c (dr + 1) := by
  obtain ⟨g1, g2⟩ := (bsd_adj hc0 hc).mp ⟨dr, hd, hbs⟩
  have hne := adj_ne hc0 g2
  obtain ⟨l1, l2, l3, l4⟩ := h
  have e1 := l1 o hne
  have e2 : va_up m2 c (m2 o + csN ow f c) c = m2 o + csN ow f c := if_pos rfl
  refine ⟨fun j hj => ?_, ?_, fun d hdd o2 ho2 => ?_, Or.inr ⟨o, g1, adjB_symm g2, ?_, ?_⟩⟩
  · unfold va_up; rw [if_neg hj]; exact l1 j hj
  · rw [e2]; omega
  · rw [e2]
    by_cases z : d = dr
    · rw [z, hbs] at ho2; cases ho2; omega
    · have := l3 d (by omega) o2 ho2; omega
  · rw [e2, e1]
  · rw [e2]; omega
theorem lm_stay {m m2 : Nat → Nat} {c dr : Nat} (h : LMk ow f co ro m m2 c dr) (h2 : ∀ o, bsd co ro c dr = some o → m2 c ≤ m o + csN ow f c) : LMk ow f co ro m m2 c (dr + 1) := by
  refine ⟨h.1, h.2.1, fun d hd o ho => ?_, h.2.2.2⟩
  by_cases z : d = dr
  · rw [z] at ho; exact h2 o ho
  · exact h.2.2.1 d (by omega) o ho
theorem lm_beside {m m2 : Nat → Nat} {c dr o : Nat} (hc0 : 0 < co) (hc : c < ro * co) (hd : dr < 4) (hbs : bsd co ro c dr = some o) (h : LMk ow f co ro m m2 c dr) : m2 o = m o := h.1 o (adj_ne hc0 ((bsd_adj hc0 hc).mp ⟨dr, hd, hbs⟩).2)
theorem lm_0 (m : Nat → Nat) (c : Nat) : LMk ow f co ro m m c 0 := ⟨fun _ _ => rfl, Nat.le_refl _, fun d hd => absurd hd (Nat.not_lt_zero d), Or.inl rfl⟩
theorem lm_same {m m2 : Nat → Nat} {c dr : Nat} (h : LMk ow f co ro m m2 c dr) (e : m2 c = m c) : m2 = m := by
  funext j
  by_cases z : j = c
  · rw [z]; exact e
  · exact h.1 j z
/-- a sweep under way: from m to m1, the cells below i done -/
def SWp (ow : Nat → Int32) (f : Int32) (co ro : Nat) (m m1 : Nat → Nat) (i : Nat) : Prop := (∀ e, e < ro * co → m1 e ≤ m e) ∧ (∀ e, e < i → ∀ c, c < ro * co → adjB co c e → m1 e ≤ m c + csN ow f e)
theorem sw_0 (m : Nat → Nat) : SWp ow f co ro m m 0 := ⟨fun _ _ => Nat.le_refl _, fun e he => absurd he (Nat.not_lt_zero e)⟩
theorem sw_s {m m1 m2 : Nat → Nat} {i : Nat} (hc0 : 0 < co) (hi : i < ro * co) (h : SWp ow f co ro m m1 i) (hl : LMk ow f co ro m1 m2 i 4) : SWp ow f co ro m m2 (i + 1) := by
  refine ⟨fun e he => ?_, fun e he c hc hadj => ?_⟩
  · have g := h.1 e he
    by_cases z : e = i
    · rw [z] at g ⊢; have := hl.2.1; omega
    · rw [hl.1 e z]; exact g
  · by_cases z : e = i
    · rw [z] at hadj ⊢
      obtain ⟨d, hd, hbs⟩ := (bsd_adj hc0 hi).mpr ⟨hc, adjB_symm hadj⟩
      have g1 := hl.2.2.1 d hd c hbs
      have g2 := h.1 c hc
      omega
    · rw [hl.1 e z]; exact h.2 e (by omega) c hc hadj
theorem bm_lm {m1 m2 : Nat → Nat} {i : Nat} (ha : a < ro * co) (hi : i < ro * co) (h : BM ow f co ro a 48 m1) (hl : LMk ow f co ro m1 m2 i 4) : BM ow f co ro a 48 m2 := by
  rcases hl.2.2.2 with e | ⟨o, o1, o2, o3, o4⟩
  · rw [lm_same hl e]; exact h
  · have e2 : m2 = va_up m1 i (m1 o + csN ow f i) := by
      funext j; unfold va_up
      by_cases z : j = i
      · rw [if_pos z, z]; exact o3
      · rw [if_neg z]; exact hl.1 j z
    rw [e2]
    exact bm_up ha (Nat.le_refl _) o1 hi o2 (by omega) h
end BR
def bf0 (X a : Nat) : Nat → Nat := fun j => if j = a then 0 else X
theorem bf0_nA (a : Nat) : upd (fun _ => nI 48) a (nI 0) = nA (bf0 48 a) := by
  funext j; unfold upd nA bf0
  by_cases e : j = a
  · rw [if_pos e, if_pos e]
  · rw [if_neg e, if_neg e]
theorem bf0_bm {ow : Nat → Int32} {f : Int32} {co ro a X : Nat} : BM ow f co ro a X (bf0 X a) := bm_0 X _ (if_pos rfl) (fun e z => if_neg z)
theorem bm0_bm {ow : Nat → Int32} {f : Int32} {co ro a : Nat} : BM ow f co ro a 1048576 (bm0 a) := bm_0 1048576 _ (if_pos rfl) (fun e z => if_neg z)
theorem px_b {P : Nat → Nat → Prop} {R : Nat → Nat → Prop} {c e fl : Nat} (h : fl = 0 → ∀ a2 b2, (a2 < c ∨ (a2 = c ∧ b2 < e)) → P a2 b2 → R a2 b2) (h2 : P c e → R c e) : fl = 0 → ∀ a2 b2, (a2 < c ∨ (a2 = c ∧ b2 < e + 1)) → P a2 b2 → R a2 b2 := fun z a2 b2 hh hp => by
  by_cases q : a2 = c ∧ b2 = e
  · rw [q.1, q.2] at hp ⊢; exact h2 hp
  · exact h z a2 b2 (by omega) hp
def bAll (ow : Nat → Int32) (f : Int32) (co ro a : Nat) (m : Nat → Nat) : Prop := ro * co ≤ brS ow f co ro a m
def bSt (ow : Nat → Int32) (f : Int32) (co ro a t : Nat) (m : Nat → Nat) : Prop := ro * co ≤ brS ow f co ro a m ∨ t + 1 ≤ brS ow f co ro a m
theorem cntP_pos {p : Nat → Bool} {b : Nat} : ∀ {n : Nat}, b < n → p b = true → 1 ≤ cntP p n
  | 0, h, _ => absurd h (Nat.not_lt_zero b)
  | n + 1, h, hp => by
    by_cases e : b = n
    · subst e; rw [cntP_yes hp]; omega
    · have := cntP_pos (n := n) (by omega) hp
      rw [cntP_s]; omega
section BS
variable {ow : Nat → Int32} {f : Int32} {co ro a t : Nat} {m m1 : Nat → Nat}
theorem bs_0 (hc0 : 0 < co) (hco : co ≤ 6) (hro : ro ≤ 8) (ha : a < ro * co) : bSt ow f co ro a 0 (bf0 48 a) := by
  refine Or.inr (cntP_pos ha (decide_eq_true ?_))
  have g := (brN_spec (ow := ow) (f := f) hc0 hco hro ha ha).1.2 0 ⟨0, rfl, rfl⟩
  show (if a = a then 0 else 48) = _
  rw [if_pos rfl]; omega
theorem bs_s (hc0 : 0 < co) (hco : co ≤ 6) (hro : ro ≤ 8) (ha : a < ro * co) (h : BM ow f co ro a 48 m) (h1 : BM ow f co ro a 48 m1) (hsw : SWp ow f co ro m m1 (ro * co)) (hs : bSt ow f co ro a t m) : bSt ow f co ro a (t + 1) m1 := by
  rcases br_sweep hc0 hco hro ha h h1 hsw.1 hsw.2 with z | z
  · exact Or.inl z
  · rcases hs with y | y
    · exact Or.inl (Nat.le_trans y (by omega))
    · exact Or.inr (by omega)
theorem bs_same (hc0 : 0 < co) (hco : co ≤ 6) (hro : ro ≤ 8) (ha : a < ro * co) (h : BM ow f co ro a 48 m) (hsw : SWp ow f co ro m m (ro * co)) : bAll ow f co ro a m := by
  rcases br_sweep hc0 hco hro ha h h hsw.1 hsw.2 with z | z
  · exact z
  · omega
theorem bs_end (hrc : ro * co ≤ 48) (hs : bSt ow f co ro a 48 m) : bAll ow f co ro a m := by
  rcases hs with z | z
  · exact z
  · have : brS ow f co ro a m ≤ ro * co := cntP_le _ _
    unfold bAll; omega
theorem ba_at {b : Nat} (h : bAll ow f co ro a m) (hb : b < ro * co) : m b = brN ow f co ro a b := of_decide_eq_true (cntP_all h b hb)
theorem fBr_no {p0 p1 p2 : Int32} (h : ¬ (vSide p0 ∧ vCell (ro * co) p1 ∧ vCell (ro * co) p2)) : fBridge ow co ro p0 p1 p2 = (-1) := by unfold fBridge; rw [if_neg h]
theorem fBr_NO {p0 : Int32} {j k : Nat} (hrc : ro * co ≤ 48) (h : vSide p0) (hj : j < ro * co) (hk : k < ro * co) (hn : ¬ (ow j = p0 ∧ ow k = p0)) : fBridge ow co ro p0 (nI j) (nI k) = (-2) := by
  unfold fBridge; rw [if_pos ⟨h, cellI hj (by omega), cellI hk (by omega)⟩, tnI (by omega), tnI (by omega), if_neg hn]
theorem fBr_yes {p0 : Int32} {j k : Nat} (hrc : ro * co ≤ 48) (h : vSide p0) (hj : j < ro * co) (hk : k < ro * co) (hn : ow j = p0 ∧ ow k = p0) : fBridge ow co ro p0 (nI j) (nI k) = nI (brN ow p0 co ro j k) := by
  unfold fBridge; rw [if_pos ⟨h, cellI hj (by omega), cellI hk (by omega)⟩, tnI (by omega), tnI (by omega), if_pos hn]
theorem csN_0 {e : Nat} (h : ow e = f) : csN ow f e = 0 := if_pos h
theorem csN_1 {e : Nat} (h : ¬ ow e = f) : csN ow f e = 1 := if_neg h
end BS
