abbrev xS0 (X : Cx) : State := xs X
section LR
variable {X : Cx} {cc : ByteArray} {own : String} {nL d mc ms cs sl pc : Nat} {cI cE : ClassId} {lv : Lv} {st : List Value} {ws : va_W}
theorem L_sld (h : Ok X cc own nL cI cE d mc ms) {b L j : Nat} {xi : Nat → Int32} (hX : va_X b L xi (xs X) (xs X).heap) (hbl : b < (xs X).heap.size) (hbA : ¬ xA X b) (hj : j < L) (hL : L < 100000) (dd : decode cc pc = .ok (.iaload, 1)) (kk : J X nL cs sl (pc + 1) lv (.int (xi j) :: st) ws) : J X nL cs sl pc lv (.int (nI j) :: .ref b :: st) ws :=
  fun H locs ls hP hD hS hl => va_sld h.x h.b hX hbl hbA hS (vp_in_nI hj (by omega)) dd (by rw [nI_clamp (by omega)]; exact kk H locs ls hP hD hS hl)
theorem L_slen (h : Ok X cc own nL cI cE d mc ms) {b L : Nat} {xi : Nat → Int32} (hX : va_X b L xi (xs X) (xs X).heap) (hbl : b < (xs X).heap.size) (hbA : ¬ xA X b) (dd : decode cc pc = .ok (.arraylength, 1)) (kk : J X nL cs sl (pc + 1) lv (.int (nI L) :: st) ws) : J X nL cs sl pc lv (.ref b :: st) ws :=
  fun H locs ls hP hD hS hl => va_slen h.x h.b hX hbl hbA hS dd (kk H locs ls hP hD hS hl)
end LR
set_option maxRecDepth 100000 in
set_option maxHeartbeats 4000000 in
theorem lc_0 (X : Cx) {cI cE : ClassId} (h : Ok X cL_law RL 4 cI cE 9 72 3197) {z0 : Nat} {g0 : Nat} {a0 : Nat} {f0 : Nat} {s0 : Nat} {k0 : Nat} {v0 : Nat} {d0 : Nat} {y0 : Nat} {m0 : Nat} {o0 : Nat} {g1 : Nat} {a1 : Nat} {a2 : Nat} {f1 : Nat} {f2 : Nat} {s1 : Nat} {eA : Nat → Nat} {tA : Nat → Nat} {oA : Nat → Nat} {k1 : Nat} {eK : Nat → Nat} {tK : Nat → Nat} {oK : Nat → Nat} {v1 : Nat} {v2 : Nat} {v3 : Nat} {d1 : Nat} {d2 : Nat} {m1 : Nat} {m2 : Nat} {o1 : Nat} {o2 : Nat} {q0 : Nat} {q3 : Nat} {q4 : Nat} {q6 : Nat} {q7 : Nat} {q8 : Nat} {q9 : Nat} {q14 : Nat} {q15 : Nat} {q17 : Nat} {q18 : Nat} {q19 : Nat} {q23 : Nat} {q24 : Nat} {q25 : Nat} {b L n : Nat} {xi : Nat → Int32} (hX : va_X b L xi (xs X) (xs X).heap) (hbl : b < (xs X).heap.size) (hbA : ¬ xA X b) (hL : L ≤ 384) (hn : n + 6 ≤ L) (hcont : ∀ {lx : Nat → Nat} {tl : Nat} {th : Nat → Int32} {ow : Nat → Int32} {co : Nat} {ro : Nat} {sl : Int32} {dth : Nat → Int32} {dow : Nat → Int32} {dco : Int32} {dro : Int32} {dsl : Int32} {thS : Nat → Nat → Int32} {owS : Nat → Nat → Int32} {coS : Nat → Int32} {roS : Nat → Int32} {slS : Nat → Int32} {nx : Nat} {sz : Nat} {thK : Nat → Nat → Int32} {owK : Nat → Nat → Int32} {coK : Nat → Int32} {roK : Nat → Int32} {slK : Nat → Int32} {nk : Nat} {zk : Nat} {kx : Nat → Nat} {kw : Nat → Nat} {ke : Nat → Nat} {sn : Nat} {ce : Nat → Int32} {se : Nat → Int32} {len : Int32} {en : Int32} {cd : Int32} {tk : Int32} {mk : Nat → Int32} {wg : Nat → Int32} {wn : Int32} {wa : Nat → Int32} {nw : Nat → Int32} {ab : Int32} {be : Int32} {roM : Nat} {coM : Nat} {slM : Int32} {snM : Nat} {tsM : Nat} {raM : Int32} {rrM : Int32} {rwM : Int32} {rnM : Int32} {umM : Nat} {bsM : Int32} {bhM : Int32} {kmM : Nat} {thM : Nat → Int32} {moM : Nat → Int32} {kxM : Nat → Nat} {kwM : Nat → Nat} {keM : Nat → Nat} {lxM : Nat → Nat} {rlM : Nat → Int32} {rgM : Nat → Int32} {ceM : Nat → Int32} {seM : Nat → Int32} {ahM : Nat → Int32} {mkM : Nat → Int32} {asM : Nat → Int32} {kpM : Nat → Int32}, IV lx tl th ow co ro thS owS coS roS nx sz thK owK coK roK nk zk kx kw ke sn lxM tsM thM moM coM roM ahM umM kpM kmM kxM kwM keM snM → J X 4 72 3197 1034 [(0, .ref b), (1, .ref z0), (2, .ref q0), (3, .int (nI n))] [] (WX cI cE z0 g0 a0 f0 s0 k0 v0 d0 y0 m0 o0 g1 a1 a2 f1 f2 s1 eA tA oA k1 eK tK oK v1 v2 v3 d1 d2 m1 m2 o1 o2 lx tl th ow co ro sl dth dow dco dro dsl thS owS coS roS slS nx sz thK owK coK roK slK nk zk kx kw ke sn ce se len en cd tk mk wg wn wa nw ab be ++ WM cI q0 q3 q4 q6 q7 q8 q9 q14 q15 q17 q18 q19 q23 q24 q25 roM coM slM snM tsM raM rrM rwM rnM umM bsM bhM kmM thM moM kxM kwM keM lxM rlM rgM ceM seM ahM mkM asM kpM)) {lx : Nat → Nat} {tl : Nat} {th : Nat → Int32} {ow : Nat → Int32} {co : Nat} {ro : Nat} {sl : Int32} {dth : Nat → Int32} {dow : Nat → Int32} {dco : Int32} {dro : Int32} {dsl : Int32} {thS : Nat → Nat → Int32} {owS : Nat → Nat → Int32} {coS : Nat → Int32} {roS : Nat → Int32} {slS : Nat → Int32} {nx : Nat} {sz : Nat} {thK : Nat → Nat → Int32} {owK : Nat → Nat → Int32} {coK : Nat → Int32} {roK : Nat → Int32} {slK : Nat → Int32} {nk : Nat} {zk : Nat} {kx : Nat → Nat} {kw : Nat → Nat} {ke : Nat → Nat} {sn : Nat} {ce : Nat → Int32} {se : Nat → Int32} {len : Int32} {en : Int32} {cd : Int32} {tk : Int32} {mk : Nat → Int32} {wg : Nat → Int32} {wn : Int32} {wa : Nat → Int32} {nw : Nat → Int32} {ab : Int32} {be : Int32} {roM : Nat} {coM : Nat} {slM : Int32} {snM : Nat} {tsM : Nat} {raM : Int32} {rrM : Int32} {rwM : Int32} {rnM : Int32} {umM : Nat} {bsM : Int32} {bhM : Int32} {kmM : Nat} {thM : Nat → Int32} {moM : Nat → Int32} {kxM : Nat → Nat} {kwM : Nat → Nat} {keM : Nat → Nat} {lxM : Nat → Nat} {rlM : Nat → Int32} {rgM : Nat → Int32} {ceM : Nat → Int32} {seM : Nat → Int32} {ahM : Nat → Int32} {mkM : Nat → Int32} {asM : Nat → Int32} {kpM : Nat → Int32} (hI : IV lx tl th ow co ro thS owS coS roS nx sz thK owK coK roK nk zk kx kw ke sn lxM tsM thM moM coM roM ahM umM kpM kmM kxM kwM keM snM) : J X 4 72 3197 160 [(0, .ref b), (1, .ref z0), (2, .ref q0), (3, .int (nI n))] [] (WX cI cE z0 g0 a0 f0 s0 k0 v0 d0 y0 m0 o0 g1 a1 a2 f1 f2 s1 eA tA oA k1 eK tK oK v1 v2 v3 d1 d2 m1 m2 o1 o2 lx tl th ow co ro sl dth dow dco dro dsl thS owS coS roS slS nx sz thK owK coK roK slK nk zk kx kw ke sn ce se len en cd tk mk wg wn wa nw ab be ++ WM cI q0 q3 q4 q6 q7 q8 q9 q14 q15 q17 q18 q19 q23 q24 q25 roM coM slM snM tsM raM rrM rwM rnM umM bsM bhM kmM thM moM kxM kwM keM lxM rlM rgM ceM seM ahM mkM asM kpM) := by
  have hI0 := hI
  obtain ⟨⟨rfl, rfl, rfl, rfl, rfl, rfl, rfl, rfl, rfl⟩, ⟨hlx, hlxM, hle, htl⟩, ⟨hrc, hco, hro, hc0, hr0⟩, hrel, ⟨hnx, hsz, hrg⟩, ⟨hnk, hzk, hrk⟩, hsn, hk⟩ := hI
  refine J_aload_n h (i := 1) dL_law_160 rfl 1 rfl ?_
  refine J_aload_n h (i := 0) dL_law_161 rfl 0 rfl ?_
  refine J_iload_n h (i := 3) dL_law_162 rfl 3 rfl ?_
  refine J_iconst h (v := nI 1) dL_law_163 (by decide) ?_
  refine N_iadd h dL_law_164 ?_
  refine L_sld h hX hbl hbA (by omega) (by omega) dL_law_165 ?_
  refine kx_write  (rest := []) h hlx htl  (xi (n + 1)) nm_L_13 (by decide) (Nat.le_of_ble_eq_true rfl) (Nat.le_refl _) (Nat.le_refl _) dL_law_166 (fun r_x lx2 tn2 hx => ?_)
  refine J_pop h dL_law_169 rfl ?_
  refine J_aload_n h (i := 2) dL_law_170 rfl 2 rfl ?_
  refine J_aload_n h (i := 0) dL_law_171 rfl 0 rfl ?_
  refine J_iload_n h (i := 3) dL_law_172 rfl 3 rfl ?_
  refine J_iconst h (v := nI 1) dL_law_173 (by decide) ?_
  refine N_iadd h dL_law_174 ?_
  refine L_sld h hX hbl hbA (by omega) (by omega) dL_law_175 ?_
  refine J.swp ?_
  refine km_write  (rest := []) h htl  (xi (n + 1)) nm_L_17 (by decide) (Nat.le_of_ble_eq_true rfl) (Nat.le_refl _) (Nat.le_refl _) dL_law_176 (fun r_m lx2M tn2M hm => ?_)
  refine J.swp ?_
  refine J_pop h dL_law_179 rfl ?_
  refine J_goto h 1034 dL_law_180 (by decide) ?_
  exact hcont (iv_write hI0 hx hm)

set_option maxRecDepth 100000 in
set_option maxHeartbeats 4000000 in
theorem lc_1 (X : Cx) {cI cE : ClassId} (h : Ok X cL_law RL 4 cI cE 9 72 3197) {z0 : Nat} {g0 : Nat} {a0 : Nat} {f0 : Nat} {s0 : Nat} {k0 : Nat} {v0 : Nat} {d0 : Nat} {y0 : Nat} {m0 : Nat} {o0 : Nat} {g1 : Nat} {a1 : Nat} {a2 : Nat} {f1 : Nat} {f2 : Nat} {s1 : Nat} {eA : Nat → Nat} {tA : Nat → Nat} {oA : Nat → Nat} {k1 : Nat} {eK : Nat → Nat} {tK : Nat → Nat} {oK : Nat → Nat} {v1 : Nat} {v2 : Nat} {v3 : Nat} {d1 : Nat} {d2 : Nat} {m1 : Nat} {m2 : Nat} {o1 : Nat} {o2 : Nat} {q0 : Nat} {q3 : Nat} {q4 : Nat} {q6 : Nat} {q7 : Nat} {q8 : Nat} {q9 : Nat} {q14 : Nat} {q15 : Nat} {q17 : Nat} {q18 : Nat} {q19 : Nat} {q23 : Nat} {q24 : Nat} {q25 : Nat} {b L n : Nat} {xi : Nat → Int32} (hX : va_X b L xi (xs X) (xs X).heap) (hbl : b < (xs X).heap.size) (hbA : ¬ xA X b) (hL : L ≤ 384) (hn : n + 6 ≤ L) (hcont : ∀ {lx : Nat → Nat} {tl : Nat} {th : Nat → Int32} {ow : Nat → Int32} {co : Nat} {ro : Nat} {sl : Int32} {dth : Nat → Int32} {dow : Nat → Int32} {dco : Int32} {dro : Int32} {dsl : Int32} {thS : Nat → Nat → Int32} {owS : Nat → Nat → Int32} {coS : Nat → Int32} {roS : Nat → Int32} {slS : Nat → Int32} {nx : Nat} {sz : Nat} {thK : Nat → Nat → Int32} {owK : Nat → Nat → Int32} {coK : Nat → Int32} {roK : Nat → Int32} {slK : Nat → Int32} {nk : Nat} {zk : Nat} {kx : Nat → Nat} {kw : Nat → Nat} {ke : Nat → Nat} {sn : Nat} {ce : Nat → Int32} {se : Nat → Int32} {len : Int32} {en : Int32} {cd : Int32} {tk : Int32} {mk : Nat → Int32} {wg : Nat → Int32} {wn : Int32} {wa : Nat → Int32} {nw : Nat → Int32} {ab : Int32} {be : Int32} {roM : Nat} {coM : Nat} {slM : Int32} {snM : Nat} {tsM : Nat} {raM : Int32} {rrM : Int32} {rwM : Int32} {rnM : Int32} {umM : Nat} {bsM : Int32} {bhM : Int32} {kmM : Nat} {thM : Nat → Int32} {moM : Nat → Int32} {kxM : Nat → Nat} {kwM : Nat → Nat} {keM : Nat → Nat} {lxM : Nat → Nat} {rlM : Nat → Int32} {rgM : Nat → Int32} {ceM : Nat → Int32} {seM : Nat → Int32} {ahM : Nat → Int32} {mkM : Nat → Int32} {asM : Nat → Int32} {kpM : Nat → Int32}, IV lx tl th ow co ro thS owS coS roS nx sz thK owK coK roK nk zk kx kw ke sn lxM tsM thM moM coM roM ahM umM kpM kmM kxM kwM keM snM → J X 4 72 3197 1034 [(0, .ref b), (1, .ref z0), (2, .ref q0), (3, .int (nI n))] [] (WX cI cE z0 g0 a0 f0 s0 k0 v0 d0 y0 m0 o0 g1 a1 a2 f1 f2 s1 eA tA oA k1 eK tK oK v1 v2 v3 d1 d2 m1 m2 o1 o2 lx tl th ow co ro sl dth dow dco dro dsl thS owS coS roS slS nx sz thK owK coK roK slK nk zk kx kw ke sn ce se len en cd tk mk wg wn wa nw ab be ++ WM cI q0 q3 q4 q6 q7 q8 q9 q14 q15 q17 q18 q19 q23 q24 q25 roM coM slM snM tsM raM rrM rwM rnM umM bsM bhM kmM thM moM kxM kwM keM lxM rlM rgM ceM seM ahM mkM asM kpM)) {lx : Nat → Nat} {tl : Nat} {th : Nat → Int32} {ow : Nat → Int32} {co : Nat} {ro : Nat} {sl : Int32} {dth : Nat → Int32} {dow : Nat → Int32} {dco : Int32} {dro : Int32} {dsl : Int32} {thS : Nat → Nat → Int32} {owS : Nat → Nat → Int32} {coS : Nat → Int32} {roS : Nat → Int32} {slS : Nat → Int32} {nx : Nat} {sz : Nat} {thK : Nat → Nat → Int32} {owK : Nat → Nat → Int32} {coK : Nat → Int32} {roK : Nat → Int32} {slK : Nat → Int32} {nk : Nat} {zk : Nat} {kx : Nat → Nat} {kw : Nat → Nat} {ke : Nat → Nat} {sn : Nat} {ce : Nat → Int32} {se : Nat → Int32} {len : Int32} {en : Int32} {cd : Int32} {tk : Int32} {mk : Nat → Int32} {wg : Nat → Int32} {wn : Int32} {wa : Nat → Int32} {nw : Nat → Int32} {ab : Int32} {be : Int32} {roM : Nat} {coM : Nat} {slM : Int32} {snM : Nat} {tsM : Nat} {raM : Int32} {rrM : Int32} {rwM : Int32} {rnM : Int32} {umM : Nat} {bsM : Int32} {bhM : Int32} {kmM : Nat} {thM : Nat → Int32} {moM : Nat → Int32} {kxM : Nat → Nat} {kwM : Nat → Nat} {keM : Nat → Nat} {lxM : Nat → Nat} {rlM : Nat → Int32} {rgM : Nat → Int32} {ceM : Nat → Int32} {seM : Nat → Int32} {ahM : Nat → Int32} {mkM : Nat → Int32} {asM : Nat → Int32} {kpM : Nat → Int32} (hI : IV lx tl th ow co ro thS owS coS roS nx sz thK owK coK roK nk zk kx kw ke sn lxM tsM thM moM coM roM ahM umM kpM kmM kxM kwM keM snM) : J X 4 72 3197 183 [(0, .ref b), (1, .ref z0), (2, .ref q0), (3, .int (nI n))] [] (WX cI cE z0 g0 a0 f0 s0 k0 v0 d0 y0 m0 o0 g1 a1 a2 f1 f2 s1 eA tA oA k1 eK tK oK v1 v2 v3 d1 d2 m1 m2 o1 o2 lx tl th ow co ro sl dth dow dco dro dsl thS owS coS roS slS nx sz thK owK coK roK slK nk zk kx kw ke sn ce se len en cd tk mk wg wn wa nw ab be ++ WM cI q0 q3 q4 q6 q7 q8 q9 q14 q15 q17 q18 q19 q23 q24 q25 roM coM slM snM tsM raM rrM rwM rnM umM bsM bhM kmM thM moM kxM kwM keM lxM rlM rgM ceM seM ahM mkM asM kpM) := by
  have hI0 := hI
  obtain ⟨⟨rfl, rfl, rfl, rfl, rfl, rfl, rfl, rfl, rfl⟩, ⟨hlx, hlxM, hle, htl⟩, ⟨hrc, hco, hro, hc0, hr0⟩, hrel, ⟨hnx, hsz, hrg⟩, ⟨hnk, hzk, hrk⟩, hsn, hk⟩ := hI
  refine J_aload_n h (i := 1) dL_law_183 rfl 1 rfl ?_
  refine kx_wipe  (rest := []) h    nm_L_18 (by decide) (Nat.le_of_ble_eq_true rfl) (Nat.le_refl _) (Nat.le_refl _) dL_law_184 (fun r_x hx => ?_)
  refine J_pop h dL_law_187 rfl ?_
  refine J_aload_n h (i := 2) dL_law_188 rfl 2 rfl ?_
  refine J.swp ?_
  refine km_wipe  (rest := []) h    nm_L_22 (by decide) (Nat.le_of_ble_eq_true rfl) (Nat.le_refl _) (Nat.le_refl _) dL_law_189 (fun r_m hm => ?_)
  refine J.swp ?_
  refine J_pop h dL_law_192 rfl ?_
  refine J_goto h 1034 dL_law_193 (by decide) ?_
  exact hcont (iv_wipe hI0 hx hm)

set_option maxRecDepth 100000 in
set_option maxHeartbeats 4000000 in
theorem lc_2 (X : Cx) {cI cE : ClassId} (h : Ok X cL_law RL 4 cI cE 9 72 3197) {z0 : Nat} {g0 : Nat} {a0 : Nat} {f0 : Nat} {s0 : Nat} {k0 : Nat} {v0 : Nat} {d0 : Nat} {y0 : Nat} {m0 : Nat} {o0 : Nat} {g1 : Nat} {a1 : Nat} {a2 : Nat} {f1 : Nat} {f2 : Nat} {s1 : Nat} {eA : Nat → Nat} {tA : Nat → Nat} {oA : Nat → Nat} {k1 : Nat} {eK : Nat → Nat} {tK : Nat → Nat} {oK : Nat → Nat} {v1 : Nat} {v2 : Nat} {v3 : Nat} {d1 : Nat} {d2 : Nat} {m1 : Nat} {m2 : Nat} {o1 : Nat} {o2 : Nat} {q0 : Nat} {q3 : Nat} {q4 : Nat} {q6 : Nat} {q7 : Nat} {q8 : Nat} {q9 : Nat} {q14 : Nat} {q15 : Nat} {q17 : Nat} {q18 : Nat} {q19 : Nat} {q23 : Nat} {q24 : Nat} {q25 : Nat} {b L n : Nat} {xi : Nat → Int32} (hX : va_X b L xi (xs X) (xs X).heap) (hbl : b < (xs X).heap.size) (hbA : ¬ xA X b) (hL : L ≤ 384) (hn : n + 6 ≤ L) (hcont : ∀ {lx : Nat → Nat} {tl : Nat} {th : Nat → Int32} {ow : Nat → Int32} {co : Nat} {ro : Nat} {sl : Int32} {dth : Nat → Int32} {dow : Nat → Int32} {dco : Int32} {dro : Int32} {dsl : Int32} {thS : Nat → Nat → Int32} {owS : Nat → Nat → Int32} {coS : Nat → Int32} {roS : Nat → Int32} {slS : Nat → Int32} {nx : Nat} {sz : Nat} {thK : Nat → Nat → Int32} {owK : Nat → Nat → Int32} {coK : Nat → Int32} {roK : Nat → Int32} {slK : Nat → Int32} {nk : Nat} {zk : Nat} {kx : Nat → Nat} {kw : Nat → Nat} {ke : Nat → Nat} {sn : Nat} {ce : Nat → Int32} {se : Nat → Int32} {len : Int32} {en : Int32} {cd : Int32} {tk : Int32} {mk : Nat → Int32} {wg : Nat → Int32} {wn : Int32} {wa : Nat → Int32} {nw : Nat → Int32} {ab : Int32} {be : Int32} {roM : Nat} {coM : Nat} {slM : Int32} {snM : Nat} {tsM : Nat} {raM : Int32} {rrM : Int32} {rwM : Int32} {rnM : Int32} {umM : Nat} {bsM : Int32} {bhM : Int32} {kmM : Nat} {thM : Nat → Int32} {moM : Nat → Int32} {kxM : Nat → Nat} {kwM : Nat → Nat} {keM : Nat → Nat} {lxM : Nat → Nat} {rlM : Nat → Int32} {rgM : Nat → Int32} {ceM : Nat → Int32} {seM : Nat → Int32} {ahM : Nat → Int32} {mkM : Nat → Int32} {asM : Nat → Int32} {kpM : Nat → Int32}, IV lx tl th ow co ro thS owS coS roS nx sz thK owK coK roK nk zk kx kw ke sn lxM tsM thM moM coM roM ahM umM kpM kmM kxM kwM keM snM → J X 4 72 3197 1034 [(0, .ref b), (1, .ref z0), (2, .ref q0), (3, .int (nI n))] [] (WX cI cE z0 g0 a0 f0 s0 k0 v0 d0 y0 m0 o0 g1 a1 a2 f1 f2 s1 eA tA oA k1 eK tK oK v1 v2 v3 d1 d2 m1 m2 o1 o2 lx tl th ow co ro sl dth dow dco dro dsl thS owS coS roS slS nx sz thK owK coK roK slK nk zk kx kw ke sn ce se len en cd tk mk wg wn wa nw ab be ++ WM cI q0 q3 q4 q6 q7 q8 q9 q14 q15 q17 q18 q19 q23 q24 q25 roM coM slM snM tsM raM rrM rwM rnM umM bsM bhM kmM thM moM kxM kwM keM lxM rlM rgM ceM seM ahM mkM asM kpM)) {lx : Nat → Nat} {tl : Nat} {th : Nat → Int32} {ow : Nat → Int32} {co : Nat} {ro : Nat} {sl : Int32} {dth : Nat → Int32} {dow : Nat → Int32} {dco : Int32} {dro : Int32} {dsl : Int32} {thS : Nat → Nat → Int32} {owS : Nat → Nat → Int32} {coS : Nat → Int32} {roS : Nat → Int32} {slS : Nat → Int32} {nx : Nat} {sz : Nat} {thK : Nat → Nat → Int32} {owK : Nat → Nat → Int32} {coK : Nat → Int32} {roK : Nat → Int32} {slK : Nat → Int32} {nk : Nat} {zk : Nat} {kx : Nat → Nat} {kw : Nat → Nat} {ke : Nat → Nat} {sn : Nat} {ce : Nat → Int32} {se : Nat → Int32} {len : Int32} {en : Int32} {cd : Int32} {tk : Int32} {mk : Nat → Int32} {wg : Nat → Int32} {wn : Int32} {wa : Nat → Int32} {nw : Nat → Int32} {ab : Int32} {be : Int32} {roM : Nat} {coM : Nat} {slM : Int32} {snM : Nat} {tsM : Nat} {raM : Int32} {rrM : Int32} {rwM : Int32} {rnM : Int32} {umM : Nat} {bsM : Int32} {bhM : Int32} {kmM : Nat} {thM : Nat → Int32} {moM : Nat → Int32} {kxM : Nat → Nat} {kwM : Nat → Nat} {keM : Nat → Nat} {lxM : Nat → Nat} {rlM : Nat → Int32} {rgM : Nat → Int32} {ceM : Nat → Int32} {seM : Nat → Int32} {ahM : Nat → Int32} {mkM : Nat → Int32} {asM : Nat → Int32} {kpM : Nat → Int32} (hI : IV lx tl th ow co ro thS owS coS roS nx sz thK owK coK roK nk zk kx kw ke sn lxM tsM thM moM coM roM ahM umM kpM kmM kxM kwM keM snM) : J X 4 72 3197 196 [(0, .ref b), (1, .ref z0), (2, .ref q0), (3, .int (nI n))] [] (WX cI cE z0 g0 a0 f0 s0 k0 v0 d0 y0 m0 o0 g1 a1 a2 f1 f2 s1 eA tA oA k1 eK tK oK v1 v2 v3 d1 d2 m1 m2 o1 o2 lx tl th ow co ro sl dth dow dco dro dsl thS owS coS roS slS nx sz thK owK coK roK slK nk zk kx kw ke sn ce se len en cd tk mk wg wn wa nw ab be ++ WM cI q0 q3 q4 q6 q7 q8 q9 q14 q15 q17 q18 q19 q23 q24 q25 roM coM slM snM tsM raM rrM rwM rnM umM bsM bhM kmM thM moM kxM kwM keM lxM rlM rgM ceM seM ahM mkM asM kpM) := by
  have hI0 := hI
  obtain ⟨⟨rfl, rfl, rfl, rfl, rfl, rfl, rfl, rfl, rfl⟩, ⟨hlx, hlxM, hle, htl⟩, ⟨hrc, hco, hro, hc0, hr0⟩, hrel, ⟨hnx, hsz, hrg⟩, ⟨hnk, hzk, hrk⟩, hsn, hk⟩ := hI
  refine J_aload_n h (i := 1) dL_law_196 rfl 1 rfl ?_
  refine kx_fault  (rest := []) h hlx htl   nm_L_23 (by decide) (Nat.le_of_ble_eq_true rfl) (Nat.le_refl _) (Nat.le_refl _) dL_law_197 (fun r_x dth2 dow2 dco2 dro2 hx => ?_)
  refine J_pop h dL_law_200 rfl ?_
  refine J_aload_n h (i := 2) dL_law_201 rfl 2 rfl ?_
  refine J.swp ?_
  refine km_fault (dth := dth) (dow := dow) (rest := []) h hlxM htl   nm_L_26 (by decide) (Nat.le_of_ble_eq_true rfl) (Nat.le_refl _) (Nat.le_refl _) dL_law_202 (fun r_m ra2M rr2M rw2M rl2M rg2M rn2M hm => ?_)
  refine J.swp ?_
  refine J_pop h dL_law_205 rfl ?_
  refine J_goto h 1034 dL_law_206 (by decide) ?_
  exact hcont (hI0)

set_option maxRecDepth 100000 in
set_option maxHeartbeats 4000000 in
theorem lc_3 (X : Cx) {cI cE : ClassId} (h : Ok X cL_law RL 4 cI cE 9 72 3197) {z0 : Nat} {g0 : Nat} {a0 : Nat} {f0 : Nat} {s0 : Nat} {k0 : Nat} {v0 : Nat} {d0 : Nat} {y0 : Nat} {m0 : Nat} {o0 : Nat} {g1 : Nat} {a1 : Nat} {a2 : Nat} {f1 : Nat} {f2 : Nat} {s1 : Nat} {eA : Nat → Nat} {tA : Nat → Nat} {oA : Nat → Nat} {k1 : Nat} {eK : Nat → Nat} {tK : Nat → Nat} {oK : Nat → Nat} {v1 : Nat} {v2 : Nat} {v3 : Nat} {d1 : Nat} {d2 : Nat} {m1 : Nat} {m2 : Nat} {o1 : Nat} {o2 : Nat} {q0 : Nat} {q3 : Nat} {q4 : Nat} {q6 : Nat} {q7 : Nat} {q8 : Nat} {q9 : Nat} {q14 : Nat} {q15 : Nat} {q17 : Nat} {q18 : Nat} {q19 : Nat} {q23 : Nat} {q24 : Nat} {q25 : Nat} {b L n : Nat} {xi : Nat → Int32} (hX : va_X b L xi (xs X) (xs X).heap) (hbl : b < (xs X).heap.size) (hbA : ¬ xA X b) (hL : L ≤ 384) (hn : n + 6 ≤ L) (hcont : ∀ {lx : Nat → Nat} {tl : Nat} {th : Nat → Int32} {ow : Nat → Int32} {co : Nat} {ro : Nat} {sl : Int32} {dth : Nat → Int32} {dow : Nat → Int32} {dco : Int32} {dro : Int32} {dsl : Int32} {thS : Nat → Nat → Int32} {owS : Nat → Nat → Int32} {coS : Nat → Int32} {roS : Nat → Int32} {slS : Nat → Int32} {nx : Nat} {sz : Nat} {thK : Nat → Nat → Int32} {owK : Nat → Nat → Int32} {coK : Nat → Int32} {roK : Nat → Int32} {slK : Nat → Int32} {nk : Nat} {zk : Nat} {kx : Nat → Nat} {kw : Nat → Nat} {ke : Nat → Nat} {sn : Nat} {ce : Nat → Int32} {se : Nat → Int32} {len : Int32} {en : Int32} {cd : Int32} {tk : Int32} {mk : Nat → Int32} {wg : Nat → Int32} {wn : Int32} {wa : Nat → Int32} {nw : Nat → Int32} {ab : Int32} {be : Int32} {roM : Nat} {coM : Nat} {slM : Int32} {snM : Nat} {tsM : Nat} {raM : Int32} {rrM : Int32} {rwM : Int32} {rnM : Int32} {umM : Nat} {bsM : Int32} {bhM : Int32} {kmM : Nat} {thM : Nat → Int32} {moM : Nat → Int32} {kxM : Nat → Nat} {kwM : Nat → Nat} {keM : Nat → Nat} {lxM : Nat → Nat} {rlM : Nat → Int32} {rgM : Nat → Int32} {ceM : Nat → Int32} {seM : Nat → Int32} {ahM : Nat → Int32} {mkM : Nat → Int32} {asM : Nat → Int32} {kpM : Nat → Int32}, IV lx tl th ow co ro thS owS coS roS nx sz thK owK coK roK nk zk kx kw ke sn lxM tsM thM moM coM roM ahM umM kpM kmM kxM kwM keM snM → J X 4 72 3197 1034 [(0, .ref b), (1, .ref z0), (2, .ref q0), (3, .int (nI n))] [] (WX cI cE z0 g0 a0 f0 s0 k0 v0 d0 y0 m0 o0 g1 a1 a2 f1 f2 s1 eA tA oA k1 eK tK oK v1 v2 v3 d1 d2 m1 m2 o1 o2 lx tl th ow co ro sl dth dow dco dro dsl thS owS coS roS slS nx sz thK owK coK roK slK nk zk kx kw ke sn ce se len en cd tk mk wg wn wa nw ab be ++ WM cI q0 q3 q4 q6 q7 q8 q9 q14 q15 q17 q18 q19 q23 q24 q25 roM coM slM snM tsM raM rrM rwM rnM umM bsM bhM kmM thM moM kxM kwM keM lxM rlM rgM ceM seM ahM mkM asM kpM)) {lx : Nat → Nat} {tl : Nat} {th : Nat → Int32} {ow : Nat → Int32} {co : Nat} {ro : Nat} {sl : Int32} {dth : Nat → Int32} {dow : Nat → Int32} {dco : Int32} {dro : Int32} {dsl : Int32} {thS : Nat → Nat → Int32} {owS : Nat → Nat → Int32} {coS : Nat → Int32} {roS : Nat → Int32} {slS : Nat → Int32} {nx : Nat} {sz : Nat} {thK : Nat → Nat → Int32} {owK : Nat → Nat → Int32} {coK : Nat → Int32} {roK : Nat → Int32} {slK : Nat → Int32} {nk : Nat} {zk : Nat} {kx : Nat → Nat} {kw : Nat → Nat} {ke : Nat → Nat} {sn : Nat} {ce : Nat → Int32} {se : Nat → Int32} {len : Int32} {en : Int32} {cd : Int32} {tk : Int32} {mk : Nat → Int32} {wg : Nat → Int32} {wn : Int32} {wa : Nat → Int32} {nw : Nat → Int32} {ab : Int32} {be : Int32} {roM : Nat} {coM : Nat} {slM : Int32} {snM : Nat} {tsM : Nat} {raM : Int32} {rrM : Int32} {rwM : Int32} {rnM : Int32} {umM : Nat} {bsM : Int32} {bhM : Int32} {kmM : Nat} {thM : Nat → Int32} {moM : Nat → Int32} {kxM : Nat → Nat} {kwM : Nat → Nat} {keM : Nat → Nat} {lxM : Nat → Nat} {rlM : Nat → Int32} {rgM : Nat → Int32} {ceM : Nat → Int32} {seM : Nat → Int32} {ahM : Nat → Int32} {mkM : Nat → Int32} {asM : Nat → Int32} {kpM : Nat → Int32} (hI : IV lx tl th ow co ro thS owS coS roS nx sz thK owK coK roK nk zk kx kw ke sn lxM tsM thM moM coM roM ahM umM kpM kmM kxM kwM keM snM) : J X 4 72 3197 209 [(0, .ref b), (1, .ref z0), (2, .ref q0), (3, .int (nI n))] [] (WX cI cE z0 g0 a0 f0 s0 k0 v0 d0 y0 m0 o0 g1 a1 a2 f1 f2 s1 eA tA oA k1 eK tK oK v1 v2 v3 d1 d2 m1 m2 o1 o2 lx tl th ow co ro sl dth dow dco dro dsl thS owS coS roS slS nx sz thK owK coK roK slK nk zk kx kw ke sn ce se len en cd tk mk wg wn wa nw ab be ++ WM cI q0 q3 q4 q6 q7 q8 q9 q14 q15 q17 q18 q19 q23 q24 q25 roM coM slM snM tsM raM rrM rwM rnM umM bsM bhM kmM thM moM kxM kwM keM lxM rlM rgM ceM seM ahM mkM asM kpM) := by
  have hI0 := hI
  obtain ⟨⟨rfl, rfl, rfl, rfl, rfl, rfl, rfl, rfl, rfl⟩, ⟨hlx, hlxM, hle, htl⟩, ⟨hrc, hco, hro, hc0, hr0⟩, hrel, ⟨hnx, hsz, hrg⟩, ⟨hnk, hzk, hrk⟩, hsn, hk⟩ := hI
  refine J_aload_n h (i := 1) dL_law_209 rfl 1 rfl ?_
  refine kx_lay  (rest := []) h hlx htl hrc hco hro   nm_L_27 (by decide) (Nat.le_of_ble_eq_true rfl) (Nat.le_refl _) (Nat.le_refl _) dL_law_210 (fun r_x dth2 dow2 dco2 dro2 dsl2 th2 ow2 co2 ro2 sn2 sz2 zk2 hx => ?_)
  refine J_pop h dL_law_213 rfl ?_
  refine J_aload_n h (i := 2) dL_law_214 rfl 2 rfl ?_
  refine J.swp ?_
  refine km_lay (dth := dth) (dow := dow) (rest := []) h hlxM htl   nm_L_30 (by decide) (Nat.le_of_ble_eq_true rfl) (Nat.le_refl _) (Nat.le_refl _) dL_law_215 (fun r_m ro2M co2M th2M mo2M sl2M sn2M um2M km2M ra2M rr2M rw2M rl2M rg2M rn2M hm => ?_)
  refine J.swp ?_
  refine J_pop h dL_law_218 rfl ?_
  refine J_goto h 1034 dL_law_219 (by decide) ?_
  exact hcont (iv_lay hI0 hx hm)

set_option maxRecDepth 100000 in
set_option maxHeartbeats 4000000 in
theorem lc_4 (X : Cx) {cI cE : ClassId} (h : Ok X cL_law RL 4 cI cE 9 72 3197) {z0 : Nat} {g0 : Nat} {a0 : Nat} {f0 : Nat} {s0 : Nat} {k0 : Nat} {v0 : Nat} {d0 : Nat} {y0 : Nat} {m0 : Nat} {o0 : Nat} {g1 : Nat} {a1 : Nat} {a2 : Nat} {f1 : Nat} {f2 : Nat} {s1 : Nat} {eA : Nat → Nat} {tA : Nat → Nat} {oA : Nat → Nat} {k1 : Nat} {eK : Nat → Nat} {tK : Nat → Nat} {oK : Nat → Nat} {v1 : Nat} {v2 : Nat} {v3 : Nat} {d1 : Nat} {d2 : Nat} {m1 : Nat} {m2 : Nat} {o1 : Nat} {o2 : Nat} {q0 : Nat} {q3 : Nat} {q4 : Nat} {q6 : Nat} {q7 : Nat} {q8 : Nat} {q9 : Nat} {q14 : Nat} {q15 : Nat} {q17 : Nat} {q18 : Nat} {q19 : Nat} {q23 : Nat} {q24 : Nat} {q25 : Nat} {b L n : Nat} {xi : Nat → Int32} (hX : va_X b L xi (xs X) (xs X).heap) (hbl : b < (xs X).heap.size) (hbA : ¬ xA X b) (hL : L ≤ 384) (hn : n + 6 ≤ L) (hcont : ∀ {lx : Nat → Nat} {tl : Nat} {th : Nat → Int32} {ow : Nat → Int32} {co : Nat} {ro : Nat} {sl : Int32} {dth : Nat → Int32} {dow : Nat → Int32} {dco : Int32} {dro : Int32} {dsl : Int32} {thS : Nat → Nat → Int32} {owS : Nat → Nat → Int32} {coS : Nat → Int32} {roS : Nat → Int32} {slS : Nat → Int32} {nx : Nat} {sz : Nat} {thK : Nat → Nat → Int32} {owK : Nat → Nat → Int32} {coK : Nat → Int32} {roK : Nat → Int32} {slK : Nat → Int32} {nk : Nat} {zk : Nat} {kx : Nat → Nat} {kw : Nat → Nat} {ke : Nat → Nat} {sn : Nat} {ce : Nat → Int32} {se : Nat → Int32} {len : Int32} {en : Int32} {cd : Int32} {tk : Int32} {mk : Nat → Int32} {wg : Nat → Int32} {wn : Int32} {wa : Nat → Int32} {nw : Nat → Int32} {ab : Int32} {be : Int32} {roM : Nat} {coM : Nat} {slM : Int32} {snM : Nat} {tsM : Nat} {raM : Int32} {rrM : Int32} {rwM : Int32} {rnM : Int32} {umM : Nat} {bsM : Int32} {bhM : Int32} {kmM : Nat} {thM : Nat → Int32} {moM : Nat → Int32} {kxM : Nat → Nat} {kwM : Nat → Nat} {keM : Nat → Nat} {lxM : Nat → Nat} {rlM : Nat → Int32} {rgM : Nat → Int32} {ceM : Nat → Int32} {seM : Nat → Int32} {ahM : Nat → Int32} {mkM : Nat → Int32} {asM : Nat → Int32} {kpM : Nat → Int32}, IV lx tl th ow co ro thS owS coS roS nx sz thK owK coK roK nk zk kx kw ke sn lxM tsM thM moM coM roM ahM umM kpM kmM kxM kwM keM snM → J X 4 72 3197 1034 [(0, .ref b), (1, .ref z0), (2, .ref q0), (3, .int (nI n))] [] (WX cI cE z0 g0 a0 f0 s0 k0 v0 d0 y0 m0 o0 g1 a1 a2 f1 f2 s1 eA tA oA k1 eK tK oK v1 v2 v3 d1 d2 m1 m2 o1 o2 lx tl th ow co ro sl dth dow dco dro dsl thS owS coS roS slS nx sz thK owK coK roK slK nk zk kx kw ke sn ce se len en cd tk mk wg wn wa nw ab be ++ WM cI q0 q3 q4 q6 q7 q8 q9 q14 q15 q17 q18 q19 q23 q24 q25 roM coM slM snM tsM raM rrM rwM rnM umM bsM bhM kmM thM moM kxM kwM keM lxM rlM rgM ceM seM ahM mkM asM kpM)) {lx : Nat → Nat} {tl : Nat} {th : Nat → Int32} {ow : Nat → Int32} {co : Nat} {ro : Nat} {sl : Int32} {dth : Nat → Int32} {dow : Nat → Int32} {dco : Int32} {dro : Int32} {dsl : Int32} {thS : Nat → Nat → Int32} {owS : Nat → Nat → Int32} {coS : Nat → Int32} {roS : Nat → Int32} {slS : Nat → Int32} {nx : Nat} {sz : Nat} {thK : Nat → Nat → Int32} {owK : Nat → Nat → Int32} {coK : Nat → Int32} {roK : Nat → Int32} {slK : Nat → Int32} {nk : Nat} {zk : Nat} {kx : Nat → Nat} {kw : Nat → Nat} {ke : Nat → Nat} {sn : Nat} {ce : Nat → Int32} {se : Nat → Int32} {len : Int32} {en : Int32} {cd : Int32} {tk : Int32} {mk : Nat → Int32} {wg : Nat → Int32} {wn : Int32} {wa : Nat → Int32} {nw : Nat → Int32} {ab : Int32} {be : Int32} {roM : Nat} {coM : Nat} {slM : Int32} {snM : Nat} {tsM : Nat} {raM : Int32} {rrM : Int32} {rwM : Int32} {rnM : Int32} {umM : Nat} {bsM : Int32} {bhM : Int32} {kmM : Nat} {thM : Nat → Int32} {moM : Nat → Int32} {kxM : Nat → Nat} {kwM : Nat → Nat} {keM : Nat → Nat} {lxM : Nat → Nat} {rlM : Nat → Int32} {rgM : Nat → Int32} {ceM : Nat → Int32} {seM : Nat → Int32} {ahM : Nat → Int32} {mkM : Nat → Int32} {asM : Nat → Int32} {kpM : Nat → Int32} (hI : IV lx tl th ow co ro thS owS coS roS nx sz thK owK coK roK nk zk kx kw ke sn lxM tsM thM moM coM roM ahM umM kpM kmM kxM kwM keM snM) : J X 4 72 3197 222 [(0, .ref b), (1, .ref z0), (2, .ref q0), (3, .int (nI n))] [] (WX cI cE z0 g0 a0 f0 s0 k0 v0 d0 y0 m0 o0 g1 a1 a2 f1 f2 s1 eA tA oA k1 eK tK oK v1 v2 v3 d1 d2 m1 m2 o1 o2 lx tl th ow co ro sl dth dow dco dro dsl thS owS coS roS slS nx sz thK owK coK roK slK nk zk kx kw ke sn ce se len en cd tk mk wg wn wa nw ab be ++ WM cI q0 q3 q4 q6 q7 q8 q9 q14 q15 q17 q18 q19 q23 q24 q25 roM coM slM snM tsM raM rrM rwM rnM umM bsM bhM kmM thM moM kxM kwM keM lxM rlM rgM ceM seM ahM mkM asM kpM) := by
  have hI0 := hI
  obtain ⟨⟨rfl, rfl, rfl, rfl, rfl, rfl, rfl, rfl, rfl⟩, ⟨hlx, hlxM, hle, htl⟩, ⟨hrc, hco, hro, hc0, hr0⟩, hrel, ⟨hnx, hsz, hrg⟩, ⟨hnk, hzk, hrk⟩, hsn, hk⟩ := hI
  refine J_aload_n h (i := 1) dL_law_222 rfl 1 rfl ?_
  refine J_aload_n h (i := 0) dL_law_223 rfl 0 rfl ?_
  refine J_iload_n h (i := 3) dL_law_224 rfl 3 rfl ?_
  refine J_iconst h (v := nI 1) dL_law_225 (by decide) ?_
  refine N_iadd h dL_law_226 ?_
  refine L_sld h hX hbl hbA (by omega) (by omega) dL_law_227 ?_
  refine J_aload_n h (i := 0) dL_law_228 rfl 0 rfl ?_
  refine J_iload_n h (i := 3) dL_law_229 rfl 3 rfl ?_
  refine J_iconst h (v := nI 2) dL_law_230 (by decide) ?_
  refine N_iadd h dL_law_231 ?_
  refine L_sld h hX hbl hbA (by omega) (by omega) dL_law_232 ?_
  refine kx_cell  (rest := []) h hrc hco hro  (xi (n + 1)) (xi (n + 2)) nm_L_31 (by decide) (Nat.le_of_ble_eq_true rfl) (Nat.le_refl _) (Nat.le_refl _) dL_law_233 (fun r_x hx => ?_)
  refine J_pop h dL_law_236 rfl ?_
  refine J_aload_n h (i := 2) dL_law_237 rfl 2 rfl ?_
  refine J_aload_n h (i := 0) dL_law_238 rfl 0 rfl ?_
  refine J_iload_n h (i := 3) dL_law_239 rfl 3 rfl ?_
  refine J_iconst h (v := nI 1) dL_law_240 (by decide) ?_
  refine N_iadd h dL_law_241 ?_
  refine L_sld h hX hbl hbA (by omega) (by omega) dL_law_242 ?_
  refine J_aload_n h (i := 0) dL_law_243 rfl 0 rfl ?_
  refine J_iload_n h (i := 3) dL_law_244 rfl 3 rfl ?_
  refine J_iconst h (v := nI 2) dL_law_245 (by decide) ?_
  refine N_iadd h dL_law_246 ?_
  refine L_sld h hX hbl hbA (by omega) (by omega) dL_law_247 ?_
  refine J.swp ?_
  refine km_cell (th := th) (ow := ow) (rest := []) h hrc hco hro hrel  (xi (n + 1)) (xi (n + 2)) nm_L_35 (by decide) (Nat.le_of_ble_eq_true rfl) (Nat.le_refl _) (Nat.le_refl _) dL_law_248 (fun r_m hm => ?_)
  refine J.swp ?_
  refine J_pop h dL_law_251 rfl ?_
  refine J_goto h 1034 dL_law_252 (by decide) ?_
  exact hcont (hI0)

set_option maxRecDepth 100000 in
set_option maxHeartbeats 4000000 in
theorem lc_5 (X : Cx) {cI cE : ClassId} (h : Ok X cL_law RL 4 cI cE 9 72 3197) {z0 : Nat} {g0 : Nat} {a0 : Nat} {f0 : Nat} {s0 : Nat} {k0 : Nat} {v0 : Nat} {d0 : Nat} {y0 : Nat} {m0 : Nat} {o0 : Nat} {g1 : Nat} {a1 : Nat} {a2 : Nat} {f1 : Nat} {f2 : Nat} {s1 : Nat} {eA : Nat → Nat} {tA : Nat → Nat} {oA : Nat → Nat} {k1 : Nat} {eK : Nat → Nat} {tK : Nat → Nat} {oK : Nat → Nat} {v1 : Nat} {v2 : Nat} {v3 : Nat} {d1 : Nat} {d2 : Nat} {m1 : Nat} {m2 : Nat} {o1 : Nat} {o2 : Nat} {q0 : Nat} {q3 : Nat} {q4 : Nat} {q6 : Nat} {q7 : Nat} {q8 : Nat} {q9 : Nat} {q14 : Nat} {q15 : Nat} {q17 : Nat} {q18 : Nat} {q19 : Nat} {q23 : Nat} {q24 : Nat} {q25 : Nat} {b L n : Nat} {xi : Nat → Int32} (hX : va_X b L xi (xs X) (xs X).heap) (hbl : b < (xs X).heap.size) (hbA : ¬ xA X b) (hL : L ≤ 384) (hn : n + 6 ≤ L) (hcont : ∀ {lx : Nat → Nat} {tl : Nat} {th : Nat → Int32} {ow : Nat → Int32} {co : Nat} {ro : Nat} {sl : Int32} {dth : Nat → Int32} {dow : Nat → Int32} {dco : Int32} {dro : Int32} {dsl : Int32} {thS : Nat → Nat → Int32} {owS : Nat → Nat → Int32} {coS : Nat → Int32} {roS : Nat → Int32} {slS : Nat → Int32} {nx : Nat} {sz : Nat} {thK : Nat → Nat → Int32} {owK : Nat → Nat → Int32} {coK : Nat → Int32} {roK : Nat → Int32} {slK : Nat → Int32} {nk : Nat} {zk : Nat} {kx : Nat → Nat} {kw : Nat → Nat} {ke : Nat → Nat} {sn : Nat} {ce : Nat → Int32} {se : Nat → Int32} {len : Int32} {en : Int32} {cd : Int32} {tk : Int32} {mk : Nat → Int32} {wg : Nat → Int32} {wn : Int32} {wa : Nat → Int32} {nw : Nat → Int32} {ab : Int32} {be : Int32} {roM : Nat} {coM : Nat} {slM : Int32} {snM : Nat} {tsM : Nat} {raM : Int32} {rrM : Int32} {rwM : Int32} {rnM : Int32} {umM : Nat} {bsM : Int32} {bhM : Int32} {kmM : Nat} {thM : Nat → Int32} {moM : Nat → Int32} {kxM : Nat → Nat} {kwM : Nat → Nat} {keM : Nat → Nat} {lxM : Nat → Nat} {rlM : Nat → Int32} {rgM : Nat → Int32} {ceM : Nat → Int32} {seM : Nat → Int32} {ahM : Nat → Int32} {mkM : Nat → Int32} {asM : Nat → Int32} {kpM : Nat → Int32}, IV lx tl th ow co ro thS owS coS roS nx sz thK owK coK roK nk zk kx kw ke sn lxM tsM thM moM coM roM ahM umM kpM kmM kxM kwM keM snM → J X 4 72 3197 1034 [(0, .ref b), (1, .ref z0), (2, .ref q0), (3, .int (nI n))] [] (WX cI cE z0 g0 a0 f0 s0 k0 v0 d0 y0 m0 o0 g1 a1 a2 f1 f2 s1 eA tA oA k1 eK tK oK v1 v2 v3 d1 d2 m1 m2 o1 o2 lx tl th ow co ro sl dth dow dco dro dsl thS owS coS roS slS nx sz thK owK coK roK slK nk zk kx kw ke sn ce se len en cd tk mk wg wn wa nw ab be ++ WM cI q0 q3 q4 q6 q7 q8 q9 q14 q15 q17 q18 q19 q23 q24 q25 roM coM slM snM tsM raM rrM rwM rnM umM bsM bhM kmM thM moM kxM kwM keM lxM rlM rgM ceM seM ahM mkM asM kpM)) {lx : Nat → Nat} {tl : Nat} {th : Nat → Int32} {ow : Nat → Int32} {co : Nat} {ro : Nat} {sl : Int32} {dth : Nat → Int32} {dow : Nat → Int32} {dco : Int32} {dro : Int32} {dsl : Int32} {thS : Nat → Nat → Int32} {owS : Nat → Nat → Int32} {coS : Nat → Int32} {roS : Nat → Int32} {slS : Nat → Int32} {nx : Nat} {sz : Nat} {thK : Nat → Nat → Int32} {owK : Nat → Nat → Int32} {coK : Nat → Int32} {roK : Nat → Int32} {slK : Nat → Int32} {nk : Nat} {zk : Nat} {kx : Nat → Nat} {kw : Nat → Nat} {ke : Nat → Nat} {sn : Nat} {ce : Nat → Int32} {se : Nat → Int32} {len : Int32} {en : Int32} {cd : Int32} {tk : Int32} {mk : Nat → Int32} {wg : Nat → Int32} {wn : Int32} {wa : Nat → Int32} {nw : Nat → Int32} {ab : Int32} {be : Int32} {roM : Nat} {coM : Nat} {slM : Int32} {snM : Nat} {tsM : Nat} {raM : Int32} {rrM : Int32} {rwM : Int32} {rnM : Int32} {umM : Nat} {bsM : Int32} {bhM : Int32} {kmM : Nat} {thM : Nat → Int32} {moM : Nat → Int32} {kxM : Nat → Nat} {kwM : Nat → Nat} {keM : Nat → Nat} {lxM : Nat → Nat} {rlM : Nat → Int32} {rgM : Nat → Int32} {ceM : Nat → Int32} {seM : Nat → Int32} {ahM : Nat → Int32} {mkM : Nat → Int32} {asM : Nat → Int32} {kpM : Nat → Int32} (hI : IV lx tl th ow co ro thS owS coS roS nx sz thK owK coK roK nk zk kx kw ke sn lxM tsM thM moM coM roM ahM umM kpM kmM kxM kwM keM snM) : J X 4 72 3197 255 [(0, .ref b), (1, .ref z0), (2, .ref q0), (3, .int (nI n))] [] (WX cI cE z0 g0 a0 f0 s0 k0 v0 d0 y0 m0 o0 g1 a1 a2 f1 f2 s1 eA tA oA k1 eK tK oK v1 v2 v3 d1 d2 m1 m2 o1 o2 lx tl th ow co ro sl dth dow dco dro dsl thS owS coS roS slS nx sz thK owK coK roK slK nk zk kx kw ke sn ce se len en cd tk mk wg wn wa nw ab be ++ WM cI q0 q3 q4 q6 q7 q8 q9 q14 q15 q17 q18 q19 q23 q24 q25 roM coM slM snM tsM raM rrM rwM rnM umM bsM bhM kmM thM moM kxM kwM keM lxM rlM rgM ceM seM ahM mkM asM kpM) := by
  have hI0 := hI
  obtain ⟨⟨rfl, rfl, rfl, rfl, rfl, rfl, rfl, rfl, rfl⟩, ⟨hlx, hlxM, hle, htl⟩, ⟨hrc, hco, hro, hc0, hr0⟩, hrel, ⟨hnx, hsz, hrg⟩, ⟨hnk, hzk, hrk⟩, hsn, hk⟩ := hI
  refine J_aload_n h (i := 1) dL_law_255 rfl 1 rfl ?_
  refine J_aload_n h (i := 0) dL_law_256 rfl 0 rfl ?_
  refine J_iload_n h (i := 3) dL_law_257 rfl 3 rfl ?_
  refine J_iconst h (v := nI 1) dL_law_258 (by decide) ?_
  refine N_iadd h dL_law_259 ?_
  refine L_sld h hX hbl hbA (by omega) (by omega) dL_law_260 ?_
  refine J_aload_n h (i := 0) dL_law_261 rfl 0 rfl ?_
  refine J_iload_n h (i := 3) dL_law_262 rfl 3 rfl ?_
  refine J_iconst h (v := nI 2) dL_law_263 (by decide) ?_
  refine N_iadd h dL_law_264 ?_
  refine L_sld h hX hbl hbA (by omega) (by omega) dL_law_265 ?_
  refine J_aload_n h (i := 0) dL_law_266 rfl 0 rfl ?_
  refine J_iload_n h (i := 3) dL_law_267 rfl 3 rfl ?_
  refine J_iconst h (v := nI 3) dL_law_268 (by decide) ?_
  refine N_iadd h dL_law_269 ?_
  refine L_sld h hX hbl hbA (by omega) (by omega) dL_law_270 ?_
  refine kx_stops  (rest := []) h hrc hco hro  (xi (n + 1)) (xi (n + 2)) (xi (n + 3)) nm_L_36 (by decide) (Nat.le_of_ble_eq_true rfl) (Nat.le_refl _) (Nat.le_refl _) dL_law_271 (fun r_x ce2 se2 ln2 en2 hx => ?_)
  refine J_pop h dL_law_274 rfl ?_
  refine J_aload_n h (i := 2) dL_law_275 rfl 2 rfl ?_
  refine J_aload_n h (i := 0) dL_law_276 rfl 0 rfl ?_
  refine J_iload_n h (i := 3) dL_law_277 rfl 3 rfl ?_
  refine J_iconst h (v := nI 1) dL_law_278 (by decide) ?_
  refine N_iadd h dL_law_279 ?_
  refine L_sld h hX hbl hbA (by omega) (by omega) dL_law_280 ?_
  refine J_aload_n h (i := 0) dL_law_281 rfl 0 rfl ?_
  refine J_iload_n h (i := 3) dL_law_282 rfl 3 rfl ?_
  refine J_iconst h (v := nI 2) dL_law_283 (by decide) ?_
  refine N_iadd h dL_law_284 ?_
  refine L_sld h hX hbl hbA (by omega) (by omega) dL_law_285 ?_
  refine J_aload_n h (i := 0) dL_law_286 rfl 0 rfl ?_
  refine J_iload_n h (i := 3) dL_law_287 rfl 3 rfl ?_
  refine J_iconst h (v := nI 3) dL_law_288 (by decide) ?_
  refine N_iadd h dL_law_289 ?_
  refine L_sld h hX hbl hbA (by omega) (by omega) dL_law_290 ?_
  refine J.swp ?_
  refine km_stops (th := th) (ow := ow) (rest := []) h hrc hco hro hrel  (xi (n + 1)) (xi (n + 2)) (xi (n + 3)) nm_L_40 (by decide) (Nat.le_of_ble_eq_true rfl) (Nat.le_refl _) (Nat.le_refl _) dL_law_291 (fun r_m ce2M se2M hm => ?_)
  refine J.swp ?_
  refine J_pop h dL_law_294 rfl ?_
  refine J_goto h 1034 dL_law_295 (by decide) ?_
  exact hcont (hI0)

set_option maxRecDepth 100000 in
set_option maxHeartbeats 4000000 in
theorem lc_6 (X : Cx) {cI cE : ClassId} (h : Ok X cL_law RL 4 cI cE 9 72 3197) {z0 : Nat} {g0 : Nat} {a0 : Nat} {f0 : Nat} {s0 : Nat} {k0 : Nat} {v0 : Nat} {d0 : Nat} {y0 : Nat} {m0 : Nat} {o0 : Nat} {g1 : Nat} {a1 : Nat} {a2 : Nat} {f1 : Nat} {f2 : Nat} {s1 : Nat} {eA : Nat → Nat} {tA : Nat → Nat} {oA : Nat → Nat} {k1 : Nat} {eK : Nat → Nat} {tK : Nat → Nat} {oK : Nat → Nat} {v1 : Nat} {v2 : Nat} {v3 : Nat} {d1 : Nat} {d2 : Nat} {m1 : Nat} {m2 : Nat} {o1 : Nat} {o2 : Nat} {q0 : Nat} {q3 : Nat} {q4 : Nat} {q6 : Nat} {q7 : Nat} {q8 : Nat} {q9 : Nat} {q14 : Nat} {q15 : Nat} {q17 : Nat} {q18 : Nat} {q19 : Nat} {q23 : Nat} {q24 : Nat} {q25 : Nat} {b L n : Nat} {xi : Nat → Int32} (hX : va_X b L xi (xs X) (xs X).heap) (hbl : b < (xs X).heap.size) (hbA : ¬ xA X b) (hL : L ≤ 384) (hn : n + 6 ≤ L) (hcont : ∀ {lx : Nat → Nat} {tl : Nat} {th : Nat → Int32} {ow : Nat → Int32} {co : Nat} {ro : Nat} {sl : Int32} {dth : Nat → Int32} {dow : Nat → Int32} {dco : Int32} {dro : Int32} {dsl : Int32} {thS : Nat → Nat → Int32} {owS : Nat → Nat → Int32} {coS : Nat → Int32} {roS : Nat → Int32} {slS : Nat → Int32} {nx : Nat} {sz : Nat} {thK : Nat → Nat → Int32} {owK : Nat → Nat → Int32} {coK : Nat → Int32} {roK : Nat → Int32} {slK : Nat → Int32} {nk : Nat} {zk : Nat} {kx : Nat → Nat} {kw : Nat → Nat} {ke : Nat → Nat} {sn : Nat} {ce : Nat → Int32} {se : Nat → Int32} {len : Int32} {en : Int32} {cd : Int32} {tk : Int32} {mk : Nat → Int32} {wg : Nat → Int32} {wn : Int32} {wa : Nat → Int32} {nw : Nat → Int32} {ab : Int32} {be : Int32} {roM : Nat} {coM : Nat} {slM : Int32} {snM : Nat} {tsM : Nat} {raM : Int32} {rrM : Int32} {rwM : Int32} {rnM : Int32} {umM : Nat} {bsM : Int32} {bhM : Int32} {kmM : Nat} {thM : Nat → Int32} {moM : Nat → Int32} {kxM : Nat → Nat} {kwM : Nat → Nat} {keM : Nat → Nat} {lxM : Nat → Nat} {rlM : Nat → Int32} {rgM : Nat → Int32} {ceM : Nat → Int32} {seM : Nat → Int32} {ahM : Nat → Int32} {mkM : Nat → Int32} {asM : Nat → Int32} {kpM : Nat → Int32}, IV lx tl th ow co ro thS owS coS roS nx sz thK owK coK roK nk zk kx kw ke sn lxM tsM thM moM coM roM ahM umM kpM kmM kxM kwM keM snM → J X 4 72 3197 1034 [(0, .ref b), (1, .ref z0), (2, .ref q0), (3, .int (nI n))] [] (WX cI cE z0 g0 a0 f0 s0 k0 v0 d0 y0 m0 o0 g1 a1 a2 f1 f2 s1 eA tA oA k1 eK tK oK v1 v2 v3 d1 d2 m1 m2 o1 o2 lx tl th ow co ro sl dth dow dco dro dsl thS owS coS roS slS nx sz thK owK coK roK slK nk zk kx kw ke sn ce se len en cd tk mk wg wn wa nw ab be ++ WM cI q0 q3 q4 q6 q7 q8 q9 q14 q15 q17 q18 q19 q23 q24 q25 roM coM slM snM tsM raM rrM rwM rnM umM bsM bhM kmM thM moM kxM kwM keM lxM rlM rgM ceM seM ahM mkM asM kpM)) {lx : Nat → Nat} {tl : Nat} {th : Nat → Int32} {ow : Nat → Int32} {co : Nat} {ro : Nat} {sl : Int32} {dth : Nat → Int32} {dow : Nat → Int32} {dco : Int32} {dro : Int32} {dsl : Int32} {thS : Nat → Nat → Int32} {owS : Nat → Nat → Int32} {coS : Nat → Int32} {roS : Nat → Int32} {slS : Nat → Int32} {nx : Nat} {sz : Nat} {thK : Nat → Nat → Int32} {owK : Nat → Nat → Int32} {coK : Nat → Int32} {roK : Nat → Int32} {slK : Nat → Int32} {nk : Nat} {zk : Nat} {kx : Nat → Nat} {kw : Nat → Nat} {ke : Nat → Nat} {sn : Nat} {ce : Nat → Int32} {se : Nat → Int32} {len : Int32} {en : Int32} {cd : Int32} {tk : Int32} {mk : Nat → Int32} {wg : Nat → Int32} {wn : Int32} {wa : Nat → Int32} {nw : Nat → Int32} {ab : Int32} {be : Int32} {roM : Nat} {coM : Nat} {slM : Int32} {snM : Nat} {tsM : Nat} {raM : Int32} {rrM : Int32} {rwM : Int32} {rnM : Int32} {umM : Nat} {bsM : Int32} {bhM : Int32} {kmM : Nat} {thM : Nat → Int32} {moM : Nat → Int32} {kxM : Nat → Nat} {kwM : Nat → Nat} {keM : Nat → Nat} {lxM : Nat → Nat} {rlM : Nat → Int32} {rgM : Nat → Int32} {ceM : Nat → Int32} {seM : Nat → Int32} {ahM : Nat → Int32} {mkM : Nat → Int32} {asM : Nat → Int32} {kpM : Nat → Int32} (hI : IV lx tl th ow co ro thS owS coS roS nx sz thK owK coK roK nk zk kx kw ke sn lxM tsM thM moM coM roM ahM umM kpM kmM kxM kwM keM snM) : J X 4 72 3197 298 [(0, .ref b), (1, .ref z0), (2, .ref q0), (3, .int (nI n))] [] (WX cI cE z0 g0 a0 f0 s0 k0 v0 d0 y0 m0 o0 g1 a1 a2 f1 f2 s1 eA tA oA k1 eK tK oK v1 v2 v3 d1 d2 m1 m2 o1 o2 lx tl th ow co ro sl dth dow dco dro dsl thS owS coS roS slS nx sz thK owK coK roK slK nk zk kx kw ke sn ce se len en cd tk mk wg wn wa nw ab be ++ WM cI q0 q3 q4 q6 q7 q8 q9 q14 q15 q17 q18 q19 q23 q24 q25 roM coM slM snM tsM raM rrM rwM rnM umM bsM bhM kmM thM moM kxM kwM keM lxM rlM rgM ceM seM ahM mkM asM kpM) := by
  have hI0 := hI
  obtain ⟨⟨rfl, rfl, rfl, rfl, rfl, rfl, rfl, rfl, rfl⟩, ⟨hlx, hlxM, hle, htl⟩, ⟨hrc, hco, hro, hc0, hr0⟩, hrel, ⟨hnx, hsz, hrg⟩, ⟨hnk, hzk, hrk⟩, hsn, hk⟩ := hI
  refine J_aload_n h (i := 1) dL_law_298 rfl 1 rfl ?_
  refine J_aload_n h (i := 0) dL_law_299 rfl 0 rfl ?_
  refine J_iload_n h (i := 3) dL_law_300 rfl 3 rfl ?_
  refine J_iconst h (v := nI 1) dL_law_301 (by decide) ?_
  refine N_iadd h dL_law_302 ?_
  refine L_sld h hX hbl hbA (by omega) (by omega) dL_law_303 ?_
  refine J_aload_n h (i := 0) dL_law_304 rfl 0 rfl ?_
  refine J_iload_n h (i := 3) dL_law_305 rfl 3 rfl ?_
  refine J_iconst h (v := nI 2) dL_law_306 (by decide) ?_
  refine N_iadd h dL_law_307 ?_
  refine L_sld h hX hbl hbA (by omega) (by omega) dL_law_308 ?_
  refine J_aload_n h (i := 0) dL_law_309 rfl 0 rfl ?_
  refine J_iload_n h (i := 3) dL_law_310 rfl 3 rfl ?_
  refine J_iconst h (v := nI 3) dL_law_311 (by decide) ?_
  refine N_iadd h dL_law_312 ?_
  refine L_sld h hX hbl hbA (by omega) (by omega) dL_law_313 ?_
  refine J_aload_n h (i := 0) dL_law_314 rfl 0 rfl ?_
  refine J_iload_n h (i := 3) dL_law_315 rfl 3 rfl ?_
  refine J_iconst h (v := nI 4) dL_law_316 (by decide) ?_
  refine N_iadd h dL_law_317 ?_
  refine L_sld h hX hbl hbA (by omega) (by omega) dL_law_318 ?_
  refine J_aload_n h (i := 0) dL_law_319 rfl 0 rfl ?_
  refine J_iload_n h (i := 3) dL_law_320 rfl 3 rfl ?_
  refine J_iconst h (v := nI 5) dL_law_321 (by decide) ?_
  refine N_iadd h dL_law_322 ?_
  refine L_sld h hX hbl hbA (by omega) (by omega) dL_law_323 ?_
  refine kx_track  (rest := []) h hrc hco hro  (xi (n + 1)) (xi (n + 2)) (xi (n + 3)) (xi (n + 4)) (xi (n + 5)) nm_L_41 (by decide) (Nat.le_of_ble_eq_true rfl) (Nat.le_refl _) (Nat.le_refl _) dL_law_324 (fun r_x ce2 se2 ln2 en2 hx => ?_)
  refine J_pop h dL_law_327 rfl ?_
  refine J_aload_n h (i := 2) dL_law_328 rfl 2 rfl ?_
  refine J_aload_n h (i := 0) dL_law_329 rfl 0 rfl ?_
  refine J_iload_n h (i := 3) dL_law_330 rfl 3 rfl ?_
  refine J_iconst h (v := nI 1) dL_law_331 (by decide) ?_
  refine N_iadd h dL_law_332 ?_
  refine L_sld h hX hbl hbA (by omega) (by omega) dL_law_333 ?_
  refine J_aload_n h (i := 0) dL_law_334 rfl 0 rfl ?_
  refine J_iload_n h (i := 3) dL_law_335 rfl 3 rfl ?_
  refine J_iconst h (v := nI 2) dL_law_336 (by decide) ?_
  refine N_iadd h dL_law_337 ?_
  refine L_sld h hX hbl hbA (by omega) (by omega) dL_law_338 ?_
  refine J_aload_n h (i := 0) dL_law_339 rfl 0 rfl ?_
  refine J_iload_n h (i := 3) dL_law_340 rfl 3 rfl ?_
  refine J_iconst h (v := nI 3) dL_law_341 (by decide) ?_
  refine N_iadd h dL_law_342 ?_
  refine L_sld h hX hbl hbA (by omega) (by omega) dL_law_343 ?_
  refine J_aload_n h (i := 0) dL_law_344 rfl 0 rfl ?_
  refine J_iload_n h (i := 3) dL_law_345 rfl 3 rfl ?_
  refine J_iconst h (v := nI 4) dL_law_346 (by decide) ?_
  refine N_iadd h dL_law_347 ?_
  refine L_sld h hX hbl hbA (by omega) (by omega) dL_law_348 ?_
  refine J_aload_n h (i := 0) dL_law_349 rfl 0 rfl ?_
  refine J_iload_n h (i := 3) dL_law_350 rfl 3 rfl ?_
  refine J_iconst h (v := nI 5) dL_law_351 (by decide) ?_
  refine N_iadd h dL_law_352 ?_
  refine L_sld h hX hbl hbA (by omega) (by omega) dL_law_353 ?_
  refine J.swp ?_
  refine km_track (th := th) (ow := ow) (rest := []) h hrc hco hro hrel  (xi (n + 1)) (xi (n + 2)) (xi (n + 3)) (xi (n + 4)) (xi (n + 5)) nm_L_45 (by decide) (Nat.le_of_ble_eq_true rfl) (Nat.le_refl _) (Nat.le_refl _) dL_law_354 (fun r_m ce2M se2M hm => ?_)
  refine J.swp ?_
  refine J_pop h dL_law_357 rfl ?_
  refine J_goto h 1034 dL_law_358 (by decide) ?_
  exact hcont (hI0)

set_option maxRecDepth 100000 in
set_option maxHeartbeats 4000000 in
theorem lc_7 (X : Cx) {cI cE : ClassId} (h : Ok X cL_law RL 4 cI cE 9 72 3197) {z0 : Nat} {g0 : Nat} {a0 : Nat} {f0 : Nat} {s0 : Nat} {k0 : Nat} {v0 : Nat} {d0 : Nat} {y0 : Nat} {m0 : Nat} {o0 : Nat} {g1 : Nat} {a1 : Nat} {a2 : Nat} {f1 : Nat} {f2 : Nat} {s1 : Nat} {eA : Nat → Nat} {tA : Nat → Nat} {oA : Nat → Nat} {k1 : Nat} {eK : Nat → Nat} {tK : Nat → Nat} {oK : Nat → Nat} {v1 : Nat} {v2 : Nat} {v3 : Nat} {d1 : Nat} {d2 : Nat} {m1 : Nat} {m2 : Nat} {o1 : Nat} {o2 : Nat} {q0 : Nat} {q3 : Nat} {q4 : Nat} {q6 : Nat} {q7 : Nat} {q8 : Nat} {q9 : Nat} {q14 : Nat} {q15 : Nat} {q17 : Nat} {q18 : Nat} {q19 : Nat} {q23 : Nat} {q24 : Nat} {q25 : Nat} {b L n : Nat} {xi : Nat → Int32} (hX : va_X b L xi (xs X) (xs X).heap) (hbl : b < (xs X).heap.size) (hbA : ¬ xA X b) (hL : L ≤ 384) (hn : n + 6 ≤ L) (hcont : ∀ {lx : Nat → Nat} {tl : Nat} {th : Nat → Int32} {ow : Nat → Int32} {co : Nat} {ro : Nat} {sl : Int32} {dth : Nat → Int32} {dow : Nat → Int32} {dco : Int32} {dro : Int32} {dsl : Int32} {thS : Nat → Nat → Int32} {owS : Nat → Nat → Int32} {coS : Nat → Int32} {roS : Nat → Int32} {slS : Nat → Int32} {nx : Nat} {sz : Nat} {thK : Nat → Nat → Int32} {owK : Nat → Nat → Int32} {coK : Nat → Int32} {roK : Nat → Int32} {slK : Nat → Int32} {nk : Nat} {zk : Nat} {kx : Nat → Nat} {kw : Nat → Nat} {ke : Nat → Nat} {sn : Nat} {ce : Nat → Int32} {se : Nat → Int32} {len : Int32} {en : Int32} {cd : Int32} {tk : Int32} {mk : Nat → Int32} {wg : Nat → Int32} {wn : Int32} {wa : Nat → Int32} {nw : Nat → Int32} {ab : Int32} {be : Int32} {roM : Nat} {coM : Nat} {slM : Int32} {snM : Nat} {tsM : Nat} {raM : Int32} {rrM : Int32} {rwM : Int32} {rnM : Int32} {umM : Nat} {bsM : Int32} {bhM : Int32} {kmM : Nat} {thM : Nat → Int32} {moM : Nat → Int32} {kxM : Nat → Nat} {kwM : Nat → Nat} {keM : Nat → Nat} {lxM : Nat → Nat} {rlM : Nat → Int32} {rgM : Nat → Int32} {ceM : Nat → Int32} {seM : Nat → Int32} {ahM : Nat → Int32} {mkM : Nat → Int32} {asM : Nat → Int32} {kpM : Nat → Int32}, IV lx tl th ow co ro thS owS coS roS nx sz thK owK coK roK nk zk kx kw ke sn lxM tsM thM moM coM roM ahM umM kpM kmM kxM kwM keM snM → J X 4 72 3197 1034 [(0, .ref b), (1, .ref z0), (2, .ref q0), (3, .int (nI n))] [] (WX cI cE z0 g0 a0 f0 s0 k0 v0 d0 y0 m0 o0 g1 a1 a2 f1 f2 s1 eA tA oA k1 eK tK oK v1 v2 v3 d1 d2 m1 m2 o1 o2 lx tl th ow co ro sl dth dow dco dro dsl thS owS coS roS slS nx sz thK owK coK roK slK nk zk kx kw ke sn ce se len en cd tk mk wg wn wa nw ab be ++ WM cI q0 q3 q4 q6 q7 q8 q9 q14 q15 q17 q18 q19 q23 q24 q25 roM coM slM snM tsM raM rrM rwM rnM umM bsM bhM kmM thM moM kxM kwM keM lxM rlM rgM ceM seM ahM mkM asM kpM)) {lx : Nat → Nat} {tl : Nat} {th : Nat → Int32} {ow : Nat → Int32} {co : Nat} {ro : Nat} {sl : Int32} {dth : Nat → Int32} {dow : Nat → Int32} {dco : Int32} {dro : Int32} {dsl : Int32} {thS : Nat → Nat → Int32} {owS : Nat → Nat → Int32} {coS : Nat → Int32} {roS : Nat → Int32} {slS : Nat → Int32} {nx : Nat} {sz : Nat} {thK : Nat → Nat → Int32} {owK : Nat → Nat → Int32} {coK : Nat → Int32} {roK : Nat → Int32} {slK : Nat → Int32} {nk : Nat} {zk : Nat} {kx : Nat → Nat} {kw : Nat → Nat} {ke : Nat → Nat} {sn : Nat} {ce : Nat → Int32} {se : Nat → Int32} {len : Int32} {en : Int32} {cd : Int32} {tk : Int32} {mk : Nat → Int32} {wg : Nat → Int32} {wn : Int32} {wa : Nat → Int32} {nw : Nat → Int32} {ab : Int32} {be : Int32} {roM : Nat} {coM : Nat} {slM : Int32} {snM : Nat} {tsM : Nat} {raM : Int32} {rrM : Int32} {rwM : Int32} {rnM : Int32} {umM : Nat} {bsM : Int32} {bhM : Int32} {kmM : Nat} {thM : Nat → Int32} {moM : Nat → Int32} {kxM : Nat → Nat} {kwM : Nat → Nat} {keM : Nat → Nat} {lxM : Nat → Nat} {rlM : Nat → Int32} {rgM : Nat → Int32} {ceM : Nat → Int32} {seM : Nat → Int32} {ahM : Nat → Int32} {mkM : Nat → Int32} {asM : Nat → Int32} {kpM : Nat → Int32} (hI : IV lx tl th ow co ro thS owS coS roS nx sz thK owK coK roK nk zk kx kw ke sn lxM tsM thM moM coM roM ahM umM kpM kmM kxM kwM keM snM) : J X 4 72 3197 361 [(0, .ref b), (1, .ref z0), (2, .ref q0), (3, .int (nI n))] [] (WX cI cE z0 g0 a0 f0 s0 k0 v0 d0 y0 m0 o0 g1 a1 a2 f1 f2 s1 eA tA oA k1 eK tK oK v1 v2 v3 d1 d2 m1 m2 o1 o2 lx tl th ow co ro sl dth dow dco dro dsl thS owS coS roS slS nx sz thK owK coK roK slK nk zk kx kw ke sn ce se len en cd tk mk wg wn wa nw ab be ++ WM cI q0 q3 q4 q6 q7 q8 q9 q14 q15 q17 q18 q19 q23 q24 q25 roM coM slM snM tsM raM rrM rwM rnM umM bsM bhM kmM thM moM kxM kwM keM lxM rlM rgM ceM seM ahM mkM asM kpM) := by
  have hI0 := hI
  obtain ⟨⟨rfl, rfl, rfl, rfl, rfl, rfl, rfl, rfl, rfl⟩, ⟨hlx, hlxM, hle, htl⟩, ⟨hrc, hco, hro, hc0, hr0⟩, hrel, ⟨hnx, hsz, hrg⟩, ⟨hnk, hzk, hrk⟩, hsn, hk⟩ := hI
  refine J_aload_n h (i := 1) dL_law_361 rfl 1 rfl ?_
  refine J_aload_n h (i := 0) dL_law_362 rfl 0 rfl ?_
  refine J_iload_n h (i := 3) dL_law_363 rfl 3 rfl ?_
  refine J_iconst h (v := nI 1) dL_law_364 (by decide) ?_
  refine N_iadd h dL_law_365 ?_
  refine L_sld h hX hbl hbA (by omega) (by omega) dL_law_366 ?_
  refine kx_holds  (rest := []) h hrc hco hro  (xi (n + 1)) nm_L_46 (by decide) (Nat.le_of_ble_eq_true rfl) (Nat.le_refl _) (Nat.le_refl _) dL_law_367 (fun r_x hx => ?_)
  refine J_pop h dL_law_370 rfl ?_
  refine J_aload_n h (i := 2) dL_law_371 rfl 2 rfl ?_
  refine J_aload_n h (i := 0) dL_law_372 rfl 0 rfl ?_
  refine J_iload_n h (i := 3) dL_law_373 rfl 3 rfl ?_
  refine J_iconst h (v := nI 1) dL_law_374 (by decide) ?_
  refine N_iadd h dL_law_375 ?_
  refine L_sld h hX hbl hbA (by omega) (by omega) dL_law_376 ?_
  refine J.swp ?_
  refine km_holds (th := th) (ow := ow) (rest := []) h hrc hco hro hrel  (xi (n + 1)) nm_L_49 (by decide) (Nat.le_of_ble_eq_true rfl) (Nat.le_refl _) (Nat.le_refl _) dL_law_377 (fun r_m hm => ?_)
  refine J.swp ?_
  refine J_pop h dL_law_380 rfl ?_
  refine J_goto h 1034 dL_law_381 (by decide) ?_
  exact hcont (hI0)

set_option maxRecDepth 100000 in
set_option maxHeartbeats 4000000 in
theorem lc_8 (X : Cx) {cI cE : ClassId} (h : Ok X cL_law RL 4 cI cE 9 72 3197) {z0 : Nat} {g0 : Nat} {a0 : Nat} {f0 : Nat} {s0 : Nat} {k0 : Nat} {v0 : Nat} {d0 : Nat} {y0 : Nat} {m0 : Nat} {o0 : Nat} {g1 : Nat} {a1 : Nat} {a2 : Nat} {f1 : Nat} {f2 : Nat} {s1 : Nat} {eA : Nat → Nat} {tA : Nat → Nat} {oA : Nat → Nat} {k1 : Nat} {eK : Nat → Nat} {tK : Nat → Nat} {oK : Nat → Nat} {v1 : Nat} {v2 : Nat} {v3 : Nat} {d1 : Nat} {d2 : Nat} {m1 : Nat} {m2 : Nat} {o1 : Nat} {o2 : Nat} {q0 : Nat} {q3 : Nat} {q4 : Nat} {q6 : Nat} {q7 : Nat} {q8 : Nat} {q9 : Nat} {q14 : Nat} {q15 : Nat} {q17 : Nat} {q18 : Nat} {q19 : Nat} {q23 : Nat} {q24 : Nat} {q25 : Nat} {b L n : Nat} {xi : Nat → Int32} (hX : va_X b L xi (xs X) (xs X).heap) (hbl : b < (xs X).heap.size) (hbA : ¬ xA X b) (hL : L ≤ 384) (hn : n + 6 ≤ L) (hcont : ∀ {lx : Nat → Nat} {tl : Nat} {th : Nat → Int32} {ow : Nat → Int32} {co : Nat} {ro : Nat} {sl : Int32} {dth : Nat → Int32} {dow : Nat → Int32} {dco : Int32} {dro : Int32} {dsl : Int32} {thS : Nat → Nat → Int32} {owS : Nat → Nat → Int32} {coS : Nat → Int32} {roS : Nat → Int32} {slS : Nat → Int32} {nx : Nat} {sz : Nat} {thK : Nat → Nat → Int32} {owK : Nat → Nat → Int32} {coK : Nat → Int32} {roK : Nat → Int32} {slK : Nat → Int32} {nk : Nat} {zk : Nat} {kx : Nat → Nat} {kw : Nat → Nat} {ke : Nat → Nat} {sn : Nat} {ce : Nat → Int32} {se : Nat → Int32} {len : Int32} {en : Int32} {cd : Int32} {tk : Int32} {mk : Nat → Int32} {wg : Nat → Int32} {wn : Int32} {wa : Nat → Int32} {nw : Nat → Int32} {ab : Int32} {be : Int32} {roM : Nat} {coM : Nat} {slM : Int32} {snM : Nat} {tsM : Nat} {raM : Int32} {rrM : Int32} {rwM : Int32} {rnM : Int32} {umM : Nat} {bsM : Int32} {bhM : Int32} {kmM : Nat} {thM : Nat → Int32} {moM : Nat → Int32} {kxM : Nat → Nat} {kwM : Nat → Nat} {keM : Nat → Nat} {lxM : Nat → Nat} {rlM : Nat → Int32} {rgM : Nat → Int32} {ceM : Nat → Int32} {seM : Nat → Int32} {ahM : Nat → Int32} {mkM : Nat → Int32} {asM : Nat → Int32} {kpM : Nat → Int32}, IV lx tl th ow co ro thS owS coS roS nx sz thK owK coK roK nk zk kx kw ke sn lxM tsM thM moM coM roM ahM umM kpM kmM kxM kwM keM snM → J X 4 72 3197 1034 [(0, .ref b), (1, .ref z0), (2, .ref q0), (3, .int (nI n))] [] (WX cI cE z0 g0 a0 f0 s0 k0 v0 d0 y0 m0 o0 g1 a1 a2 f1 f2 s1 eA tA oA k1 eK tK oK v1 v2 v3 d1 d2 m1 m2 o1 o2 lx tl th ow co ro sl dth dow dco dro dsl thS owS coS roS slS nx sz thK owK coK roK slK nk zk kx kw ke sn ce se len en cd tk mk wg wn wa nw ab be ++ WM cI q0 q3 q4 q6 q7 q8 q9 q14 q15 q17 q18 q19 q23 q24 q25 roM coM slM snM tsM raM rrM rwM rnM umM bsM bhM kmM thM moM kxM kwM keM lxM rlM rgM ceM seM ahM mkM asM kpM)) {lx : Nat → Nat} {tl : Nat} {th : Nat → Int32} {ow : Nat → Int32} {co : Nat} {ro : Nat} {sl : Int32} {dth : Nat → Int32} {dow : Nat → Int32} {dco : Int32} {dro : Int32} {dsl : Int32} {thS : Nat → Nat → Int32} {owS : Nat → Nat → Int32} {coS : Nat → Int32} {roS : Nat → Int32} {slS : Nat → Int32} {nx : Nat} {sz : Nat} {thK : Nat → Nat → Int32} {owK : Nat → Nat → Int32} {coK : Nat → Int32} {roK : Nat → Int32} {slK : Nat → Int32} {nk : Nat} {zk : Nat} {kx : Nat → Nat} {kw : Nat → Nat} {ke : Nat → Nat} {sn : Nat} {ce : Nat → Int32} {se : Nat → Int32} {len : Int32} {en : Int32} {cd : Int32} {tk : Int32} {mk : Nat → Int32} {wg : Nat → Int32} {wn : Int32} {wa : Nat → Int32} {nw : Nat → Int32} {ab : Int32} {be : Int32} {roM : Nat} {coM : Nat} {slM : Int32} {snM : Nat} {tsM : Nat} {raM : Int32} {rrM : Int32} {rwM : Int32} {rnM : Int32} {umM : Nat} {bsM : Int32} {bhM : Int32} {kmM : Nat} {thM : Nat → Int32} {moM : Nat → Int32} {kxM : Nat → Nat} {kwM : Nat → Nat} {keM : Nat → Nat} {lxM : Nat → Nat} {rlM : Nat → Int32} {rgM : Nat → Int32} {ceM : Nat → Int32} {seM : Nat → Int32} {ahM : Nat → Int32} {mkM : Nat → Int32} {asM : Nat → Int32} {kpM : Nat → Int32} (hI : IV lx tl th ow co ro thS owS coS roS nx sz thK owK coK roK nk zk kx kw ke sn lxM tsM thM moM coM roM ahM umM kpM kmM kxM kwM keM snM) : J X 4 72 3197 384 [(0, .ref b), (1, .ref z0), (2, .ref q0), (3, .int (nI n))] [] (WX cI cE z0 g0 a0 f0 s0 k0 v0 d0 y0 m0 o0 g1 a1 a2 f1 f2 s1 eA tA oA k1 eK tK oK v1 v2 v3 d1 d2 m1 m2 o1 o2 lx tl th ow co ro sl dth dow dco dro dsl thS owS coS roS slS nx sz thK owK coK roK slK nk zk kx kw ke sn ce se len en cd tk mk wg wn wa nw ab be ++ WM cI q0 q3 q4 q6 q7 q8 q9 q14 q15 q17 q18 q19 q23 q24 q25 roM coM slM snM tsM raM rrM rwM rnM umM bsM bhM kmM thM moM kxM kwM keM lxM rlM rgM ceM seM ahM mkM asM kpM) := by
  have hI0 := hI
  obtain ⟨⟨rfl, rfl, rfl, rfl, rfl, rfl, rfl, rfl, rfl⟩, ⟨hlx, hlxM, hle, htl⟩, ⟨hrc, hco, hro, hc0, hr0⟩, hrel, ⟨hnx, hsz, hrg⟩, ⟨hnk, hzk, hrk⟩, hsn, hk⟩ := hI
  refine J_aload_n h (i := 1) dL_law_384 rfl 1 rfl ?_
  refine J_aload_n h (i := 0) dL_law_385 rfl 0 rfl ?_
  refine J_iload_n h (i := 3) dL_law_386 rfl 3 rfl ?_
  refine J_iconst h (v := nI 1) dL_law_387 (by decide) ?_
  refine N_iadd h dL_law_388 ?_
  refine L_sld h hX hbl hbA (by omega) (by omega) dL_law_389 ?_
  refine J_aload_n h (i := 0) dL_law_390 rfl 0 rfl ?_
  refine J_iload_n h (i := 3) dL_law_391 rfl 3 rfl ?_
  refine J_iconst h (v := nI 2) dL_law_392 (by decide) ?_
  refine N_iadd h dL_law_393 ?_
  refine L_sld h hX hbl hbA (by omega) (by omega) dL_law_394 ?_
  refine J_aload_n h (i := 0) dL_law_395 rfl 0 rfl ?_
  refine J_iload_n h (i := 3) dL_law_396 rfl 3 rfl ?_
  refine J_iconst h (v := nI 3) dL_law_397 (by decide) ?_
  refine N_iadd h dL_law_398 ?_
  refine L_sld h hX hbl hbA (by omega) (by omega) dL_law_399 ?_
  refine J_aload_n h (i := 0) dL_law_400 rfl 0 rfl ?_
  refine J_iload_n h (i := 3) dL_law_401 rfl 3 rfl ?_
  refine J_iconst h (v := nI 4) dL_law_402 (by decide) ?_
  refine N_iadd h dL_law_403 ?_
  refine L_sld h hX hbl hbA (by omega) (by omega) dL_law_404 ?_
  refine kx_slide  (rest := []) h hrc hco hro hnx hsz  (xi (n + 1)) (xi (n + 2)) (xi (n + 3)) (xi (n + 4)) nm_L_50 (by decide) (Nat.le_of_ble_eq_true rfl) (Nat.le_refl _) (Nat.le_refl _) dL_law_405 (fun r_x thS2 owS2 coS2 roS2 slS2 nx2 sz2 ow2 sl2 ce2 se2 ln2 en2 hx => ?_)
  refine J_pop h dL_law_408 rfl ?_
  refine J_aload_n h (i := 2) dL_law_409 rfl 2 rfl ?_
  refine J_aload_n h (i := 0) dL_law_410 rfl 0 rfl ?_
  refine J_iload_n h (i := 3) dL_law_411 rfl 3 rfl ?_
  refine J_iconst h (v := nI 1) dL_law_412 (by decide) ?_
  refine N_iadd h dL_law_413 ?_
  refine L_sld h hX hbl hbA (by omega) (by omega) dL_law_414 ?_
  refine J_aload_n h (i := 0) dL_law_415 rfl 0 rfl ?_
  refine J_iload_n h (i := 3) dL_law_416 rfl 3 rfl ?_
  refine J_iconst h (v := nI 2) dL_law_417 (by decide) ?_
  refine N_iadd h dL_law_418 ?_
  refine L_sld h hX hbl hbA (by omega) (by omega) dL_law_419 ?_
  refine J_aload_n h (i := 0) dL_law_420 rfl 0 rfl ?_
  refine J_iload_n h (i := 3) dL_law_421 rfl 3 rfl ?_
  refine J_iconst h (v := nI 3) dL_law_422 (by decide) ?_
  refine N_iadd h dL_law_423 ?_
  refine L_sld h hX hbl hbA (by omega) (by omega) dL_law_424 ?_
  refine J_aload_n h (i := 0) dL_law_425 rfl 0 rfl ?_
  refine J_iload_n h (i := 3) dL_law_426 rfl 3 rfl ?_
  refine J_iconst h (v := nI 4) dL_law_427 (by decide) ?_
  refine N_iadd h dL_law_428 ?_
  refine L_sld h hX hbl hbA (by omega) (by omega) dL_law_429 ?_
  refine J.swp ?_
  refine km_slide (th := th) (ow := ow) (rest := []) h hrc hco hro hrel hsz  (xi (n + 1)) (xi (n + 2)) (xi (n + 3)) (xi (n + 4)) nm_L_54 (by decide) (Nat.le_of_ble_eq_true rfl) (Nat.le_refl _) (Nat.le_refl _) dL_law_430 (fun r_m mo2M sl2M um2M ah2M ce2M se2M hm => ?_)
  refine J.swp ?_
  refine J_pop h dL_law_433 rfl ?_
  refine J_goto h 1034 dL_law_434 (by decide) ?_
  exact hcont (iv_slide hI0 hx hm)

set_option maxRecDepth 100000 in
set_option maxHeartbeats 4000000 in
theorem lc_9 (X : Cx) {cI cE : ClassId} (h : Ok X cL_law RL 4 cI cE 9 72 3197) {z0 : Nat} {g0 : Nat} {a0 : Nat} {f0 : Nat} {s0 : Nat} {k0 : Nat} {v0 : Nat} {d0 : Nat} {y0 : Nat} {m0 : Nat} {o0 : Nat} {g1 : Nat} {a1 : Nat} {a2 : Nat} {f1 : Nat} {f2 : Nat} {s1 : Nat} {eA : Nat → Nat} {tA : Nat → Nat} {oA : Nat → Nat} {k1 : Nat} {eK : Nat → Nat} {tK : Nat → Nat} {oK : Nat → Nat} {v1 : Nat} {v2 : Nat} {v3 : Nat} {d1 : Nat} {d2 : Nat} {m1 : Nat} {m2 : Nat} {o1 : Nat} {o2 : Nat} {q0 : Nat} {q3 : Nat} {q4 : Nat} {q6 : Nat} {q7 : Nat} {q8 : Nat} {q9 : Nat} {q14 : Nat} {q15 : Nat} {q17 : Nat} {q18 : Nat} {q19 : Nat} {q23 : Nat} {q24 : Nat} {q25 : Nat} {b L n : Nat} {xi : Nat → Int32} (hX : va_X b L xi (xs X) (xs X).heap) (hbl : b < (xs X).heap.size) (hbA : ¬ xA X b) (hL : L ≤ 384) (hn : n + 6 ≤ L) (hcont : ∀ {lx : Nat → Nat} {tl : Nat} {th : Nat → Int32} {ow : Nat → Int32} {co : Nat} {ro : Nat} {sl : Int32} {dth : Nat → Int32} {dow : Nat → Int32} {dco : Int32} {dro : Int32} {dsl : Int32} {thS : Nat → Nat → Int32} {owS : Nat → Nat → Int32} {coS : Nat → Int32} {roS : Nat → Int32} {slS : Nat → Int32} {nx : Nat} {sz : Nat} {thK : Nat → Nat → Int32} {owK : Nat → Nat → Int32} {coK : Nat → Int32} {roK : Nat → Int32} {slK : Nat → Int32} {nk : Nat} {zk : Nat} {kx : Nat → Nat} {kw : Nat → Nat} {ke : Nat → Nat} {sn : Nat} {ce : Nat → Int32} {se : Nat → Int32} {len : Int32} {en : Int32} {cd : Int32} {tk : Int32} {mk : Nat → Int32} {wg : Nat → Int32} {wn : Int32} {wa : Nat → Int32} {nw : Nat → Int32} {ab : Int32} {be : Int32} {roM : Nat} {coM : Nat} {slM : Int32} {snM : Nat} {tsM : Nat} {raM : Int32} {rrM : Int32} {rwM : Int32} {rnM : Int32} {umM : Nat} {bsM : Int32} {bhM : Int32} {kmM : Nat} {thM : Nat → Int32} {moM : Nat → Int32} {kxM : Nat → Nat} {kwM : Nat → Nat} {keM : Nat → Nat} {lxM : Nat → Nat} {rlM : Nat → Int32} {rgM : Nat → Int32} {ceM : Nat → Int32} {seM : Nat → Int32} {ahM : Nat → Int32} {mkM : Nat → Int32} {asM : Nat → Int32} {kpM : Nat → Int32}, IV lx tl th ow co ro thS owS coS roS nx sz thK owK coK roK nk zk kx kw ke sn lxM tsM thM moM coM roM ahM umM kpM kmM kxM kwM keM snM → J X 4 72 3197 1034 [(0, .ref b), (1, .ref z0), (2, .ref q0), (3, .int (nI n))] [] (WX cI cE z0 g0 a0 f0 s0 k0 v0 d0 y0 m0 o0 g1 a1 a2 f1 f2 s1 eA tA oA k1 eK tK oK v1 v2 v3 d1 d2 m1 m2 o1 o2 lx tl th ow co ro sl dth dow dco dro dsl thS owS coS roS slS nx sz thK owK coK roK slK nk zk kx kw ke sn ce se len en cd tk mk wg wn wa nw ab be ++ WM cI q0 q3 q4 q6 q7 q8 q9 q14 q15 q17 q18 q19 q23 q24 q25 roM coM slM snM tsM raM rrM rwM rnM umM bsM bhM kmM thM moM kxM kwM keM lxM rlM rgM ceM seM ahM mkM asM kpM)) {lx : Nat → Nat} {tl : Nat} {th : Nat → Int32} {ow : Nat → Int32} {co : Nat} {ro : Nat} {sl : Int32} {dth : Nat → Int32} {dow : Nat → Int32} {dco : Int32} {dro : Int32} {dsl : Int32} {thS : Nat → Nat → Int32} {owS : Nat → Nat → Int32} {coS : Nat → Int32} {roS : Nat → Int32} {slS : Nat → Int32} {nx : Nat} {sz : Nat} {thK : Nat → Nat → Int32} {owK : Nat → Nat → Int32} {coK : Nat → Int32} {roK : Nat → Int32} {slK : Nat → Int32} {nk : Nat} {zk : Nat} {kx : Nat → Nat} {kw : Nat → Nat} {ke : Nat → Nat} {sn : Nat} {ce : Nat → Int32} {se : Nat → Int32} {len : Int32} {en : Int32} {cd : Int32} {tk : Int32} {mk : Nat → Int32} {wg : Nat → Int32} {wn : Int32} {wa : Nat → Int32} {nw : Nat → Int32} {ab : Int32} {be : Int32} {roM : Nat} {coM : Nat} {slM : Int32} {snM : Nat} {tsM : Nat} {raM : Int32} {rrM : Int32} {rwM : Int32} {rnM : Int32} {umM : Nat} {bsM : Int32} {bhM : Int32} {kmM : Nat} {thM : Nat → Int32} {moM : Nat → Int32} {kxM : Nat → Nat} {kwM : Nat → Nat} {keM : Nat → Nat} {lxM : Nat → Nat} {rlM : Nat → Int32} {rgM : Nat → Int32} {ceM : Nat → Int32} {seM : Nat → Int32} {ahM : Nat → Int32} {mkM : Nat → Int32} {asM : Nat → Int32} {kpM : Nat → Int32} (hI : IV lx tl th ow co ro thS owS coS roS nx sz thK owK coK roK nk zk kx kw ke sn lxM tsM thM moM coM roM ahM umM kpM kmM kxM kwM keM snM) : J X 4 72 3197 437 [(0, .ref b), (1, .ref z0), (2, .ref q0), (3, .int (nI n))] [] (WX cI cE z0 g0 a0 f0 s0 k0 v0 d0 y0 m0 o0 g1 a1 a2 f1 f2 s1 eA tA oA k1 eK tK oK v1 v2 v3 d1 d2 m1 m2 o1 o2 lx tl th ow co ro sl dth dow dco dro dsl thS owS coS roS slS nx sz thK owK coK roK slK nk zk kx kw ke sn ce se len en cd tk mk wg wn wa nw ab be ++ WM cI q0 q3 q4 q6 q7 q8 q9 q14 q15 q17 q18 q19 q23 q24 q25 roM coM slM snM tsM raM rrM rwM rnM umM bsM bhM kmM thM moM kxM kwM keM lxM rlM rgM ceM seM ahM mkM asM kpM) := by
  have hI0 := hI
  obtain ⟨⟨rfl, rfl, rfl, rfl, rfl, rfl, rfl, rfl, rfl⟩, ⟨hlx, hlxM, hle, htl⟩, ⟨hrc, hco, hro, hc0, hr0⟩, hrel, ⟨hnx, hsz, hrg⟩, ⟨hnk, hzk, hrk⟩, hsn, hk⟩ := hI
  refine J_aload_n h (i := 1) dL_law_437 rfl 1 rfl ?_
  refine J_aload_n h (i := 0) dL_law_438 rfl 0 rfl ?_
  refine J_iload_n h (i := 3) dL_law_439 rfl 3 rfl ?_
  refine J_iconst h (v := nI 1) dL_law_440 (by decide) ?_
  refine N_iadd h dL_law_441 ?_
  refine L_sld h hX hbl hbA (by omega) (by omega) dL_law_442 ?_
  refine J_aload_n h (i := 0) dL_law_443 rfl 0 rfl ?_
  refine J_iload_n h (i := 3) dL_law_444 rfl 3 rfl ?_
  refine J_iconst h (v := nI 2) dL_law_445 (by decide) ?_
  refine N_iadd h dL_law_446 ?_
  refine L_sld h hX hbl hbA (by omega) (by omega) dL_law_447 ?_
  refine kx_dig  (rest := []) h hrc hco hro hnx hsz  (xi (n + 1)) (xi (n + 2)) nm_L_55 (by decide) (Nat.le_of_ble_eq_true rfl) (Nat.le_refl _) (Nat.le_refl _) dL_law_448 (fun r_x thS2 owS2 coS2 roS2 slS2 nx2 sz2 th2 hx => ?_)
  refine J_pop h dL_law_451 rfl ?_
  refine J_aload_n h (i := 2) dL_law_452 rfl 2 rfl ?_
  refine J_aload_n h (i := 0) dL_law_453 rfl 0 rfl ?_
  refine J_iload_n h (i := 3) dL_law_454 rfl 3 rfl ?_
  refine J_iconst h (v := nI 1) dL_law_455 (by decide) ?_
  refine N_iadd h dL_law_456 ?_
  refine L_sld h hX hbl hbA (by omega) (by omega) dL_law_457 ?_
  refine J_aload_n h (i := 0) dL_law_458 rfl 0 rfl ?_
  refine J_iload_n h (i := 3) dL_law_459 rfl 3 rfl ?_
  refine J_iconst h (v := nI 2) dL_law_460 (by decide) ?_
  refine N_iadd h dL_law_461 ?_
  refine L_sld h hX hbl hbA (by omega) (by omega) dL_law_462 ?_
  refine J.swp ?_
  refine km_dig (th := th) (ow := ow) (rest := []) h hrc hco hro hrel hsz  (xi (n + 1)) (xi (n + 2)) nm_L_58 (by decide) (Nat.le_of_ble_eq_true rfl) (Nat.le_refl _) (Nat.le_refl _) dL_law_463 (fun r_m th2M um2M ah2M hm => ?_)
  refine J.swp ?_
  refine J_pop h dL_law_466 rfl ?_
  refine J_goto h 1034 dL_law_467 (by decide) ?_
  exact hcont (iv_dig hI0 hx hm)

set_option maxRecDepth 100000 in
set_option maxHeartbeats 4000000 in
theorem lc_10 (X : Cx) {cI cE : ClassId} (h : Ok X cL_law RL 4 cI cE 9 72 3197) {z0 : Nat} {g0 : Nat} {a0 : Nat} {f0 : Nat} {s0 : Nat} {k0 : Nat} {v0 : Nat} {d0 : Nat} {y0 : Nat} {m0 : Nat} {o0 : Nat} {g1 : Nat} {a1 : Nat} {a2 : Nat} {f1 : Nat} {f2 : Nat} {s1 : Nat} {eA : Nat → Nat} {tA : Nat → Nat} {oA : Nat → Nat} {k1 : Nat} {eK : Nat → Nat} {tK : Nat → Nat} {oK : Nat → Nat} {v1 : Nat} {v2 : Nat} {v3 : Nat} {d1 : Nat} {d2 : Nat} {m1 : Nat} {m2 : Nat} {o1 : Nat} {o2 : Nat} {q0 : Nat} {q3 : Nat} {q4 : Nat} {q6 : Nat} {q7 : Nat} {q8 : Nat} {q9 : Nat} {q14 : Nat} {q15 : Nat} {q17 : Nat} {q18 : Nat} {q19 : Nat} {q23 : Nat} {q24 : Nat} {q25 : Nat} {b L n : Nat} {xi : Nat → Int32} (hX : va_X b L xi (xs X) (xs X).heap) (hbl : b < (xs X).heap.size) (hbA : ¬ xA X b) (hL : L ≤ 384) (hn : n + 6 ≤ L) (hcont : ∀ {lx : Nat → Nat} {tl : Nat} {th : Nat → Int32} {ow : Nat → Int32} {co : Nat} {ro : Nat} {sl : Int32} {dth : Nat → Int32} {dow : Nat → Int32} {dco : Int32} {dro : Int32} {dsl : Int32} {thS : Nat → Nat → Int32} {owS : Nat → Nat → Int32} {coS : Nat → Int32} {roS : Nat → Int32} {slS : Nat → Int32} {nx : Nat} {sz : Nat} {thK : Nat → Nat → Int32} {owK : Nat → Nat → Int32} {coK : Nat → Int32} {roK : Nat → Int32} {slK : Nat → Int32} {nk : Nat} {zk : Nat} {kx : Nat → Nat} {kw : Nat → Nat} {ke : Nat → Nat} {sn : Nat} {ce : Nat → Int32} {se : Nat → Int32} {len : Int32} {en : Int32} {cd : Int32} {tk : Int32} {mk : Nat → Int32} {wg : Nat → Int32} {wn : Int32} {wa : Nat → Int32} {nw : Nat → Int32} {ab : Int32} {be : Int32} {roM : Nat} {coM : Nat} {slM : Int32} {snM : Nat} {tsM : Nat} {raM : Int32} {rrM : Int32} {rwM : Int32} {rnM : Int32} {umM : Nat} {bsM : Int32} {bhM : Int32} {kmM : Nat} {thM : Nat → Int32} {moM : Nat → Int32} {kxM : Nat → Nat} {kwM : Nat → Nat} {keM : Nat → Nat} {lxM : Nat → Nat} {rlM : Nat → Int32} {rgM : Nat → Int32} {ceM : Nat → Int32} {seM : Nat → Int32} {ahM : Nat → Int32} {mkM : Nat → Int32} {asM : Nat → Int32} {kpM : Nat → Int32}, IV lx tl th ow co ro thS owS coS roS nx sz thK owK coK roK nk zk kx kw ke sn lxM tsM thM moM coM roM ahM umM kpM kmM kxM kwM keM snM → J X 4 72 3197 1034 [(0, .ref b), (1, .ref z0), (2, .ref q0), (3, .int (nI n))] [] (WX cI cE z0 g0 a0 f0 s0 k0 v0 d0 y0 m0 o0 g1 a1 a2 f1 f2 s1 eA tA oA k1 eK tK oK v1 v2 v3 d1 d2 m1 m2 o1 o2 lx tl th ow co ro sl dth dow dco dro dsl thS owS coS roS slS nx sz thK owK coK roK slK nk zk kx kw ke sn ce se len en cd tk mk wg wn wa nw ab be ++ WM cI q0 q3 q4 q6 q7 q8 q9 q14 q15 q17 q18 q19 q23 q24 q25 roM coM slM snM tsM raM rrM rwM rnM umM bsM bhM kmM thM moM kxM kwM keM lxM rlM rgM ceM seM ahM mkM asM kpM)) {lx : Nat → Nat} {tl : Nat} {th : Nat → Int32} {ow : Nat → Int32} {co : Nat} {ro : Nat} {sl : Int32} {dth : Nat → Int32} {dow : Nat → Int32} {dco : Int32} {dro : Int32} {dsl : Int32} {thS : Nat → Nat → Int32} {owS : Nat → Nat → Int32} {coS : Nat → Int32} {roS : Nat → Int32} {slS : Nat → Int32} {nx : Nat} {sz : Nat} {thK : Nat → Nat → Int32} {owK : Nat → Nat → Int32} {coK : Nat → Int32} {roK : Nat → Int32} {slK : Nat → Int32} {nk : Nat} {zk : Nat} {kx : Nat → Nat} {kw : Nat → Nat} {ke : Nat → Nat} {sn : Nat} {ce : Nat → Int32} {se : Nat → Int32} {len : Int32} {en : Int32} {cd : Int32} {tk : Int32} {mk : Nat → Int32} {wg : Nat → Int32} {wn : Int32} {wa : Nat → Int32} {nw : Nat → Int32} {ab : Int32} {be : Int32} {roM : Nat} {coM : Nat} {slM : Int32} {snM : Nat} {tsM : Nat} {raM : Int32} {rrM : Int32} {rwM : Int32} {rnM : Int32} {umM : Nat} {bsM : Int32} {bhM : Int32} {kmM : Nat} {thM : Nat → Int32} {moM : Nat → Int32} {kxM : Nat → Nat} {kwM : Nat → Nat} {keM : Nat → Nat} {lxM : Nat → Nat} {rlM : Nat → Int32} {rgM : Nat → Int32} {ceM : Nat → Int32} {seM : Nat → Int32} {ahM : Nat → Int32} {mkM : Nat → Int32} {asM : Nat → Int32} {kpM : Nat → Int32} (hI : IV lx tl th ow co ro thS owS coS roS nx sz thK owK coK roK nk zk kx kw ke sn lxM tsM thM moM coM roM ahM umM kpM kmM kxM kwM keM snM) : J X 4 72 3197 470 [(0, .ref b), (1, .ref z0), (2, .ref q0), (3, .int (nI n))] [] (WX cI cE z0 g0 a0 f0 s0 k0 v0 d0 y0 m0 o0 g1 a1 a2 f1 f2 s1 eA tA oA k1 eK tK oK v1 v2 v3 d1 d2 m1 m2 o1 o2 lx tl th ow co ro sl dth dow dco dro dsl thS owS coS roS slS nx sz thK owK coK roK slK nk zk kx kw ke sn ce se len en cd tk mk wg wn wa nw ab be ++ WM cI q0 q3 q4 q6 q7 q8 q9 q14 q15 q17 q18 q19 q23 q24 q25 roM coM slM snM tsM raM rrM rwM rnM umM bsM bhM kmM thM moM kxM kwM keM lxM rlM rgM ceM seM ahM mkM asM kpM) := by
  have hI0 := hI
  obtain ⟨⟨rfl, rfl, rfl, rfl, rfl, rfl, rfl, rfl, rfl⟩, ⟨hlx, hlxM, hle, htl⟩, ⟨hrc, hco, hro, hc0, hr0⟩, hrel, ⟨hnx, hsz, hrg⟩, ⟨hnk, hzk, hrk⟩, hsn, hk⟩ := hI
  refine J_aload_n h (i := 1) dL_law_470 rfl 1 rfl ?_
  refine J_aload_n h (i := 0) dL_law_471 rfl 0 rfl ?_
  refine J_iload_n h (i := 3) dL_law_472 rfl 3 rfl ?_
  refine J_iconst h (v := nI 1) dL_law_473 (by decide) ?_
  refine N_iadd h dL_law_474 ?_
  refine L_sld h hX hbl hbA (by omega) (by omega) dL_law_475 ?_
  refine J_aload_n h (i := 0) dL_law_476 rfl 0 rfl ?_
  refine J_iload_n h (i := 3) dL_law_477 rfl 3 rfl ?_
  refine J_iconst h (v := nI 2) dL_law_478 (by decide) ?_
  refine N_iadd h dL_law_479 ?_
  refine L_sld h hX hbl hbA (by omega) (by omega) dL_law_480 ?_
  refine kx_give  (rest := []) h hrc hco hro hnx hsz  (xi (n + 1)) (xi (n + 2)) nm_L_59 (by decide) (Nat.le_of_ble_eq_true rfl) (Nat.le_refl _) (Nat.le_refl _) dL_law_481 (fun r_x thS2 owS2 coS2 roS2 slS2 nx2 sz2 ow2 hx => ?_)
  refine J_pop h dL_law_484 rfl ?_
  refine J_aload_n h (i := 2) dL_law_485 rfl 2 rfl ?_
  refine J_aload_n h (i := 0) dL_law_486 rfl 0 rfl ?_
  refine J_iload_n h (i := 3) dL_law_487 rfl 3 rfl ?_
  refine J_iconst h (v := nI 1) dL_law_488 (by decide) ?_
  refine N_iadd h dL_law_489 ?_
  refine L_sld h hX hbl hbA (by omega) (by omega) dL_law_490 ?_
  refine J_aload_n h (i := 0) dL_law_491 rfl 0 rfl ?_
  refine J_iload_n h (i := 3) dL_law_492 rfl 3 rfl ?_
  refine J_iconst h (v := nI 2) dL_law_493 (by decide) ?_
  refine N_iadd h dL_law_494 ?_
  refine L_sld h hX hbl hbA (by omega) (by omega) dL_law_495 ?_
  refine J.swp ?_
  refine km_give (th := th) (ow := ow) (rest := []) h hrc hco hro hrel hsz  (xi (n + 1)) (xi (n + 2)) nm_L_62 (by decide) (Nat.le_of_ble_eq_true rfl) (Nat.le_refl _) (Nat.le_refl _) dL_law_496 (fun r_m mo2M um2M ah2M hm => ?_)
  refine J.swp ?_
  refine J_pop h dL_law_499 rfl ?_
  refine J_goto h 1034 dL_law_500 (by decide) ?_
  exact hcont (iv_give hI0 hx hm)

set_option maxRecDepth 100000 in
set_option maxHeartbeats 4000000 in
theorem lc_11 (X : Cx) {cI cE : ClassId} (h : Ok X cL_law RL 4 cI cE 9 72 3197) {z0 : Nat} {g0 : Nat} {a0 : Nat} {f0 : Nat} {s0 : Nat} {k0 : Nat} {v0 : Nat} {d0 : Nat} {y0 : Nat} {m0 : Nat} {o0 : Nat} {g1 : Nat} {a1 : Nat} {a2 : Nat} {f1 : Nat} {f2 : Nat} {s1 : Nat} {eA : Nat → Nat} {tA : Nat → Nat} {oA : Nat → Nat} {k1 : Nat} {eK : Nat → Nat} {tK : Nat → Nat} {oK : Nat → Nat} {v1 : Nat} {v2 : Nat} {v3 : Nat} {d1 : Nat} {d2 : Nat} {m1 : Nat} {m2 : Nat} {o1 : Nat} {o2 : Nat} {q0 : Nat} {q3 : Nat} {q4 : Nat} {q6 : Nat} {q7 : Nat} {q8 : Nat} {q9 : Nat} {q14 : Nat} {q15 : Nat} {q17 : Nat} {q18 : Nat} {q19 : Nat} {q23 : Nat} {q24 : Nat} {q25 : Nat} {b L n : Nat} {xi : Nat → Int32} (hX : va_X b L xi (xs X) (xs X).heap) (hbl : b < (xs X).heap.size) (hbA : ¬ xA X b) (hL : L ≤ 384) (hn : n + 6 ≤ L) (hcont : ∀ {lx : Nat → Nat} {tl : Nat} {th : Nat → Int32} {ow : Nat → Int32} {co : Nat} {ro : Nat} {sl : Int32} {dth : Nat → Int32} {dow : Nat → Int32} {dco : Int32} {dro : Int32} {dsl : Int32} {thS : Nat → Nat → Int32} {owS : Nat → Nat → Int32} {coS : Nat → Int32} {roS : Nat → Int32} {slS : Nat → Int32} {nx : Nat} {sz : Nat} {thK : Nat → Nat → Int32} {owK : Nat → Nat → Int32} {coK : Nat → Int32} {roK : Nat → Int32} {slK : Nat → Int32} {nk : Nat} {zk : Nat} {kx : Nat → Nat} {kw : Nat → Nat} {ke : Nat → Nat} {sn : Nat} {ce : Nat → Int32} {se : Nat → Int32} {len : Int32} {en : Int32} {cd : Int32} {tk : Int32} {mk : Nat → Int32} {wg : Nat → Int32} {wn : Int32} {wa : Nat → Int32} {nw : Nat → Int32} {ab : Int32} {be : Int32} {roM : Nat} {coM : Nat} {slM : Int32} {snM : Nat} {tsM : Nat} {raM : Int32} {rrM : Int32} {rwM : Int32} {rnM : Int32} {umM : Nat} {bsM : Int32} {bhM : Int32} {kmM : Nat} {thM : Nat → Int32} {moM : Nat → Int32} {kxM : Nat → Nat} {kwM : Nat → Nat} {keM : Nat → Nat} {lxM : Nat → Nat} {rlM : Nat → Int32} {rgM : Nat → Int32} {ceM : Nat → Int32} {seM : Nat → Int32} {ahM : Nat → Int32} {mkM : Nat → Int32} {asM : Nat → Int32} {kpM : Nat → Int32}, IV lx tl th ow co ro thS owS coS roS nx sz thK owK coK roK nk zk kx kw ke sn lxM tsM thM moM coM roM ahM umM kpM kmM kxM kwM keM snM → J X 4 72 3197 1034 [(0, .ref b), (1, .ref z0), (2, .ref q0), (3, .int (nI n))] [] (WX cI cE z0 g0 a0 f0 s0 k0 v0 d0 y0 m0 o0 g1 a1 a2 f1 f2 s1 eA tA oA k1 eK tK oK v1 v2 v3 d1 d2 m1 m2 o1 o2 lx tl th ow co ro sl dth dow dco dro dsl thS owS coS roS slS nx sz thK owK coK roK slK nk zk kx kw ke sn ce se len en cd tk mk wg wn wa nw ab be ++ WM cI q0 q3 q4 q6 q7 q8 q9 q14 q15 q17 q18 q19 q23 q24 q25 roM coM slM snM tsM raM rrM rwM rnM umM bsM bhM kmM thM moM kxM kwM keM lxM rlM rgM ceM seM ahM mkM asM kpM)) {lx : Nat → Nat} {tl : Nat} {th : Nat → Int32} {ow : Nat → Int32} {co : Nat} {ro : Nat} {sl : Int32} {dth : Nat → Int32} {dow : Nat → Int32} {dco : Int32} {dro : Int32} {dsl : Int32} {thS : Nat → Nat → Int32} {owS : Nat → Nat → Int32} {coS : Nat → Int32} {roS : Nat → Int32} {slS : Nat → Int32} {nx : Nat} {sz : Nat} {thK : Nat → Nat → Int32} {owK : Nat → Nat → Int32} {coK : Nat → Int32} {roK : Nat → Int32} {slK : Nat → Int32} {nk : Nat} {zk : Nat} {kx : Nat → Nat} {kw : Nat → Nat} {ke : Nat → Nat} {sn : Nat} {ce : Nat → Int32} {se : Nat → Int32} {len : Int32} {en : Int32} {cd : Int32} {tk : Int32} {mk : Nat → Int32} {wg : Nat → Int32} {wn : Int32} {wa : Nat → Int32} {nw : Nat → Int32} {ab : Int32} {be : Int32} {roM : Nat} {coM : Nat} {slM : Int32} {snM : Nat} {tsM : Nat} {raM : Int32} {rrM : Int32} {rwM : Int32} {rnM : Int32} {umM : Nat} {bsM : Int32} {bhM : Int32} {kmM : Nat} {thM : Nat → Int32} {moM : Nat → Int32} {kxM : Nat → Nat} {kwM : Nat → Nat} {keM : Nat → Nat} {lxM : Nat → Nat} {rlM : Nat → Int32} {rgM : Nat → Int32} {ceM : Nat → Int32} {seM : Nat → Int32} {ahM : Nat → Int32} {mkM : Nat → Int32} {asM : Nat → Int32} {kpM : Nat → Int32} (hI : IV lx tl th ow co ro thS owS coS roS nx sz thK owK coK roK nk zk kx kw ke sn lxM tsM thM moM coM roM ahM umM kpM kmM kxM kwM keM snM) : J X 4 72 3197 503 [(0, .ref b), (1, .ref z0), (2, .ref q0), (3, .int (nI n))] [] (WX cI cE z0 g0 a0 f0 s0 k0 v0 d0 y0 m0 o0 g1 a1 a2 f1 f2 s1 eA tA oA k1 eK tK oK v1 v2 v3 d1 d2 m1 m2 o1 o2 lx tl th ow co ro sl dth dow dco dro dsl thS owS coS roS slS nx sz thK owK coK roK slK nk zk kx kw ke sn ce se len en cd tk mk wg wn wa nw ab be ++ WM cI q0 q3 q4 q6 q7 q8 q9 q14 q15 q17 q18 q19 q23 q24 q25 roM coM slM snM tsM raM rrM rwM rnM umM bsM bhM kmM thM moM kxM kwM keM lxM rlM rgM ceM seM ahM mkM asM kpM) := by
  have hI0 := hI
  obtain ⟨⟨rfl, rfl, rfl, rfl, rfl, rfl, rfl, rfl, rfl⟩, ⟨hlx, hlxM, hle, htl⟩, ⟨hrc, hco, hro, hc0, hr0⟩, hrel, ⟨hnx, hsz, hrg⟩, ⟨hnk, hzk, hrk⟩, hsn, hk⟩ := hI
  refine J_aload_n h (i := 1) dL_law_503 rfl 1 rfl ?_
  refine J_aload_n h (i := 0) dL_law_504 rfl 0 rfl ?_
  refine J_iload_n h (i := 3) dL_law_505 rfl 3 rfl ?_
  refine J_iconst h (v := nI 1) dL_law_506 (by decide) ?_
  refine N_iadd h dL_law_507 ?_
  refine L_sld h hX hbl hbA (by omega) (by omega) dL_law_508 ?_
  refine kx_frost  (rest := []) h hrc hco hro hnx hsz  (xi (n + 1)) nm_L_63 (by decide) (Nat.le_of_ble_eq_true rfl) (Nat.le_refl _) (Nat.le_refl _) dL_law_509 (fun r_x thS2 owS2 coS2 roS2 slS2 nx2 sz2 th2 hx => ?_)
  refine J_pop h dL_law_512 rfl ?_
  refine J_aload_n h (i := 2) dL_law_513 rfl 2 rfl ?_
  refine J_aload_n h (i := 0) dL_law_514 rfl 0 rfl ?_
  refine J_iload_n h (i := 3) dL_law_515 rfl 3 rfl ?_
  refine J_iconst h (v := nI 1) dL_law_516 (by decide) ?_
  refine N_iadd h dL_law_517 ?_
  refine L_sld h hX hbl hbA (by omega) (by omega) dL_law_518 ?_
  refine J.swp ?_
  refine km_frost (th := th) (ow := ow) (rest := []) h hrc hco hro hrel hsz  (xi (n + 1)) nm_L_66 (by decide) (Nat.le_of_ble_eq_true rfl) (Nat.le_refl _) (Nat.le_refl _) dL_law_519 (fun r_m th2M um2M ah2M hm => ?_)
  refine J.swp ?_
  refine J_pop h dL_law_522 rfl ?_
  refine J_goto h 1034 dL_law_523 (by decide) ?_
  exact hcont (iv_frost hI0 hx hm)

set_option maxRecDepth 100000 in
set_option maxHeartbeats 4000000 in
theorem lc_12 (X : Cx) {cI cE : ClassId} (h : Ok X cL_law RL 4 cI cE 9 72 3197) {z0 : Nat} {g0 : Nat} {a0 : Nat} {f0 : Nat} {s0 : Nat} {k0 : Nat} {v0 : Nat} {d0 : Nat} {y0 : Nat} {m0 : Nat} {o0 : Nat} {g1 : Nat} {a1 : Nat} {a2 : Nat} {f1 : Nat} {f2 : Nat} {s1 : Nat} {eA : Nat → Nat} {tA : Nat → Nat} {oA : Nat → Nat} {k1 : Nat} {eK : Nat → Nat} {tK : Nat → Nat} {oK : Nat → Nat} {v1 : Nat} {v2 : Nat} {v3 : Nat} {d1 : Nat} {d2 : Nat} {m1 : Nat} {m2 : Nat} {o1 : Nat} {o2 : Nat} {q0 : Nat} {q3 : Nat} {q4 : Nat} {q6 : Nat} {q7 : Nat} {q8 : Nat} {q9 : Nat} {q14 : Nat} {q15 : Nat} {q17 : Nat} {q18 : Nat} {q19 : Nat} {q23 : Nat} {q24 : Nat} {q25 : Nat} {b L n : Nat} {xi : Nat → Int32} (hX : va_X b L xi (xs X) (xs X).heap) (hbl : b < (xs X).heap.size) (hbA : ¬ xA X b) (hL : L ≤ 384) (hn : n + 6 ≤ L) (hcont : ∀ {lx : Nat → Nat} {tl : Nat} {th : Nat → Int32} {ow : Nat → Int32} {co : Nat} {ro : Nat} {sl : Int32} {dth : Nat → Int32} {dow : Nat → Int32} {dco : Int32} {dro : Int32} {dsl : Int32} {thS : Nat → Nat → Int32} {owS : Nat → Nat → Int32} {coS : Nat → Int32} {roS : Nat → Int32} {slS : Nat → Int32} {nx : Nat} {sz : Nat} {thK : Nat → Nat → Int32} {owK : Nat → Nat → Int32} {coK : Nat → Int32} {roK : Nat → Int32} {slK : Nat → Int32} {nk : Nat} {zk : Nat} {kx : Nat → Nat} {kw : Nat → Nat} {ke : Nat → Nat} {sn : Nat} {ce : Nat → Int32} {se : Nat → Int32} {len : Int32} {en : Int32} {cd : Int32} {tk : Int32} {mk : Nat → Int32} {wg : Nat → Int32} {wn : Int32} {wa : Nat → Int32} {nw : Nat → Int32} {ab : Int32} {be : Int32} {roM : Nat} {coM : Nat} {slM : Int32} {snM : Nat} {tsM : Nat} {raM : Int32} {rrM : Int32} {rwM : Int32} {rnM : Int32} {umM : Nat} {bsM : Int32} {bhM : Int32} {kmM : Nat} {thM : Nat → Int32} {moM : Nat → Int32} {kxM : Nat → Nat} {kwM : Nat → Nat} {keM : Nat → Nat} {lxM : Nat → Nat} {rlM : Nat → Int32} {rgM : Nat → Int32} {ceM : Nat → Int32} {seM : Nat → Int32} {ahM : Nat → Int32} {mkM : Nat → Int32} {asM : Nat → Int32} {kpM : Nat → Int32}, IV lx tl th ow co ro thS owS coS roS nx sz thK owK coK roK nk zk kx kw ke sn lxM tsM thM moM coM roM ahM umM kpM kmM kxM kwM keM snM → J X 4 72 3197 1034 [(0, .ref b), (1, .ref z0), (2, .ref q0), (3, .int (nI n))] [] (WX cI cE z0 g0 a0 f0 s0 k0 v0 d0 y0 m0 o0 g1 a1 a2 f1 f2 s1 eA tA oA k1 eK tK oK v1 v2 v3 d1 d2 m1 m2 o1 o2 lx tl th ow co ro sl dth dow dco dro dsl thS owS coS roS slS nx sz thK owK coK roK slK nk zk kx kw ke sn ce se len en cd tk mk wg wn wa nw ab be ++ WM cI q0 q3 q4 q6 q7 q8 q9 q14 q15 q17 q18 q19 q23 q24 q25 roM coM slM snM tsM raM rrM rwM rnM umM bsM bhM kmM thM moM kxM kwM keM lxM rlM rgM ceM seM ahM mkM asM kpM)) {lx : Nat → Nat} {tl : Nat} {th : Nat → Int32} {ow : Nat → Int32} {co : Nat} {ro : Nat} {sl : Int32} {dth : Nat → Int32} {dow : Nat → Int32} {dco : Int32} {dro : Int32} {dsl : Int32} {thS : Nat → Nat → Int32} {owS : Nat → Nat → Int32} {coS : Nat → Int32} {roS : Nat → Int32} {slS : Nat → Int32} {nx : Nat} {sz : Nat} {thK : Nat → Nat → Int32} {owK : Nat → Nat → Int32} {coK : Nat → Int32} {roK : Nat → Int32} {slK : Nat → Int32} {nk : Nat} {zk : Nat} {kx : Nat → Nat} {kw : Nat → Nat} {ke : Nat → Nat} {sn : Nat} {ce : Nat → Int32} {se : Nat → Int32} {len : Int32} {en : Int32} {cd : Int32} {tk : Int32} {mk : Nat → Int32} {wg : Nat → Int32} {wn : Int32} {wa : Nat → Int32} {nw : Nat → Int32} {ab : Int32} {be : Int32} {roM : Nat} {coM : Nat} {slM : Int32} {snM : Nat} {tsM : Nat} {raM : Int32} {rrM : Int32} {rwM : Int32} {rnM : Int32} {umM : Nat} {bsM : Int32} {bhM : Int32} {kmM : Nat} {thM : Nat → Int32} {moM : Nat → Int32} {kxM : Nat → Nat} {kwM : Nat → Nat} {keM : Nat → Nat} {lxM : Nat → Nat} {rlM : Nat → Int32} {rgM : Nat → Int32} {ceM : Nat → Int32} {seM : Nat → Int32} {ahM : Nat → Int32} {mkM : Nat → Int32} {asM : Nat → Int32} {kpM : Nat → Int32} (hI : IV lx tl th ow co ro thS owS coS roS nx sz thK owK coK roK nk zk kx kw ke sn lxM tsM thM moM coM roM ahM umM kpM kmM kxM kwM keM snM) : J X 4 72 3197 526 [(0, .ref b), (1, .ref z0), (2, .ref q0), (3, .int (nI n))] [] (WX cI cE z0 g0 a0 f0 s0 k0 v0 d0 y0 m0 o0 g1 a1 a2 f1 f2 s1 eA tA oA k1 eK tK oK v1 v2 v3 d1 d2 m1 m2 o1 o2 lx tl th ow co ro sl dth dow dco dro dsl thS owS coS roS slS nx sz thK owK coK roK slK nk zk kx kw ke sn ce se len en cd tk mk wg wn wa nw ab be ++ WM cI q0 q3 q4 q6 q7 q8 q9 q14 q15 q17 q18 q19 q23 q24 q25 roM coM slM snM tsM raM rrM rwM rnM umM bsM bhM kmM thM moM kxM kwM keM lxM rlM rgM ceM seM ahM mkM asM kpM) := by
  have hI0 := hI
  obtain ⟨⟨rfl, rfl, rfl, rfl, rfl, rfl, rfl, rfl, rfl⟩, ⟨hlx, hlxM, hle, htl⟩, ⟨hrc, hco, hro, hc0, hr0⟩, hrel, ⟨hnx, hsz, hrg⟩, ⟨hnk, hzk, hrk⟩, hsn, hk⟩ := hI
  refine J_aload_n h (i := 1) dL_law_526 rfl 1 rfl ?_
  refine kx_undo  (rest := []) h hnx hsz (fun h0 => by have l := (lst8 hnx h0 hsz).1; have hz := hrg (sz - 1) (by omega); rw [← l] at hz; exact ⟨hz.1, hz.2.1⟩)  nm_L_67 (by decide) (Nat.le_of_ble_eq_true rfl) (Nat.le_refl _) (Nat.le_refl _) dL_law_527 (fun r_x nx2 sz2 th2 ow2 sl2 hx => ?_)
  refine J_pop h dL_law_530 rfl ?_
  refine J_aload_n h (i := 2) dL_law_531 rfl 2 rfl ?_
  refine J.swp ?_
  refine km_undo  (rest := []) h hsz   nm_L_70 (by decide) (Nat.le_of_ble_eq_true rfl) (Nat.le_refl _) (Nat.le_refl _) dL_law_532 (fun r_m th2M mo2M sl2M um2M hm => ?_)
  refine J.swp ?_
  refine J_pop h dL_law_535 rfl ?_
  refine J_goto h 1034 dL_law_536 (by decide) ?_
  exact hcont (iv_undo hI0 hx hm)

set_option maxRecDepth 100000 in
set_option maxHeartbeats 4000000 in
theorem lc_13 (X : Cx) {cI cE : ClassId} (h : Ok X cL_law RL 4 cI cE 9 72 3197) {z0 : Nat} {g0 : Nat} {a0 : Nat} {f0 : Nat} {s0 : Nat} {k0 : Nat} {v0 : Nat} {d0 : Nat} {y0 : Nat} {m0 : Nat} {o0 : Nat} {g1 : Nat} {a1 : Nat} {a2 : Nat} {f1 : Nat} {f2 : Nat} {s1 : Nat} {eA : Nat → Nat} {tA : Nat → Nat} {oA : Nat → Nat} {k1 : Nat} {eK : Nat → Nat} {tK : Nat → Nat} {oK : Nat → Nat} {v1 : Nat} {v2 : Nat} {v3 : Nat} {d1 : Nat} {d2 : Nat} {m1 : Nat} {m2 : Nat} {o1 : Nat} {o2 : Nat} {q0 : Nat} {q3 : Nat} {q4 : Nat} {q6 : Nat} {q7 : Nat} {q8 : Nat} {q9 : Nat} {q14 : Nat} {q15 : Nat} {q17 : Nat} {q18 : Nat} {q19 : Nat} {q23 : Nat} {q24 : Nat} {q25 : Nat} {b L n : Nat} {xi : Nat → Int32} (hX : va_X b L xi (xs X) (xs X).heap) (hbl : b < (xs X).heap.size) (hbA : ¬ xA X b) (hL : L ≤ 384) (hn : n + 6 ≤ L) (hcont : ∀ {lx : Nat → Nat} {tl : Nat} {th : Nat → Int32} {ow : Nat → Int32} {co : Nat} {ro : Nat} {sl : Int32} {dth : Nat → Int32} {dow : Nat → Int32} {dco : Int32} {dro : Int32} {dsl : Int32} {thS : Nat → Nat → Int32} {owS : Nat → Nat → Int32} {coS : Nat → Int32} {roS : Nat → Int32} {slS : Nat → Int32} {nx : Nat} {sz : Nat} {thK : Nat → Nat → Int32} {owK : Nat → Nat → Int32} {coK : Nat → Int32} {roK : Nat → Int32} {slK : Nat → Int32} {nk : Nat} {zk : Nat} {kx : Nat → Nat} {kw : Nat → Nat} {ke : Nat → Nat} {sn : Nat} {ce : Nat → Int32} {se : Nat → Int32} {len : Int32} {en : Int32} {cd : Int32} {tk : Int32} {mk : Nat → Int32} {wg : Nat → Int32} {wn : Int32} {wa : Nat → Int32} {nw : Nat → Int32} {ab : Int32} {be : Int32} {roM : Nat} {coM : Nat} {slM : Int32} {snM : Nat} {tsM : Nat} {raM : Int32} {rrM : Int32} {rwM : Int32} {rnM : Int32} {umM : Nat} {bsM : Int32} {bhM : Int32} {kmM : Nat} {thM : Nat → Int32} {moM : Nat → Int32} {kxM : Nat → Nat} {kwM : Nat → Nat} {keM : Nat → Nat} {lxM : Nat → Nat} {rlM : Nat → Int32} {rgM : Nat → Int32} {ceM : Nat → Int32} {seM : Nat → Int32} {ahM : Nat → Int32} {mkM : Nat → Int32} {asM : Nat → Int32} {kpM : Nat → Int32}, IV lx tl th ow co ro thS owS coS roS nx sz thK owK coK roK nk zk kx kw ke sn lxM tsM thM moM coM roM ahM umM kpM kmM kxM kwM keM snM → J X 4 72 3197 1034 [(0, .ref b), (1, .ref z0), (2, .ref q0), (3, .int (nI n))] [] (WX cI cE z0 g0 a0 f0 s0 k0 v0 d0 y0 m0 o0 g1 a1 a2 f1 f2 s1 eA tA oA k1 eK tK oK v1 v2 v3 d1 d2 m1 m2 o1 o2 lx tl th ow co ro sl dth dow dco dro dsl thS owS coS roS slS nx sz thK owK coK roK slK nk zk kx kw ke sn ce se len en cd tk mk wg wn wa nw ab be ++ WM cI q0 q3 q4 q6 q7 q8 q9 q14 q15 q17 q18 q19 q23 q24 q25 roM coM slM snM tsM raM rrM rwM rnM umM bsM bhM kmM thM moM kxM kwM keM lxM rlM rgM ceM seM ahM mkM asM kpM)) {lx : Nat → Nat} {tl : Nat} {th : Nat → Int32} {ow : Nat → Int32} {co : Nat} {ro : Nat} {sl : Int32} {dth : Nat → Int32} {dow : Nat → Int32} {dco : Int32} {dro : Int32} {dsl : Int32} {thS : Nat → Nat → Int32} {owS : Nat → Nat → Int32} {coS : Nat → Int32} {roS : Nat → Int32} {slS : Nat → Int32} {nx : Nat} {sz : Nat} {thK : Nat → Nat → Int32} {owK : Nat → Nat → Int32} {coK : Nat → Int32} {roK : Nat → Int32} {slK : Nat → Int32} {nk : Nat} {zk : Nat} {kx : Nat → Nat} {kw : Nat → Nat} {ke : Nat → Nat} {sn : Nat} {ce : Nat → Int32} {se : Nat → Int32} {len : Int32} {en : Int32} {cd : Int32} {tk : Int32} {mk : Nat → Int32} {wg : Nat → Int32} {wn : Int32} {wa : Nat → Int32} {nw : Nat → Int32} {ab : Int32} {be : Int32} {roM : Nat} {coM : Nat} {slM : Int32} {snM : Nat} {tsM : Nat} {raM : Int32} {rrM : Int32} {rwM : Int32} {rnM : Int32} {umM : Nat} {bsM : Int32} {bhM : Int32} {kmM : Nat} {thM : Nat → Int32} {moM : Nat → Int32} {kxM : Nat → Nat} {kwM : Nat → Nat} {keM : Nat → Nat} {lxM : Nat → Nat} {rlM : Nat → Int32} {rgM : Nat → Int32} {ceM : Nat → Int32} {seM : Nat → Int32} {ahM : Nat → Int32} {mkM : Nat → Int32} {asM : Nat → Int32} {kpM : Nat → Int32} (hI : IV lx tl th ow co ro thS owS coS roS nx sz thK owK coK roK nk zk kx kw ke sn lxM tsM thM moM coM roM ahM umM kpM kmM kxM kwM keM snM) : J X 4 72 3197 539 [(0, .ref b), (1, .ref z0), (2, .ref q0), (3, .int (nI n))] [] (WX cI cE z0 g0 a0 f0 s0 k0 v0 d0 y0 m0 o0 g1 a1 a2 f1 f2 s1 eA tA oA k1 eK tK oK v1 v2 v3 d1 d2 m1 m2 o1 o2 lx tl th ow co ro sl dth dow dco dro dsl thS owS coS roS slS nx sz thK owK coK roK slK nk zk kx kw ke sn ce se len en cd tk mk wg wn wa nw ab be ++ WM cI q0 q3 q4 q6 q7 q8 q9 q14 q15 q17 q18 q19 q23 q24 q25 roM coM slM snM tsM raM rrM rwM rnM umM bsM bhM kmM thM moM kxM kwM keM lxM rlM rgM ceM seM ahM mkM asM kpM) := by
  have hI0 := hI
  obtain ⟨⟨rfl, rfl, rfl, rfl, rfl, rfl, rfl, rfl, rfl⟩, ⟨hlx, hlxM, hle, htl⟩, ⟨hrc, hco, hro, hc0, hr0⟩, hrel, ⟨hnx, hsz, hrg⟩, ⟨hnk, hzk, hrk⟩, hsn, hk⟩ := hI
  refine J_aload_n h (i := 1) dL_law_539 rfl 1 rfl ?_
  refine J_aload_n h (i := 0) dL_law_540 rfl 0 rfl ?_
  refine J_iload_n h (i := 3) dL_law_541 rfl 3 rfl ?_
  refine J_iconst h (v := nI 1) dL_law_542 (by decide) ?_
  refine N_iadd h dL_law_543 ?_
  refine L_sld h hX hbl hbA (by omega) (by omega) dL_law_544 ?_
  refine kx_aim  (rest := []) h hrc hco hro  (xi (n + 1)) nm_L_71 (by decide) (Nat.le_of_ble_eq_true rfl) (Nat.le_refl _) (Nat.le_refl _) dL_law_545 (fun r_x ce2 se2 ln2 en2 hx => ?_)
  refine J_pop h dL_law_548 rfl ?_
  refine J_aload_n h (i := 2) dL_law_549 rfl 2 rfl ?_
  refine J_aload_n h (i := 0) dL_law_550 rfl 0 rfl ?_
  refine J_iload_n h (i := 3) dL_law_551 rfl 3 rfl ?_
  refine J_iconst h (v := nI 1) dL_law_552 (by decide) ?_
  refine N_iadd h dL_law_553 ?_
  refine L_sld h hX hbl hbA (by omega) (by omega) dL_law_554 ?_
  refine J.swp ?_
  refine km_aim (th := th) (ow := ow) (rest := []) h hrc hco hro hrel  (xi (n + 1)) nm_L_74 (by decide) (Nat.le_of_ble_eq_true rfl) (Nat.le_refl _) (Nat.le_refl _) dL_law_555 (fun r_m ce2M se2M hm => ?_)
  refine J.swp ?_
  refine J_pop h dL_law_558 rfl ?_
  refine J_goto h 1034 dL_law_559 (by decide) ?_
  exact hcont (hI0)

set_option maxRecDepth 100000 in
set_option maxHeartbeats 4000000 in
theorem lc_14 (X : Cx) {cI cE : ClassId} (h : Ok X cL_law RL 4 cI cE 9 72 3197) {z0 : Nat} {g0 : Nat} {a0 : Nat} {f0 : Nat} {s0 : Nat} {k0 : Nat} {v0 : Nat} {d0 : Nat} {y0 : Nat} {m0 : Nat} {o0 : Nat} {g1 : Nat} {a1 : Nat} {a2 : Nat} {f1 : Nat} {f2 : Nat} {s1 : Nat} {eA : Nat → Nat} {tA : Nat → Nat} {oA : Nat → Nat} {k1 : Nat} {eK : Nat → Nat} {tK : Nat → Nat} {oK : Nat → Nat} {v1 : Nat} {v2 : Nat} {v3 : Nat} {d1 : Nat} {d2 : Nat} {m1 : Nat} {m2 : Nat} {o1 : Nat} {o2 : Nat} {q0 : Nat} {q3 : Nat} {q4 : Nat} {q6 : Nat} {q7 : Nat} {q8 : Nat} {q9 : Nat} {q14 : Nat} {q15 : Nat} {q17 : Nat} {q18 : Nat} {q19 : Nat} {q23 : Nat} {q24 : Nat} {q25 : Nat} {b L n : Nat} {xi : Nat → Int32} (hX : va_X b L xi (xs X) (xs X).heap) (hbl : b < (xs X).heap.size) (hbA : ¬ xA X b) (hL : L ≤ 384) (hn : n + 6 ≤ L) (hcont : ∀ {lx : Nat → Nat} {tl : Nat} {th : Nat → Int32} {ow : Nat → Int32} {co : Nat} {ro : Nat} {sl : Int32} {dth : Nat → Int32} {dow : Nat → Int32} {dco : Int32} {dro : Int32} {dsl : Int32} {thS : Nat → Nat → Int32} {owS : Nat → Nat → Int32} {coS : Nat → Int32} {roS : Nat → Int32} {slS : Nat → Int32} {nx : Nat} {sz : Nat} {thK : Nat → Nat → Int32} {owK : Nat → Nat → Int32} {coK : Nat → Int32} {roK : Nat → Int32} {slK : Nat → Int32} {nk : Nat} {zk : Nat} {kx : Nat → Nat} {kw : Nat → Nat} {ke : Nat → Nat} {sn : Nat} {ce : Nat → Int32} {se : Nat → Int32} {len : Int32} {en : Int32} {cd : Int32} {tk : Int32} {mk : Nat → Int32} {wg : Nat → Int32} {wn : Int32} {wa : Nat → Int32} {nw : Nat → Int32} {ab : Int32} {be : Int32} {roM : Nat} {coM : Nat} {slM : Int32} {snM : Nat} {tsM : Nat} {raM : Int32} {rrM : Int32} {rwM : Int32} {rnM : Int32} {umM : Nat} {bsM : Int32} {bhM : Int32} {kmM : Nat} {thM : Nat → Int32} {moM : Nat → Int32} {kxM : Nat → Nat} {kwM : Nat → Nat} {keM : Nat → Nat} {lxM : Nat → Nat} {rlM : Nat → Int32} {rgM : Nat → Int32} {ceM : Nat → Int32} {seM : Nat → Int32} {ahM : Nat → Int32} {mkM : Nat → Int32} {asM : Nat → Int32} {kpM : Nat → Int32}, IV lx tl th ow co ro thS owS coS roS nx sz thK owK coK roK nk zk kx kw ke sn lxM tsM thM moM coM roM ahM umM kpM kmM kxM kwM keM snM → J X 4 72 3197 1034 [(0, .ref b), (1, .ref z0), (2, .ref q0), (3, .int (nI n))] [] (WX cI cE z0 g0 a0 f0 s0 k0 v0 d0 y0 m0 o0 g1 a1 a2 f1 f2 s1 eA tA oA k1 eK tK oK v1 v2 v3 d1 d2 m1 m2 o1 o2 lx tl th ow co ro sl dth dow dco dro dsl thS owS coS roS slS nx sz thK owK coK roK slK nk zk kx kw ke sn ce se len en cd tk mk wg wn wa nw ab be ++ WM cI q0 q3 q4 q6 q7 q8 q9 q14 q15 q17 q18 q19 q23 q24 q25 roM coM slM snM tsM raM rrM rwM rnM umM bsM bhM kmM thM moM kxM kwM keM lxM rlM rgM ceM seM ahM mkM asM kpM)) {lx : Nat → Nat} {tl : Nat} {th : Nat → Int32} {ow : Nat → Int32} {co : Nat} {ro : Nat} {sl : Int32} {dth : Nat → Int32} {dow : Nat → Int32} {dco : Int32} {dro : Int32} {dsl : Int32} {thS : Nat → Nat → Int32} {owS : Nat → Nat → Int32} {coS : Nat → Int32} {roS : Nat → Int32} {slS : Nat → Int32} {nx : Nat} {sz : Nat} {thK : Nat → Nat → Int32} {owK : Nat → Nat → Int32} {coK : Nat → Int32} {roK : Nat → Int32} {slK : Nat → Int32} {nk : Nat} {zk : Nat} {kx : Nat → Nat} {kw : Nat → Nat} {ke : Nat → Nat} {sn : Nat} {ce : Nat → Int32} {se : Nat → Int32} {len : Int32} {en : Int32} {cd : Int32} {tk : Int32} {mk : Nat → Int32} {wg : Nat → Int32} {wn : Int32} {wa : Nat → Int32} {nw : Nat → Int32} {ab : Int32} {be : Int32} {roM : Nat} {coM : Nat} {slM : Int32} {snM : Nat} {tsM : Nat} {raM : Int32} {rrM : Int32} {rwM : Int32} {rnM : Int32} {umM : Nat} {bsM : Int32} {bhM : Int32} {kmM : Nat} {thM : Nat → Int32} {moM : Nat → Int32} {kxM : Nat → Nat} {kwM : Nat → Nat} {keM : Nat → Nat} {lxM : Nat → Nat} {rlM : Nat → Int32} {rgM : Nat → Int32} {ceM : Nat → Int32} {seM : Nat → Int32} {ahM : Nat → Int32} {mkM : Nat → Int32} {asM : Nat → Int32} {kpM : Nat → Int32} (hI : IV lx tl th ow co ro thS owS coS roS nx sz thK owK coK roK nk zk kx kw ke sn lxM tsM thM moM coM roM ahM umM kpM kmM kxM kwM keM snM) : J X 4 72 3197 562 [(0, .ref b), (1, .ref z0), (2, .ref q0), (3, .int (nI n))] [] (WX cI cE z0 g0 a0 f0 s0 k0 v0 d0 y0 m0 o0 g1 a1 a2 f1 f2 s1 eA tA oA k1 eK tK oK v1 v2 v3 d1 d2 m1 m2 o1 o2 lx tl th ow co ro sl dth dow dco dro dsl thS owS coS roS slS nx sz thK owK coK roK slK nk zk kx kw ke sn ce se len en cd tk mk wg wn wa nw ab be ++ WM cI q0 q3 q4 q6 q7 q8 q9 q14 q15 q17 q18 q19 q23 q24 q25 roM coM slM snM tsM raM rrM rwM rnM umM bsM bhM kmM thM moM kxM kwM keM lxM rlM rgM ceM seM ahM mkM asM kpM) := by
  have hI0 := hI
  obtain ⟨⟨rfl, rfl, rfl, rfl, rfl, rfl, rfl, rfl, rfl⟩, ⟨hlx, hlxM, hle, htl⟩, ⟨hrc, hco, hro, hc0, hr0⟩, hrel, ⟨hnx, hsz, hrg⟩, ⟨hnk, hzk, hrk⟩, hsn, hk⟩ := hI
  refine J_aload_n h (i := 1) dL_law_562 rfl 1 rfl ?_
  refine J_aload_n h (i := 0) dL_law_563 rfl 0 rfl ?_
  refine J_iload_n h (i := 3) dL_law_564 rfl 3 rfl ?_
  refine J_iconst h (v := nI 1) dL_law_565 (by decide) ?_
  refine N_iadd h dL_law_566 ?_
  refine L_sld h hX hbl hbA (by omega) (by omega) dL_law_567 ?_
  refine J_aload_n h (i := 0) dL_law_568 rfl 0 rfl ?_
  refine J_iload_n h (i := 3) dL_law_569 rfl 3 rfl ?_
  refine J_iconst h (v := nI 2) dL_law_570 (by decide) ?_
  refine N_iadd h dL_law_571 ?_
  refine L_sld h hX hbl hbA (by omega) (by omega) dL_law_572 ?_
  refine kx_gain  (rest := []) h hrc hco hro  (xi (n + 1)) (xi (n + 2)) nm_L_75 (by decide) (Nat.le_of_ble_eq_true rfl) (Nat.le_refl _) (Nat.le_refl _) dL_law_573 (fun r_x cd2 tk2 ce2 se2 ln2 en2 hx => ?_)
  refine J_pop h dL_law_576 rfl ?_
  refine J_aload_n h (i := 2) dL_law_577 rfl 2 rfl ?_
  refine J_aload_n h (i := 0) dL_law_578 rfl 0 rfl ?_
  refine J_iload_n h (i := 3) dL_law_579 rfl 3 rfl ?_
  refine J_iconst h (v := nI 1) dL_law_580 (by decide) ?_
  refine N_iadd h dL_law_581 ?_
  refine L_sld h hX hbl hbA (by omega) (by omega) dL_law_582 ?_
  refine J_aload_n h (i := 0) dL_law_583 rfl 0 rfl ?_
  refine J_iload_n h (i := 3) dL_law_584 rfl 3 rfl ?_
  refine J_iconst h (v := nI 2) dL_law_585 (by decide) ?_
  refine N_iadd h dL_law_586 ?_
  refine L_sld h hX hbl hbA (by omega) (by omega) dL_law_587 ?_
  refine J.swp ?_
  refine km_gain (th := th) (ow := ow) (rest := []) h hrc hco hro hrel  (xi (n + 1)) (xi (n + 2)) nm_L_78 (by decide) (Nat.le_of_ble_eq_true rfl) (Nat.le_refl _) (Nat.le_refl _) dL_law_588 (fun r_m ce2M se2M bs2M bh2M hm => ?_)
  refine J.swp ?_
  refine J_pop h dL_law_591 rfl ?_
  refine J_goto h 1034 dL_law_592 (by decide) ?_
  exact hcont (hI0)

set_option maxRecDepth 100000 in
set_option maxHeartbeats 4000000 in
theorem lc_15 (X : Cx) {cI cE : ClassId} (h : Ok X cL_law RL 4 cI cE 9 72 3197) {z0 : Nat} {g0 : Nat} {a0 : Nat} {f0 : Nat} {s0 : Nat} {k0 : Nat} {v0 : Nat} {d0 : Nat} {y0 : Nat} {m0 : Nat} {o0 : Nat} {g1 : Nat} {a1 : Nat} {a2 : Nat} {f1 : Nat} {f2 : Nat} {s1 : Nat} {eA : Nat → Nat} {tA : Nat → Nat} {oA : Nat → Nat} {k1 : Nat} {eK : Nat → Nat} {tK : Nat → Nat} {oK : Nat → Nat} {v1 : Nat} {v2 : Nat} {v3 : Nat} {d1 : Nat} {d2 : Nat} {m1 : Nat} {m2 : Nat} {o1 : Nat} {o2 : Nat} {q0 : Nat} {q3 : Nat} {q4 : Nat} {q6 : Nat} {q7 : Nat} {q8 : Nat} {q9 : Nat} {q14 : Nat} {q15 : Nat} {q17 : Nat} {q18 : Nat} {q19 : Nat} {q23 : Nat} {q24 : Nat} {q25 : Nat} {b L n : Nat} {xi : Nat → Int32} (hX : va_X b L xi (xs X) (xs X).heap) (hbl : b < (xs X).heap.size) (hbA : ¬ xA X b) (hL : L ≤ 384) (hn : n + 6 ≤ L) (hcont : ∀ {lx : Nat → Nat} {tl : Nat} {th : Nat → Int32} {ow : Nat → Int32} {co : Nat} {ro : Nat} {sl : Int32} {dth : Nat → Int32} {dow : Nat → Int32} {dco : Int32} {dro : Int32} {dsl : Int32} {thS : Nat → Nat → Int32} {owS : Nat → Nat → Int32} {coS : Nat → Int32} {roS : Nat → Int32} {slS : Nat → Int32} {nx : Nat} {sz : Nat} {thK : Nat → Nat → Int32} {owK : Nat → Nat → Int32} {coK : Nat → Int32} {roK : Nat → Int32} {slK : Nat → Int32} {nk : Nat} {zk : Nat} {kx : Nat → Nat} {kw : Nat → Nat} {ke : Nat → Nat} {sn : Nat} {ce : Nat → Int32} {se : Nat → Int32} {len : Int32} {en : Int32} {cd : Int32} {tk : Int32} {mk : Nat → Int32} {wg : Nat → Int32} {wn : Int32} {wa : Nat → Int32} {nw : Nat → Int32} {ab : Int32} {be : Int32} {roM : Nat} {coM : Nat} {slM : Int32} {snM : Nat} {tsM : Nat} {raM : Int32} {rrM : Int32} {rwM : Int32} {rnM : Int32} {umM : Nat} {bsM : Int32} {bhM : Int32} {kmM : Nat} {thM : Nat → Int32} {moM : Nat → Int32} {kxM : Nat → Nat} {kwM : Nat → Nat} {keM : Nat → Nat} {lxM : Nat → Nat} {rlM : Nat → Int32} {rgM : Nat → Int32} {ceM : Nat → Int32} {seM : Nat → Int32} {ahM : Nat → Int32} {mkM : Nat → Int32} {asM : Nat → Int32} {kpM : Nat → Int32}, IV lx tl th ow co ro thS owS coS roS nx sz thK owK coK roK nk zk kx kw ke sn lxM tsM thM moM coM roM ahM umM kpM kmM kxM kwM keM snM → J X 4 72 3197 1034 [(0, .ref b), (1, .ref z0), (2, .ref q0), (3, .int (nI n))] [] (WX cI cE z0 g0 a0 f0 s0 k0 v0 d0 y0 m0 o0 g1 a1 a2 f1 f2 s1 eA tA oA k1 eK tK oK v1 v2 v3 d1 d2 m1 m2 o1 o2 lx tl th ow co ro sl dth dow dco dro dsl thS owS coS roS slS nx sz thK owK coK roK slK nk zk kx kw ke sn ce se len en cd tk mk wg wn wa nw ab be ++ WM cI q0 q3 q4 q6 q7 q8 q9 q14 q15 q17 q18 q19 q23 q24 q25 roM coM slM snM tsM raM rrM rwM rnM umM bsM bhM kmM thM moM kxM kwM keM lxM rlM rgM ceM seM ahM mkM asM kpM)) {lx : Nat → Nat} {tl : Nat} {th : Nat → Int32} {ow : Nat → Int32} {co : Nat} {ro : Nat} {sl : Int32} {dth : Nat → Int32} {dow : Nat → Int32} {dco : Int32} {dro : Int32} {dsl : Int32} {thS : Nat → Nat → Int32} {owS : Nat → Nat → Int32} {coS : Nat → Int32} {roS : Nat → Int32} {slS : Nat → Int32} {nx : Nat} {sz : Nat} {thK : Nat → Nat → Int32} {owK : Nat → Nat → Int32} {coK : Nat → Int32} {roK : Nat → Int32} {slK : Nat → Int32} {nk : Nat} {zk : Nat} {kx : Nat → Nat} {kw : Nat → Nat} {ke : Nat → Nat} {sn : Nat} {ce : Nat → Int32} {se : Nat → Int32} {len : Int32} {en : Int32} {cd : Int32} {tk : Int32} {mk : Nat → Int32} {wg : Nat → Int32} {wn : Int32} {wa : Nat → Int32} {nw : Nat → Int32} {ab : Int32} {be : Int32} {roM : Nat} {coM : Nat} {slM : Int32} {snM : Nat} {tsM : Nat} {raM : Int32} {rrM : Int32} {rwM : Int32} {rnM : Int32} {umM : Nat} {bsM : Int32} {bhM : Int32} {kmM : Nat} {thM : Nat → Int32} {moM : Nat → Int32} {kxM : Nat → Nat} {kwM : Nat → Nat} {keM : Nat → Nat} {lxM : Nat → Nat} {rlM : Nat → Int32} {rgM : Nat → Int32} {ceM : Nat → Int32} {seM : Nat → Int32} {ahM : Nat → Int32} {mkM : Nat → Int32} {asM : Nat → Int32} {kpM : Nat → Int32} (hI : IV lx tl th ow co ro thS owS coS roS nx sz thK owK coK roK nk zk kx kw ke sn lxM tsM thM moM coM roM ahM umM kpM kmM kxM kwM keM snM) : J X 4 72 3197 595 [(0, .ref b), (1, .ref z0), (2, .ref q0), (3, .int (nI n))] [] (WX cI cE z0 g0 a0 f0 s0 k0 v0 d0 y0 m0 o0 g1 a1 a2 f1 f2 s1 eA tA oA k1 eK tK oK v1 v2 v3 d1 d2 m1 m2 o1 o2 lx tl th ow co ro sl dth dow dco dro dsl thS owS coS roS slS nx sz thK owK coK roK slK nk zk kx kw ke sn ce se len en cd tk mk wg wn wa nw ab be ++ WM cI q0 q3 q4 q6 q7 q8 q9 q14 q15 q17 q18 q19 q23 q24 q25 roM coM slM snM tsM raM rrM rwM rnM umM bsM bhM kmM thM moM kxM kwM keM lxM rlM rgM ceM seM ahM mkM asM kpM) := by
  have hI0 := hI
  obtain ⟨⟨rfl, rfl, rfl, rfl, rfl, rfl, rfl, rfl, rfl⟩, ⟨hlx, hlxM, hle, htl⟩, ⟨hrc, hco, hro, hc0, hr0⟩, hrel, ⟨hnx, hsz, hrg⟩, ⟨hnk, hzk, hrk⟩, hsn, hk⟩ := hI
  refine J_aload_n h (i := 1) dL_law_595 rfl 1 rfl ?_
  refine J_aload_n h (i := 0) dL_law_596 rfl 0 rfl ?_
  refine J_iload_n h (i := 3) dL_law_597 rfl 3 rfl ?_
  refine J_iconst h (v := nI 1) dL_law_598 (by decide) ?_
  refine N_iadd h dL_law_599 ?_
  refine L_sld h hX hbl hbA (by omega) (by omega) dL_law_600 ?_
  refine J_aload_n h (i := 0) dL_law_601 rfl 0 rfl ?_
  refine J_iload_n h (i := 3) dL_law_602 rfl 3 rfl ?_
  refine J_iconst h (v := nI 2) dL_law_603 (by decide) ?_
  refine N_iadd h dL_law_604 ?_
  refine L_sld h hX hbl hbA (by omega) (by omega) dL_law_605 ?_
  refine J_aload_n h (i := 0) dL_law_606 rfl 0 rfl ?_
  refine J_iload_n h (i := 3) dL_law_607 rfl 3 rfl ?_
  refine J_iconst h (v := nI 3) dL_law_608 (by decide) ?_
  refine N_iadd h dL_law_609 ?_
  refine L_sld h hX hbl hbA (by omega) (by omega) dL_law_610 ?_
  refine kx_spoil  (rest := []) h hrc hco hro  (xi (n + 1)) (xi (n + 2)) (xi (n + 3)) nm_L_79 (by decide) (Nat.le_of_ble_eq_true rfl) (Nat.le_refl _) (Nat.le_refl _) dL_law_611 (fun r_x cd2 tk2 ce2 se2 ln2 en2 hx => ?_)
  refine J_pop h dL_law_614 rfl ?_
  refine J_aload_n h (i := 2) dL_law_615 rfl 2 rfl ?_
  refine J_aload_n h (i := 0) dL_law_616 rfl 0 rfl ?_
  refine J_iload_n h (i := 3) dL_law_617 rfl 3 rfl ?_
  refine J_iconst h (v := nI 1) dL_law_618 (by decide) ?_
  refine N_iadd h dL_law_619 ?_
  refine L_sld h hX hbl hbA (by omega) (by omega) dL_law_620 ?_
  refine J_aload_n h (i := 0) dL_law_621 rfl 0 rfl ?_
  refine J_iload_n h (i := 3) dL_law_622 rfl 3 rfl ?_
  refine J_iconst h (v := nI 2) dL_law_623 (by decide) ?_
  refine N_iadd h dL_law_624 ?_
  refine L_sld h hX hbl hbA (by omega) (by omega) dL_law_625 ?_
  refine J_aload_n h (i := 0) dL_law_626 rfl 0 rfl ?_
  refine J_iload_n h (i := 3) dL_law_627 rfl 3 rfl ?_
  refine J_iconst h (v := nI 3) dL_law_628 (by decide) ?_
  refine N_iadd h dL_law_629 ?_
  refine L_sld h hX hbl hbA (by omega) (by omega) dL_law_630 ?_
  refine J.swp ?_
  refine km_spoil (th := th) (ow := ow) (rest := []) h hrc hco hro hrel  (xi (n + 1)) (xi (n + 2)) (xi (n + 3)) nm_L_82 (by decide) (Nat.le_of_ble_eq_true rfl) (Nat.le_refl _) (Nat.le_refl _) dL_law_631 (fun r_m ce2M se2M bs2M bh2M hm => ?_)
  refine J.swp ?_
  refine J_pop h dL_law_634 rfl ?_
  refine J_goto h 1034 dL_law_635 (by decide) ?_
  exact hcont (hI0)

set_option maxRecDepth 100000 in
set_option maxHeartbeats 4000000 in
theorem lc_16 (X : Cx) {cI cE : ClassId} (h : Ok X cL_law RL 4 cI cE 9 72 3197) {z0 : Nat} {g0 : Nat} {a0 : Nat} {f0 : Nat} {s0 : Nat} {k0 : Nat} {v0 : Nat} {d0 : Nat} {y0 : Nat} {m0 : Nat} {o0 : Nat} {g1 : Nat} {a1 : Nat} {a2 : Nat} {f1 : Nat} {f2 : Nat} {s1 : Nat} {eA : Nat → Nat} {tA : Nat → Nat} {oA : Nat → Nat} {k1 : Nat} {eK : Nat → Nat} {tK : Nat → Nat} {oK : Nat → Nat} {v1 : Nat} {v2 : Nat} {v3 : Nat} {d1 : Nat} {d2 : Nat} {m1 : Nat} {m2 : Nat} {o1 : Nat} {o2 : Nat} {q0 : Nat} {q3 : Nat} {q4 : Nat} {q6 : Nat} {q7 : Nat} {q8 : Nat} {q9 : Nat} {q14 : Nat} {q15 : Nat} {q17 : Nat} {q18 : Nat} {q19 : Nat} {q23 : Nat} {q24 : Nat} {q25 : Nat} {b L n : Nat} {xi : Nat → Int32} (hX : va_X b L xi (xs X) (xs X).heap) (hbl : b < (xs X).heap.size) (hbA : ¬ xA X b) (hL : L ≤ 384) (hn : n + 6 ≤ L) (hcont : ∀ {lx : Nat → Nat} {tl : Nat} {th : Nat → Int32} {ow : Nat → Int32} {co : Nat} {ro : Nat} {sl : Int32} {dth : Nat → Int32} {dow : Nat → Int32} {dco : Int32} {dro : Int32} {dsl : Int32} {thS : Nat → Nat → Int32} {owS : Nat → Nat → Int32} {coS : Nat → Int32} {roS : Nat → Int32} {slS : Nat → Int32} {nx : Nat} {sz : Nat} {thK : Nat → Nat → Int32} {owK : Nat → Nat → Int32} {coK : Nat → Int32} {roK : Nat → Int32} {slK : Nat → Int32} {nk : Nat} {zk : Nat} {kx : Nat → Nat} {kw : Nat → Nat} {ke : Nat → Nat} {sn : Nat} {ce : Nat → Int32} {se : Nat → Int32} {len : Int32} {en : Int32} {cd : Int32} {tk : Int32} {mk : Nat → Int32} {wg : Nat → Int32} {wn : Int32} {wa : Nat → Int32} {nw : Nat → Int32} {ab : Int32} {be : Int32} {roM : Nat} {coM : Nat} {slM : Int32} {snM : Nat} {tsM : Nat} {raM : Int32} {rrM : Int32} {rwM : Int32} {rnM : Int32} {umM : Nat} {bsM : Int32} {bhM : Int32} {kmM : Nat} {thM : Nat → Int32} {moM : Nat → Int32} {kxM : Nat → Nat} {kwM : Nat → Nat} {keM : Nat → Nat} {lxM : Nat → Nat} {rlM : Nat → Int32} {rgM : Nat → Int32} {ceM : Nat → Int32} {seM : Nat → Int32} {ahM : Nat → Int32} {mkM : Nat → Int32} {asM : Nat → Int32} {kpM : Nat → Int32}, IV lx tl th ow co ro thS owS coS roS nx sz thK owK coK roK nk zk kx kw ke sn lxM tsM thM moM coM roM ahM umM kpM kmM kxM kwM keM snM → J X 4 72 3197 1034 [(0, .ref b), (1, .ref z0), (2, .ref q0), (3, .int (nI n))] [] (WX cI cE z0 g0 a0 f0 s0 k0 v0 d0 y0 m0 o0 g1 a1 a2 f1 f2 s1 eA tA oA k1 eK tK oK v1 v2 v3 d1 d2 m1 m2 o1 o2 lx tl th ow co ro sl dth dow dco dro dsl thS owS coS roS slS nx sz thK owK coK roK slK nk zk kx kw ke sn ce se len en cd tk mk wg wn wa nw ab be ++ WM cI q0 q3 q4 q6 q7 q8 q9 q14 q15 q17 q18 q19 q23 q24 q25 roM coM slM snM tsM raM rrM rwM rnM umM bsM bhM kmM thM moM kxM kwM keM lxM rlM rgM ceM seM ahM mkM asM kpM)) {lx : Nat → Nat} {tl : Nat} {th : Nat → Int32} {ow : Nat → Int32} {co : Nat} {ro : Nat} {sl : Int32} {dth : Nat → Int32} {dow : Nat → Int32} {dco : Int32} {dro : Int32} {dsl : Int32} {thS : Nat → Nat → Int32} {owS : Nat → Nat → Int32} {coS : Nat → Int32} {roS : Nat → Int32} {slS : Nat → Int32} {nx : Nat} {sz : Nat} {thK : Nat → Nat → Int32} {owK : Nat → Nat → Int32} {coK : Nat → Int32} {roK : Nat → Int32} {slK : Nat → Int32} {nk : Nat} {zk : Nat} {kx : Nat → Nat} {kw : Nat → Nat} {ke : Nat → Nat} {sn : Nat} {ce : Nat → Int32} {se : Nat → Int32} {len : Int32} {en : Int32} {cd : Int32} {tk : Int32} {mk : Nat → Int32} {wg : Nat → Int32} {wn : Int32} {wa : Nat → Int32} {nw : Nat → Int32} {ab : Int32} {be : Int32} {roM : Nat} {coM : Nat} {slM : Int32} {snM : Nat} {tsM : Nat} {raM : Int32} {rrM : Int32} {rwM : Int32} {rnM : Int32} {umM : Nat} {bsM : Int32} {bhM : Int32} {kmM : Nat} {thM : Nat → Int32} {moM : Nat → Int32} {kxM : Nat → Nat} {kwM : Nat → Nat} {keM : Nat → Nat} {lxM : Nat → Nat} {rlM : Nat → Int32} {rgM : Nat → Int32} {ceM : Nat → Int32} {seM : Nat → Int32} {ahM : Nat → Int32} {mkM : Nat → Int32} {asM : Nat → Int32} {kpM : Nat → Int32} (hI : IV lx tl th ow co ro thS owS coS roS nx sz thK owK coK roK nk zk kx kw ke sn lxM tsM thM moM coM roM ahM umM kpM kmM kxM kwM keM snM) : J X 4 72 3197 638 [(0, .ref b), (1, .ref z0), (2, .ref q0), (3, .int (nI n))] [] (WX cI cE z0 g0 a0 f0 s0 k0 v0 d0 y0 m0 o0 g1 a1 a2 f1 f2 s1 eA tA oA k1 eK tK oK v1 v2 v3 d1 d2 m1 m2 o1 o2 lx tl th ow co ro sl dth dow dco dro dsl thS owS coS roS slS nx sz thK owK coK roK slK nk zk kx kw ke sn ce se len en cd tk mk wg wn wa nw ab be ++ WM cI q0 q3 q4 q6 q7 q8 q9 q14 q15 q17 q18 q19 q23 q24 q25 roM coM slM snM tsM raM rrM rwM rnM umM bsM bhM kmM thM moM kxM kwM keM lxM rlM rgM ceM seM ahM mkM asM kpM) := by
  have hI0 := hI
  obtain ⟨⟨rfl, rfl, rfl, rfl, rfl, rfl, rfl, rfl, rfl⟩, ⟨hlx, hlxM, hle, htl⟩, ⟨hrc, hco, hro, hc0, hr0⟩, hrel, ⟨hnx, hsz, hrg⟩, ⟨hnk, hzk, hrk⟩, hsn, hk⟩ := hI
  refine J_aload_n h (i := 1) dL_law_638 rfl 1 rfl ?_
  refine J_aload_n h (i := 0) dL_law_639 rfl 0 rfl ?_
  refine J_iload_n h (i := 3) dL_law_640 rfl 3 rfl ?_
  refine J_iconst h (v := nI 1) dL_law_641 (by decide) ?_
  refine N_iadd h dL_law_642 ?_
  refine L_sld h hX hbl hbA (by omega) (by omega) dL_law_643 ?_
  refine J_aload_n h (i := 0) dL_law_644 rfl 0 rfl ?_
  refine J_iload_n h (i := 3) dL_law_645 rfl 3 rfl ?_
  refine J_iconst h (v := nI 2) dL_law_646 (by decide) ?_
  refine N_iadd h dL_law_647 ?_
  refine L_sld h hX hbl hbA (by omega) (by omega) dL_law_648 ?_
  refine J_aload_n h (i := 0) dL_law_649 rfl 0 rfl ?_
  refine J_iload_n h (i := 3) dL_law_650 rfl 3 rfl ?_
  refine J_iconst h (v := nI 3) dL_law_651 (by decide) ?_
  refine N_iadd h dL_law_652 ?_
  refine L_sld h hX hbl hbA (by omega) (by omega) dL_law_653 ?_
  refine J_aload_n h (i := 0) dL_law_654 rfl 0 rfl ?_
  refine J_iload_n h (i := 3) dL_law_655 rfl 3 rfl ?_
  refine J_iconst h (v := nI 4) dL_law_656 (by decide) ?_
  refine N_iadd h dL_law_657 ?_
  refine L_sld h hX hbl hbA (by omega) (by omega) dL_law_658 ?_
  refine kx_cure  (rest := []) h hrc hco hro  (xi (n + 1)) (xi (n + 2)) (xi (n + 3)) (xi (n + 4)) nm_L_83 (by decide) (Nat.le_of_ble_eq_true rfl) (Nat.le_refl _) (Nat.le_refl _) dL_law_659 (fun r_x ce2 se2 ln2 en2 hx => ?_)
  refine J_pop h dL_law_662 rfl ?_
  refine J_aload_n h (i := 2) dL_law_663 rfl 2 rfl ?_
  refine J_aload_n h (i := 0) dL_law_664 rfl 0 rfl ?_
  refine J_iload_n h (i := 3) dL_law_665 rfl 3 rfl ?_
  refine J_iconst h (v := nI 1) dL_law_666 (by decide) ?_
  refine N_iadd h dL_law_667 ?_
  refine L_sld h hX hbl hbA (by omega) (by omega) dL_law_668 ?_
  refine J_aload_n h (i := 0) dL_law_669 rfl 0 rfl ?_
  refine J_iload_n h (i := 3) dL_law_670 rfl 3 rfl ?_
  refine J_iconst h (v := nI 2) dL_law_671 (by decide) ?_
  refine N_iadd h dL_law_672 ?_
  refine L_sld h hX hbl hbA (by omega) (by omega) dL_law_673 ?_
  refine J_aload_n h (i := 0) dL_law_674 rfl 0 rfl ?_
  refine J_iload_n h (i := 3) dL_law_675 rfl 3 rfl ?_
  refine J_iconst h (v := nI 3) dL_law_676 (by decide) ?_
  refine N_iadd h dL_law_677 ?_
  refine L_sld h hX hbl hbA (by omega) (by omega) dL_law_678 ?_
  refine J_aload_n h (i := 0) dL_law_679 rfl 0 rfl ?_
  refine J_iload_n h (i := 3) dL_law_680 rfl 3 rfl ?_
  refine J_iconst h (v := nI 4) dL_law_681 (by decide) ?_
  refine N_iadd h dL_law_682 ?_
  refine L_sld h hX hbl hbA (by omega) (by omega) dL_law_683 ?_
  refine J.swp ?_
  refine km_cure (th := th) (ow := ow) (rest := []) h hrc hco hro hrel  (xi (n + 1)) (xi (n + 2)) (xi (n + 3)) (xi (n + 4)) nm_L_86 (by decide) (Nat.le_of_ble_eq_true rfl) (Nat.le_refl _) (Nat.le_refl _) dL_law_684 (fun r_m ce2M se2M hm => ?_)
  refine J.swp ?_
  refine J_pop h dL_law_687 rfl ?_
  refine J_goto h 1034 dL_law_688 (by decide) ?_
  exact hcont (hI0)

set_option maxRecDepth 100000 in
set_option maxHeartbeats 4000000 in
theorem lc_17 (X : Cx) {cI cE : ClassId} (h : Ok X cL_law RL 4 cI cE 9 72 3197) {z0 : Nat} {g0 : Nat} {a0 : Nat} {f0 : Nat} {s0 : Nat} {k0 : Nat} {v0 : Nat} {d0 : Nat} {y0 : Nat} {m0 : Nat} {o0 : Nat} {g1 : Nat} {a1 : Nat} {a2 : Nat} {f1 : Nat} {f2 : Nat} {s1 : Nat} {eA : Nat → Nat} {tA : Nat → Nat} {oA : Nat → Nat} {k1 : Nat} {eK : Nat → Nat} {tK : Nat → Nat} {oK : Nat → Nat} {v1 : Nat} {v2 : Nat} {v3 : Nat} {d1 : Nat} {d2 : Nat} {m1 : Nat} {m2 : Nat} {o1 : Nat} {o2 : Nat} {q0 : Nat} {q3 : Nat} {q4 : Nat} {q6 : Nat} {q7 : Nat} {q8 : Nat} {q9 : Nat} {q14 : Nat} {q15 : Nat} {q17 : Nat} {q18 : Nat} {q19 : Nat} {q23 : Nat} {q24 : Nat} {q25 : Nat} {b L n : Nat} {xi : Nat → Int32} (hX : va_X b L xi (xs X) (xs X).heap) (hbl : b < (xs X).heap.size) (hbA : ¬ xA X b) (hL : L ≤ 384) (hn : n + 6 ≤ L) (hcont : ∀ {lx : Nat → Nat} {tl : Nat} {th : Nat → Int32} {ow : Nat → Int32} {co : Nat} {ro : Nat} {sl : Int32} {dth : Nat → Int32} {dow : Nat → Int32} {dco : Int32} {dro : Int32} {dsl : Int32} {thS : Nat → Nat → Int32} {owS : Nat → Nat → Int32} {coS : Nat → Int32} {roS : Nat → Int32} {slS : Nat → Int32} {nx : Nat} {sz : Nat} {thK : Nat → Nat → Int32} {owK : Nat → Nat → Int32} {coK : Nat → Int32} {roK : Nat → Int32} {slK : Nat → Int32} {nk : Nat} {zk : Nat} {kx : Nat → Nat} {kw : Nat → Nat} {ke : Nat → Nat} {sn : Nat} {ce : Nat → Int32} {se : Nat → Int32} {len : Int32} {en : Int32} {cd : Int32} {tk : Int32} {mk : Nat → Int32} {wg : Nat → Int32} {wn : Int32} {wa : Nat → Int32} {nw : Nat → Int32} {ab : Int32} {be : Int32} {roM : Nat} {coM : Nat} {slM : Int32} {snM : Nat} {tsM : Nat} {raM : Int32} {rrM : Int32} {rwM : Int32} {rnM : Int32} {umM : Nat} {bsM : Int32} {bhM : Int32} {kmM : Nat} {thM : Nat → Int32} {moM : Nat → Int32} {kxM : Nat → Nat} {kwM : Nat → Nat} {keM : Nat → Nat} {lxM : Nat → Nat} {rlM : Nat → Int32} {rgM : Nat → Int32} {ceM : Nat → Int32} {seM : Nat → Int32} {ahM : Nat → Int32} {mkM : Nat → Int32} {asM : Nat → Int32} {kpM : Nat → Int32}, IV lx tl th ow co ro thS owS coS roS nx sz thK owK coK roK nk zk kx kw ke sn lxM tsM thM moM coM roM ahM umM kpM kmM kxM kwM keM snM → J X 4 72 3197 1034 [(0, .ref b), (1, .ref z0), (2, .ref q0), (3, .int (nI n))] [] (WX cI cE z0 g0 a0 f0 s0 k0 v0 d0 y0 m0 o0 g1 a1 a2 f1 f2 s1 eA tA oA k1 eK tK oK v1 v2 v3 d1 d2 m1 m2 o1 o2 lx tl th ow co ro sl dth dow dco dro dsl thS owS coS roS slS nx sz thK owK coK roK slK nk zk kx kw ke sn ce se len en cd tk mk wg wn wa nw ab be ++ WM cI q0 q3 q4 q6 q7 q8 q9 q14 q15 q17 q18 q19 q23 q24 q25 roM coM slM snM tsM raM rrM rwM rnM umM bsM bhM kmM thM moM kxM kwM keM lxM rlM rgM ceM seM ahM mkM asM kpM)) {lx : Nat → Nat} {tl : Nat} {th : Nat → Int32} {ow : Nat → Int32} {co : Nat} {ro : Nat} {sl : Int32} {dth : Nat → Int32} {dow : Nat → Int32} {dco : Int32} {dro : Int32} {dsl : Int32} {thS : Nat → Nat → Int32} {owS : Nat → Nat → Int32} {coS : Nat → Int32} {roS : Nat → Int32} {slS : Nat → Int32} {nx : Nat} {sz : Nat} {thK : Nat → Nat → Int32} {owK : Nat → Nat → Int32} {coK : Nat → Int32} {roK : Nat → Int32} {slK : Nat → Int32} {nk : Nat} {zk : Nat} {kx : Nat → Nat} {kw : Nat → Nat} {ke : Nat → Nat} {sn : Nat} {ce : Nat → Int32} {se : Nat → Int32} {len : Int32} {en : Int32} {cd : Int32} {tk : Int32} {mk : Nat → Int32} {wg : Nat → Int32} {wn : Int32} {wa : Nat → Int32} {nw : Nat → Int32} {ab : Int32} {be : Int32} {roM : Nat} {coM : Nat} {slM : Int32} {snM : Nat} {tsM : Nat} {raM : Int32} {rrM : Int32} {rwM : Int32} {rnM : Int32} {umM : Nat} {bsM : Int32} {bhM : Int32} {kmM : Nat} {thM : Nat → Int32} {moM : Nat → Int32} {kxM : Nat → Nat} {kwM : Nat → Nat} {keM : Nat → Nat} {lxM : Nat → Nat} {rlM : Nat → Int32} {rgM : Nat → Int32} {ceM : Nat → Int32} {seM : Nat → Int32} {ahM : Nat → Int32} {mkM : Nat → Int32} {asM : Nat → Int32} {kpM : Nat → Int32} (hI : IV lx tl th ow co ro thS owS coS roS nx sz thK owK coK roK nk zk kx kw ke sn lxM tsM thM moM coM roM ahM umM kpM kmM kxM kwM keM snM) : J X 4 72 3197 691 [(0, .ref b), (1, .ref z0), (2, .ref q0), (3, .int (nI n))] [] (WX cI cE z0 g0 a0 f0 s0 k0 v0 d0 y0 m0 o0 g1 a1 a2 f1 f2 s1 eA tA oA k1 eK tK oK v1 v2 v3 d1 d2 m1 m2 o1 o2 lx tl th ow co ro sl dth dow dco dro dsl thS owS coS roS slS nx sz thK owK coK roK slK nk zk kx kw ke sn ce se len en cd tk mk wg wn wa nw ab be ++ WM cI q0 q3 q4 q6 q7 q8 q9 q14 q15 q17 q18 q19 q23 q24 q25 roM coM slM snM tsM raM rrM rwM rnM umM bsM bhM kmM thM moM kxM kwM keM lxM rlM rgM ceM seM ahM mkM asM kpM) := by
  have hI0 := hI
  obtain ⟨⟨rfl, rfl, rfl, rfl, rfl, rfl, rfl, rfl, rfl⟩, ⟨hlx, hlxM, hle, htl⟩, ⟨hrc, hco, hro, hc0, hr0⟩, hrel, ⟨hnx, hsz, hrg⟩, ⟨hnk, hzk, hrk⟩, hsn, hk⟩ := hI
  refine J_aload_n h (i := 1) dL_law_691 rfl 1 rfl ?_
  refine J_aload_n h (i := 0) dL_law_692 rfl 0 rfl ?_
  refine J_iload_n h (i := 3) dL_law_693 rfl 3 rfl ?_
  refine J_iconst h (v := nI 1) dL_law_694 (by decide) ?_
  refine N_iadd h dL_law_695 ?_
  refine L_sld h hX hbl hbA (by omega) (by omega) dL_law_696 ?_
  refine kx_pieces  (rest := []) h hrc hco hro  (xi (n + 1)) nm_L_87 (by decide) (Nat.le_of_ble_eq_true rfl) (Nat.le_refl _) (Nat.le_refl _) dL_law_697 (fun r_x mk2 wg2 wn2 hx => ?_)
  refine J_pop h dL_law_700 rfl ?_
  refine J_aload_n h (i := 2) dL_law_701 rfl 2 rfl ?_
  refine J_aload_n h (i := 0) dL_law_702 rfl 0 rfl ?_
  refine J_iload_n h (i := 3) dL_law_703 rfl 3 rfl ?_
  refine J_iconst h (v := nI 1) dL_law_704 (by decide) ?_
  refine N_iadd h dL_law_705 ?_
  refine L_sld h hX hbl hbA (by omega) (by omega) dL_law_706 ?_
  refine J.swp ?_
  refine km_pieces  (rest := []) h hrc hco hro hc0  (xi (n + 1)) nm_L_90 (by decide) (Nat.le_of_ble_eq_true rfl) (Nat.le_refl _) (Nat.le_refl _) dL_law_707 (fun r_m mk2M hm => ?_)
  refine J.swp ?_
  refine J_pop h dL_law_710 rfl ?_
  refine J_goto h 1034 dL_law_711 (by decide) ?_
  exact hcont (hI0)

set_option maxRecDepth 100000 in
set_option maxHeartbeats 4000000 in
theorem lc_18 (X : Cx) {cI cE : ClassId} (h : Ok X cL_law RL 4 cI cE 9 72 3197) {z0 : Nat} {g0 : Nat} {a0 : Nat} {f0 : Nat} {s0 : Nat} {k0 : Nat} {v0 : Nat} {d0 : Nat} {y0 : Nat} {m0 : Nat} {o0 : Nat} {g1 : Nat} {a1 : Nat} {a2 : Nat} {f1 : Nat} {f2 : Nat} {s1 : Nat} {eA : Nat → Nat} {tA : Nat → Nat} {oA : Nat → Nat} {k1 : Nat} {eK : Nat → Nat} {tK : Nat → Nat} {oK : Nat → Nat} {v1 : Nat} {v2 : Nat} {v3 : Nat} {d1 : Nat} {d2 : Nat} {m1 : Nat} {m2 : Nat} {o1 : Nat} {o2 : Nat} {q0 : Nat} {q3 : Nat} {q4 : Nat} {q6 : Nat} {q7 : Nat} {q8 : Nat} {q9 : Nat} {q14 : Nat} {q15 : Nat} {q17 : Nat} {q18 : Nat} {q19 : Nat} {q23 : Nat} {q24 : Nat} {q25 : Nat} {b L n : Nat} {xi : Nat → Int32} (hX : va_X b L xi (xs X) (xs X).heap) (hbl : b < (xs X).heap.size) (hbA : ¬ xA X b) (hL : L ≤ 384) (hn : n + 6 ≤ L) (hcont : ∀ {lx : Nat → Nat} {tl : Nat} {th : Nat → Int32} {ow : Nat → Int32} {co : Nat} {ro : Nat} {sl : Int32} {dth : Nat → Int32} {dow : Nat → Int32} {dco : Int32} {dro : Int32} {dsl : Int32} {thS : Nat → Nat → Int32} {owS : Nat → Nat → Int32} {coS : Nat → Int32} {roS : Nat → Int32} {slS : Nat → Int32} {nx : Nat} {sz : Nat} {thK : Nat → Nat → Int32} {owK : Nat → Nat → Int32} {coK : Nat → Int32} {roK : Nat → Int32} {slK : Nat → Int32} {nk : Nat} {zk : Nat} {kx : Nat → Nat} {kw : Nat → Nat} {ke : Nat → Nat} {sn : Nat} {ce : Nat → Int32} {se : Nat → Int32} {len : Int32} {en : Int32} {cd : Int32} {tk : Int32} {mk : Nat → Int32} {wg : Nat → Int32} {wn : Int32} {wa : Nat → Int32} {nw : Nat → Int32} {ab : Int32} {be : Int32} {roM : Nat} {coM : Nat} {slM : Int32} {snM : Nat} {tsM : Nat} {raM : Int32} {rrM : Int32} {rwM : Int32} {rnM : Int32} {umM : Nat} {bsM : Int32} {bhM : Int32} {kmM : Nat} {thM : Nat → Int32} {moM : Nat → Int32} {kxM : Nat → Nat} {kwM : Nat → Nat} {keM : Nat → Nat} {lxM : Nat → Nat} {rlM : Nat → Int32} {rgM : Nat → Int32} {ceM : Nat → Int32} {seM : Nat → Int32} {ahM : Nat → Int32} {mkM : Nat → Int32} {asM : Nat → Int32} {kpM : Nat → Int32}, IV lx tl th ow co ro thS owS coS roS nx sz thK owK coK roK nk zk kx kw ke sn lxM tsM thM moM coM roM ahM umM kpM kmM kxM kwM keM snM → J X 4 72 3197 1034 [(0, .ref b), (1, .ref z0), (2, .ref q0), (3, .int (nI n))] [] (WX cI cE z0 g0 a0 f0 s0 k0 v0 d0 y0 m0 o0 g1 a1 a2 f1 f2 s1 eA tA oA k1 eK tK oK v1 v2 v3 d1 d2 m1 m2 o1 o2 lx tl th ow co ro sl dth dow dco dro dsl thS owS coS roS slS nx sz thK owK coK roK slK nk zk kx kw ke sn ce se len en cd tk mk wg wn wa nw ab be ++ WM cI q0 q3 q4 q6 q7 q8 q9 q14 q15 q17 q18 q19 q23 q24 q25 roM coM slM snM tsM raM rrM rwM rnM umM bsM bhM kmM thM moM kxM kwM keM lxM rlM rgM ceM seM ahM mkM asM kpM)) {lx : Nat → Nat} {tl : Nat} {th : Nat → Int32} {ow : Nat → Int32} {co : Nat} {ro : Nat} {sl : Int32} {dth : Nat → Int32} {dow : Nat → Int32} {dco : Int32} {dro : Int32} {dsl : Int32} {thS : Nat → Nat → Int32} {owS : Nat → Nat → Int32} {coS : Nat → Int32} {roS : Nat → Int32} {slS : Nat → Int32} {nx : Nat} {sz : Nat} {thK : Nat → Nat → Int32} {owK : Nat → Nat → Int32} {coK : Nat → Int32} {roK : Nat → Int32} {slK : Nat → Int32} {nk : Nat} {zk : Nat} {kx : Nat → Nat} {kw : Nat → Nat} {ke : Nat → Nat} {sn : Nat} {ce : Nat → Int32} {se : Nat → Int32} {len : Int32} {en : Int32} {cd : Int32} {tk : Int32} {mk : Nat → Int32} {wg : Nat → Int32} {wn : Int32} {wa : Nat → Int32} {nw : Nat → Int32} {ab : Int32} {be : Int32} {roM : Nat} {coM : Nat} {slM : Int32} {snM : Nat} {tsM : Nat} {raM : Int32} {rrM : Int32} {rwM : Int32} {rnM : Int32} {umM : Nat} {bsM : Int32} {bhM : Int32} {kmM : Nat} {thM : Nat → Int32} {moM : Nat → Int32} {kxM : Nat → Nat} {kwM : Nat → Nat} {keM : Nat → Nat} {lxM : Nat → Nat} {rlM : Nat → Int32} {rgM : Nat → Int32} {ceM : Nat → Int32} {seM : Nat → Int32} {ahM : Nat → Int32} {mkM : Nat → Int32} {asM : Nat → Int32} {kpM : Nat → Int32} (hI : IV lx tl th ow co ro thS owS coS roS nx sz thK owK coK roK nk zk kx kw ke sn lxM tsM thM moM coM roM ahM umM kpM kmM kxM kwM keM snM) : J X 4 72 3197 714 [(0, .ref b), (1, .ref z0), (2, .ref q0), (3, .int (nI n))] [] (WX cI cE z0 g0 a0 f0 s0 k0 v0 d0 y0 m0 o0 g1 a1 a2 f1 f2 s1 eA tA oA k1 eK tK oK v1 v2 v3 d1 d2 m1 m2 o1 o2 lx tl th ow co ro sl dth dow dco dro dsl thS owS coS roS slS nx sz thK owK coK roK slK nk zk kx kw ke sn ce se len en cd tk mk wg wn wa nw ab be ++ WM cI q0 q3 q4 q6 q7 q8 q9 q14 q15 q17 q18 q19 q23 q24 q25 roM coM slM snM tsM raM rrM rwM rnM umM bsM bhM kmM thM moM kxM kwM keM lxM rlM rgM ceM seM ahM mkM asM kpM) := by
  have hI0 := hI
  obtain ⟨⟨rfl, rfl, rfl, rfl, rfl, rfl, rfl, rfl, rfl⟩, ⟨hlx, hlxM, hle, htl⟩, ⟨hrc, hco, hro, hc0, hr0⟩, hrel, ⟨hnx, hsz, hrg⟩, ⟨hnk, hzk, hrk⟩, hsn, hk⟩ := hI
  refine J_aload_n h (i := 1) dL_law_714 rfl 1 rfl ?_
  refine J_aload_n h (i := 0) dL_law_715 rfl 0 rfl ?_
  refine J_iload_n h (i := 3) dL_law_716 rfl 3 rfl ?_
  refine J_iconst h (v := nI 1) dL_law_717 (by decide) ?_
  refine N_iadd h dL_law_718 ?_
  refine L_sld h hX hbl hbA (by omega) (by omega) dL_law_719 ?_
  refine J_aload_n h (i := 0) dL_law_720 rfl 0 rfl ?_
  refine J_iload_n h (i := 3) dL_law_721 rfl 3 rfl ?_
  refine J_iconst h (v := nI 2) dL_law_722 (by decide) ?_
  refine N_iadd h dL_law_723 ?_
  refine L_sld h hX hbl hbA (by omega) (by omega) dL_law_724 ?_
  refine J_aload_n h (i := 0) dL_law_725 rfl 0 rfl ?_
  refine J_iload_n h (i := 3) dL_law_726 rfl 3 rfl ?_
  refine J_iconst h (v := nI 3) dL_law_727 (by decide) ?_
  refine N_iadd h dL_law_728 ?_
  refine L_sld h hX hbl hbA (by omega) (by omega) dL_law_729 ?_
  refine kx_bridge  (rest := []) h hrc hco hro  (xi (n + 1)) (xi (n + 2)) (xi (n + 3)) nm_L_91 (by decide) (Nat.le_of_ble_eq_true rfl) (Nat.le_refl _) (Nat.le_refl _) dL_law_730 (fun r_x mk2 hx => ?_)
  refine J_pop h dL_law_733 rfl ?_
  refine J_aload_n h (i := 2) dL_law_734 rfl 2 rfl ?_
  refine J_aload_n h (i := 0) dL_law_735 rfl 0 rfl ?_
  refine J_iload_n h (i := 3) dL_law_736 rfl 3 rfl ?_
  refine J_iconst h (v := nI 1) dL_law_737 (by decide) ?_
  refine N_iadd h dL_law_738 ?_
  refine L_sld h hX hbl hbA (by omega) (by omega) dL_law_739 ?_
  refine J_aload_n h (i := 0) dL_law_740 rfl 0 rfl ?_
  refine J_iload_n h (i := 3) dL_law_741 rfl 3 rfl ?_
  refine J_iconst h (v := nI 2) dL_law_742 (by decide) ?_
  refine N_iadd h dL_law_743 ?_
  refine L_sld h hX hbl hbA (by omega) (by omega) dL_law_744 ?_
  refine J_aload_n h (i := 0) dL_law_745 rfl 0 rfl ?_
  refine J_iload_n h (i := 3) dL_law_746 rfl 3 rfl ?_
  refine J_iconst h (v := nI 3) dL_law_747 (by decide) ?_
  refine N_iadd h dL_law_748 ?_
  refine L_sld h hX hbl hbA (by omega) (by omega) dL_law_749 ?_
  refine J.swp ?_
  refine km_bridge  (rest := []) h hrc hco hro hc0  (xi (n + 1)) (xi (n + 2)) (xi (n + 3)) nm_L_94 (by decide) (Nat.le_of_ble_eq_true rfl) (Nat.le_refl _) (Nat.le_refl _) dL_law_750 (fun r_m mk2M hm => ?_)
  refine J.swp ?_
  refine J_pop h dL_law_753 rfl ?_
  refine J_goto h 1034 dL_law_754 (by decide) ?_
  exact hcont (hI0)

set_option maxRecDepth 100000 in
set_option maxHeartbeats 4000000 in
theorem lc_19 (X : Cx) {cI cE : ClassId} (h : Ok X cL_law RL 4 cI cE 9 72 3197) {z0 : Nat} {g0 : Nat} {a0 : Nat} {f0 : Nat} {s0 : Nat} {k0 : Nat} {v0 : Nat} {d0 : Nat} {y0 : Nat} {m0 : Nat} {o0 : Nat} {g1 : Nat} {a1 : Nat} {a2 : Nat} {f1 : Nat} {f2 : Nat} {s1 : Nat} {eA : Nat → Nat} {tA : Nat → Nat} {oA : Nat → Nat} {k1 : Nat} {eK : Nat → Nat} {tK : Nat → Nat} {oK : Nat → Nat} {v1 : Nat} {v2 : Nat} {v3 : Nat} {d1 : Nat} {d2 : Nat} {m1 : Nat} {m2 : Nat} {o1 : Nat} {o2 : Nat} {q0 : Nat} {q3 : Nat} {q4 : Nat} {q6 : Nat} {q7 : Nat} {q8 : Nat} {q9 : Nat} {q14 : Nat} {q15 : Nat} {q17 : Nat} {q18 : Nat} {q19 : Nat} {q23 : Nat} {q24 : Nat} {q25 : Nat} {b L n : Nat} {xi : Nat → Int32} (hX : va_X b L xi (xs X) (xs X).heap) (hbl : b < (xs X).heap.size) (hbA : ¬ xA X b) (hL : L ≤ 384) (hn : n + 6 ≤ L) (hcont : ∀ {lx : Nat → Nat} {tl : Nat} {th : Nat → Int32} {ow : Nat → Int32} {co : Nat} {ro : Nat} {sl : Int32} {dth : Nat → Int32} {dow : Nat → Int32} {dco : Int32} {dro : Int32} {dsl : Int32} {thS : Nat → Nat → Int32} {owS : Nat → Nat → Int32} {coS : Nat → Int32} {roS : Nat → Int32} {slS : Nat → Int32} {nx : Nat} {sz : Nat} {thK : Nat → Nat → Int32} {owK : Nat → Nat → Int32} {coK : Nat → Int32} {roK : Nat → Int32} {slK : Nat → Int32} {nk : Nat} {zk : Nat} {kx : Nat → Nat} {kw : Nat → Nat} {ke : Nat → Nat} {sn : Nat} {ce : Nat → Int32} {se : Nat → Int32} {len : Int32} {en : Int32} {cd : Int32} {tk : Int32} {mk : Nat → Int32} {wg : Nat → Int32} {wn : Int32} {wa : Nat → Int32} {nw : Nat → Int32} {ab : Int32} {be : Int32} {roM : Nat} {coM : Nat} {slM : Int32} {snM : Nat} {tsM : Nat} {raM : Int32} {rrM : Int32} {rwM : Int32} {rnM : Int32} {umM : Nat} {bsM : Int32} {bhM : Int32} {kmM : Nat} {thM : Nat → Int32} {moM : Nat → Int32} {kxM : Nat → Nat} {kwM : Nat → Nat} {keM : Nat → Nat} {lxM : Nat → Nat} {rlM : Nat → Int32} {rgM : Nat → Int32} {ceM : Nat → Int32} {seM : Nat → Int32} {ahM : Nat → Int32} {mkM : Nat → Int32} {asM : Nat → Int32} {kpM : Nat → Int32}, IV lx tl th ow co ro thS owS coS roS nx sz thK owK coK roK nk zk kx kw ke sn lxM tsM thM moM coM roM ahM umM kpM kmM kxM kwM keM snM → J X 4 72 3197 1034 [(0, .ref b), (1, .ref z0), (2, .ref q0), (3, .int (nI n))] [] (WX cI cE z0 g0 a0 f0 s0 k0 v0 d0 y0 m0 o0 g1 a1 a2 f1 f2 s1 eA tA oA k1 eK tK oK v1 v2 v3 d1 d2 m1 m2 o1 o2 lx tl th ow co ro sl dth dow dco dro dsl thS owS coS roS slS nx sz thK owK coK roK slK nk zk kx kw ke sn ce se len en cd tk mk wg wn wa nw ab be ++ WM cI q0 q3 q4 q6 q7 q8 q9 q14 q15 q17 q18 q19 q23 q24 q25 roM coM slM snM tsM raM rrM rwM rnM umM bsM bhM kmM thM moM kxM kwM keM lxM rlM rgM ceM seM ahM mkM asM kpM)) {lx : Nat → Nat} {tl : Nat} {th : Nat → Int32} {ow : Nat → Int32} {co : Nat} {ro : Nat} {sl : Int32} {dth : Nat → Int32} {dow : Nat → Int32} {dco : Int32} {dro : Int32} {dsl : Int32} {thS : Nat → Nat → Int32} {owS : Nat → Nat → Int32} {coS : Nat → Int32} {roS : Nat → Int32} {slS : Nat → Int32} {nx : Nat} {sz : Nat} {thK : Nat → Nat → Int32} {owK : Nat → Nat → Int32} {coK : Nat → Int32} {roK : Nat → Int32} {slK : Nat → Int32} {nk : Nat} {zk : Nat} {kx : Nat → Nat} {kw : Nat → Nat} {ke : Nat → Nat} {sn : Nat} {ce : Nat → Int32} {se : Nat → Int32} {len : Int32} {en : Int32} {cd : Int32} {tk : Int32} {mk : Nat → Int32} {wg : Nat → Int32} {wn : Int32} {wa : Nat → Int32} {nw : Nat → Int32} {ab : Int32} {be : Int32} {roM : Nat} {coM : Nat} {slM : Int32} {snM : Nat} {tsM : Nat} {raM : Int32} {rrM : Int32} {rwM : Int32} {rnM : Int32} {umM : Nat} {bsM : Int32} {bhM : Int32} {kmM : Nat} {thM : Nat → Int32} {moM : Nat → Int32} {kxM : Nat → Nat} {kwM : Nat → Nat} {keM : Nat → Nat} {lxM : Nat → Nat} {rlM : Nat → Int32} {rgM : Nat → Int32} {ceM : Nat → Int32} {seM : Nat → Int32} {ahM : Nat → Int32} {mkM : Nat → Int32} {asM : Nat → Int32} {kpM : Nat → Int32} (hI : IV lx tl th ow co ro thS owS coS roS nx sz thK owK coK roK nk zk kx kw ke sn lxM tsM thM moM coM roM ahM umM kpM kmM kxM kwM keM snM) : J X 4 72 3197 757 [(0, .ref b), (1, .ref z0), (2, .ref q0), (3, .int (nI n))] [] (WX cI cE z0 g0 a0 f0 s0 k0 v0 d0 y0 m0 o0 g1 a1 a2 f1 f2 s1 eA tA oA k1 eK tK oK v1 v2 v3 d1 d2 m1 m2 o1 o2 lx tl th ow co ro sl dth dow dco dro dsl thS owS coS roS slS nx sz thK owK coK roK slK nk zk kx kw ke sn ce se len en cd tk mk wg wn wa nw ab be ++ WM cI q0 q3 q4 q6 q7 q8 q9 q14 q15 q17 q18 q19 q23 q24 q25 roM coM slM snM tsM raM rrM rwM rnM umM bsM bhM kmM thM moM kxM kwM keM lxM rlM rgM ceM seM ahM mkM asM kpM) := by
  have hI0 := hI
  obtain ⟨⟨rfl, rfl, rfl, rfl, rfl, rfl, rfl, rfl, rfl⟩, ⟨hlx, hlxM, hle, htl⟩, ⟨hrc, hco, hro, hc0, hr0⟩, hrel, ⟨hnx, hsz, hrg⟩, ⟨hnk, hzk, hrk⟩, hsn, hk⟩ := hI
  refine J_aload_n h (i := 1) dL_law_757 rfl 1 rfl ?_
  refine J_aload_n h (i := 0) dL_law_758 rfl 0 rfl ?_
  refine J_iload_n h (i := 3) dL_law_759 rfl 3 rfl ?_
  refine J_iconst h (v := nI 1) dL_law_760 (by decide) ?_
  refine N_iadd h dL_law_761 ?_
  refine L_sld h hX hbl hbA (by omega) (by omega) dL_law_762 ?_
  refine J_aload_n h (i := 0) dL_law_763 rfl 0 rfl ?_
  refine J_iload_n h (i := 3) dL_law_764 rfl 3 rfl ?_
  refine J_iconst h (v := nI 2) dL_law_765 (by decide) ?_
  refine N_iadd h dL_law_766 ?_
  refine L_sld h hX hbl hbA (by omega) (by omega) dL_law_767 ?_
  refine J_aload_n h (i := 0) dL_law_768 rfl 0 rfl ?_
  refine J_iload_n h (i := 3) dL_law_769 rfl 3 rfl ?_
  refine J_iconst h (v := nI 3) dL_law_770 (by decide) ?_
  refine N_iadd h dL_law_771 ?_
  refine L_sld h hX hbl hbA (by omega) (by omega) dL_law_772 ?_
  refine kx_seen  (rest := []) h hrc hco hro hsn  (xi (n + 1)) (xi (n + 2)) (xi (n + 3)) nm_L_95 (by decide) (Nat.le_of_ble_eq_true rfl) (Nat.le_refl _) (Nat.le_refl _) dL_law_773 (fun r_x kx2 kw2 ke2 sn2 hx => ?_)
  refine J_pop h dL_law_776 rfl ?_
  refine J_aload_n h (i := 2) dL_law_777 rfl 2 rfl ?_
  refine J_aload_n h (i := 0) dL_law_778 rfl 0 rfl ?_
  refine J_iload_n h (i := 3) dL_law_779 rfl 3 rfl ?_
  refine J_iconst h (v := nI 1) dL_law_780 (by decide) ?_
  refine N_iadd h dL_law_781 ?_
  refine L_sld h hX hbl hbA (by omega) (by omega) dL_law_782 ?_
  refine J_aload_n h (i := 0) dL_law_783 rfl 0 rfl ?_
  refine J_iload_n h (i := 3) dL_law_784 rfl 3 rfl ?_
  refine J_iconst h (v := nI 2) dL_law_785 (by decide) ?_
  refine N_iadd h dL_law_786 ?_
  refine L_sld h hX hbl hbA (by omega) (by omega) dL_law_787 ?_
  refine J_aload_n h (i := 0) dL_law_788 rfl 0 rfl ?_
  refine J_iload_n h (i := 3) dL_law_789 rfl 3 rfl ?_
  refine J_iconst h (v := nI 3) dL_law_790 (by decide) ?_
  refine N_iadd h dL_law_791 ?_
  refine L_sld h hX hbl hbA (by omega) (by omega) dL_law_792 ?_
  refine J.swp ?_
  refine km_seen  (rest := []) h hrc hco hro hsn  (xi (n + 1)) (xi (n + 2)) (xi (n + 3)) nm_L_98 (by decide) (Nat.le_of_ble_eq_true rfl) (Nat.le_refl _) (Nat.le_refl _) dL_law_793 (fun r_m kx2M kw2M ke2M sn2M hm => ?_)
  refine J.swp ?_
  refine J_pop h dL_law_796 rfl ?_
  refine J_goto h 1034 dL_law_797 (by decide) ?_
  exact hcont (iv_seen hI0 hx hm)

set_option maxRecDepth 100000 in
set_option maxHeartbeats 4000000 in
theorem lc_20 (X : Cx) {cI cE : ClassId} (h : Ok X cL_law RL 4 cI cE 9 72 3197) {z0 : Nat} {g0 : Nat} {a0 : Nat} {f0 : Nat} {s0 : Nat} {k0 : Nat} {v0 : Nat} {d0 : Nat} {y0 : Nat} {m0 : Nat} {o0 : Nat} {g1 : Nat} {a1 : Nat} {a2 : Nat} {f1 : Nat} {f2 : Nat} {s1 : Nat} {eA : Nat → Nat} {tA : Nat → Nat} {oA : Nat → Nat} {k1 : Nat} {eK : Nat → Nat} {tK : Nat → Nat} {oK : Nat → Nat} {v1 : Nat} {v2 : Nat} {v3 : Nat} {d1 : Nat} {d2 : Nat} {m1 : Nat} {m2 : Nat} {o1 : Nat} {o2 : Nat} {q0 : Nat} {q3 : Nat} {q4 : Nat} {q6 : Nat} {q7 : Nat} {q8 : Nat} {q9 : Nat} {q14 : Nat} {q15 : Nat} {q17 : Nat} {q18 : Nat} {q19 : Nat} {q23 : Nat} {q24 : Nat} {q25 : Nat} {b L n : Nat} {xi : Nat → Int32} (hX : va_X b L xi (xs X) (xs X).heap) (hbl : b < (xs X).heap.size) (hbA : ¬ xA X b) (hL : L ≤ 384) (hn : n + 6 ≤ L) (hcont : ∀ {lx : Nat → Nat} {tl : Nat} {th : Nat → Int32} {ow : Nat → Int32} {co : Nat} {ro : Nat} {sl : Int32} {dth : Nat → Int32} {dow : Nat → Int32} {dco : Int32} {dro : Int32} {dsl : Int32} {thS : Nat → Nat → Int32} {owS : Nat → Nat → Int32} {coS : Nat → Int32} {roS : Nat → Int32} {slS : Nat → Int32} {nx : Nat} {sz : Nat} {thK : Nat → Nat → Int32} {owK : Nat → Nat → Int32} {coK : Nat → Int32} {roK : Nat → Int32} {slK : Nat → Int32} {nk : Nat} {zk : Nat} {kx : Nat → Nat} {kw : Nat → Nat} {ke : Nat → Nat} {sn : Nat} {ce : Nat → Int32} {se : Nat → Int32} {len : Int32} {en : Int32} {cd : Int32} {tk : Int32} {mk : Nat → Int32} {wg : Nat → Int32} {wn : Int32} {wa : Nat → Int32} {nw : Nat → Int32} {ab : Int32} {be : Int32} {roM : Nat} {coM : Nat} {slM : Int32} {snM : Nat} {tsM : Nat} {raM : Int32} {rrM : Int32} {rwM : Int32} {rnM : Int32} {umM : Nat} {bsM : Int32} {bhM : Int32} {kmM : Nat} {thM : Nat → Int32} {moM : Nat → Int32} {kxM : Nat → Nat} {kwM : Nat → Nat} {keM : Nat → Nat} {lxM : Nat → Nat} {rlM : Nat → Int32} {rgM : Nat → Int32} {ceM : Nat → Int32} {seM : Nat → Int32} {ahM : Nat → Int32} {mkM : Nat → Int32} {asM : Nat → Int32} {kpM : Nat → Int32}, IV lx tl th ow co ro thS owS coS roS nx sz thK owK coK roK nk zk kx kw ke sn lxM tsM thM moM coM roM ahM umM kpM kmM kxM kwM keM snM → J X 4 72 3197 1034 [(0, .ref b), (1, .ref z0), (2, .ref q0), (3, .int (nI n))] [] (WX cI cE z0 g0 a0 f0 s0 k0 v0 d0 y0 m0 o0 g1 a1 a2 f1 f2 s1 eA tA oA k1 eK tK oK v1 v2 v3 d1 d2 m1 m2 o1 o2 lx tl th ow co ro sl dth dow dco dro dsl thS owS coS roS slS nx sz thK owK coK roK slK nk zk kx kw ke sn ce se len en cd tk mk wg wn wa nw ab be ++ WM cI q0 q3 q4 q6 q7 q8 q9 q14 q15 q17 q18 q19 q23 q24 q25 roM coM slM snM tsM raM rrM rwM rnM umM bsM bhM kmM thM moM kxM kwM keM lxM rlM rgM ceM seM ahM mkM asM kpM)) {lx : Nat → Nat} {tl : Nat} {th : Nat → Int32} {ow : Nat → Int32} {co : Nat} {ro : Nat} {sl : Int32} {dth : Nat → Int32} {dow : Nat → Int32} {dco : Int32} {dro : Int32} {dsl : Int32} {thS : Nat → Nat → Int32} {owS : Nat → Nat → Int32} {coS : Nat → Int32} {roS : Nat → Int32} {slS : Nat → Int32} {nx : Nat} {sz : Nat} {thK : Nat → Nat → Int32} {owK : Nat → Nat → Int32} {coK : Nat → Int32} {roK : Nat → Int32} {slK : Nat → Int32} {nk : Nat} {zk : Nat} {kx : Nat → Nat} {kw : Nat → Nat} {ke : Nat → Nat} {sn : Nat} {ce : Nat → Int32} {se : Nat → Int32} {len : Int32} {en : Int32} {cd : Int32} {tk : Int32} {mk : Nat → Int32} {wg : Nat → Int32} {wn : Int32} {wa : Nat → Int32} {nw : Nat → Int32} {ab : Int32} {be : Int32} {roM : Nat} {coM : Nat} {slM : Int32} {snM : Nat} {tsM : Nat} {raM : Int32} {rrM : Int32} {rwM : Int32} {rnM : Int32} {umM : Nat} {bsM : Int32} {bhM : Int32} {kmM : Nat} {thM : Nat → Int32} {moM : Nat → Int32} {kxM : Nat → Nat} {kwM : Nat → Nat} {keM : Nat → Nat} {lxM : Nat → Nat} {rlM : Nat → Int32} {rgM : Nat → Int32} {ceM : Nat → Int32} {seM : Nat → Int32} {ahM : Nat → Int32} {mkM : Nat → Int32} {asM : Nat → Int32} {kpM : Nat → Int32} (hI : IV lx tl th ow co ro thS owS coS roS nx sz thK owK coK roK nk zk kx kw ke sn lxM tsM thM moM coM roM ahM umM kpM kmM kxM kwM keM snM) : J X 4 72 3197 800 [(0, .ref b), (1, .ref z0), (2, .ref q0), (3, .int (nI n))] [] (WX cI cE z0 g0 a0 f0 s0 k0 v0 d0 y0 m0 o0 g1 a1 a2 f1 f2 s1 eA tA oA k1 eK tK oK v1 v2 v3 d1 d2 m1 m2 o1 o2 lx tl th ow co ro sl dth dow dco dro dsl thS owS coS roS slS nx sz thK owK coK roK slK nk zk kx kw ke sn ce se len en cd tk mk wg wn wa nw ab be ++ WM cI q0 q3 q4 q6 q7 q8 q9 q14 q15 q17 q18 q19 q23 q24 q25 roM coM slM snM tsM raM rrM rwM rnM umM bsM bhM kmM thM moM kxM kwM keM lxM rlM rgM ceM seM ahM mkM asM kpM) := by
  have hI0 := hI
  obtain ⟨⟨rfl, rfl, rfl, rfl, rfl, rfl, rfl, rfl, rfl⟩, ⟨hlx, hlxM, hle, htl⟩, ⟨hrc, hco, hro, hc0, hr0⟩, hrel, ⟨hnx, hsz, hrg⟩, ⟨hnk, hzk, hrk⟩, hsn, hk⟩ := hI
  refine J_aload_n h (i := 1) dL_law_800 rfl 1 rfl ?_
  refine kx_forget  (rest := []) h    nm_L_99 (by decide) (Nat.le_of_ble_eq_true rfl) (Nat.le_refl _) (Nat.le_refl _) dL_law_801 (fun r_x hx => ?_)
  refine J_pop h dL_law_804 rfl ?_
  refine J_aload_n h (i := 2) dL_law_805 rfl 2 rfl ?_
  refine J.swp ?_
  refine km_forget  (rest := []) h    nm_L_102 (by decide) (Nat.le_of_ble_eq_true rfl) (Nat.le_refl _) (Nat.le_refl _) dL_law_806 (fun r_m hm => ?_)
  refine J.swp ?_
  refine J_pop h dL_law_809 rfl ?_
  refine J_goto h 1034 dL_law_810 (by decide) ?_
  exact hcont (iv_forget hI0 hx hm)

set_option maxRecDepth 100000 in
set_option maxHeartbeats 4000000 in
theorem lc_21 (X : Cx) {cI cE : ClassId} (h : Ok X cL_law RL 4 cI cE 9 72 3197) {z0 : Nat} {g0 : Nat} {a0 : Nat} {f0 : Nat} {s0 : Nat} {k0 : Nat} {v0 : Nat} {d0 : Nat} {y0 : Nat} {m0 : Nat} {o0 : Nat} {g1 : Nat} {a1 : Nat} {a2 : Nat} {f1 : Nat} {f2 : Nat} {s1 : Nat} {eA : Nat → Nat} {tA : Nat → Nat} {oA : Nat → Nat} {k1 : Nat} {eK : Nat → Nat} {tK : Nat → Nat} {oK : Nat → Nat} {v1 : Nat} {v2 : Nat} {v3 : Nat} {d1 : Nat} {d2 : Nat} {m1 : Nat} {m2 : Nat} {o1 : Nat} {o2 : Nat} {q0 : Nat} {q3 : Nat} {q4 : Nat} {q6 : Nat} {q7 : Nat} {q8 : Nat} {q9 : Nat} {q14 : Nat} {q15 : Nat} {q17 : Nat} {q18 : Nat} {q19 : Nat} {q23 : Nat} {q24 : Nat} {q25 : Nat} {b L n : Nat} {xi : Nat → Int32} (hX : va_X b L xi (xs X) (xs X).heap) (hbl : b < (xs X).heap.size) (hbA : ¬ xA X b) (hL : L ≤ 384) (hn : n + 6 ≤ L) (hcont : ∀ {lx : Nat → Nat} {tl : Nat} {th : Nat → Int32} {ow : Nat → Int32} {co : Nat} {ro : Nat} {sl : Int32} {dth : Nat → Int32} {dow : Nat → Int32} {dco : Int32} {dro : Int32} {dsl : Int32} {thS : Nat → Nat → Int32} {owS : Nat → Nat → Int32} {coS : Nat → Int32} {roS : Nat → Int32} {slS : Nat → Int32} {nx : Nat} {sz : Nat} {thK : Nat → Nat → Int32} {owK : Nat → Nat → Int32} {coK : Nat → Int32} {roK : Nat → Int32} {slK : Nat → Int32} {nk : Nat} {zk : Nat} {kx : Nat → Nat} {kw : Nat → Nat} {ke : Nat → Nat} {sn : Nat} {ce : Nat → Int32} {se : Nat → Int32} {len : Int32} {en : Int32} {cd : Int32} {tk : Int32} {mk : Nat → Int32} {wg : Nat → Int32} {wn : Int32} {wa : Nat → Int32} {nw : Nat → Int32} {ab : Int32} {be : Int32} {roM : Nat} {coM : Nat} {slM : Int32} {snM : Nat} {tsM : Nat} {raM : Int32} {rrM : Int32} {rwM : Int32} {rnM : Int32} {umM : Nat} {bsM : Int32} {bhM : Int32} {kmM : Nat} {thM : Nat → Int32} {moM : Nat → Int32} {kxM : Nat → Nat} {kwM : Nat → Nat} {keM : Nat → Nat} {lxM : Nat → Nat} {rlM : Nat → Int32} {rgM : Nat → Int32} {ceM : Nat → Int32} {seM : Nat → Int32} {ahM : Nat → Int32} {mkM : Nat → Int32} {asM : Nat → Int32} {kpM : Nat → Int32}, IV lx tl th ow co ro thS owS coS roS nx sz thK owK coK roK nk zk kx kw ke sn lxM tsM thM moM coM roM ahM umM kpM kmM kxM kwM keM snM → J X 4 72 3197 1034 [(0, .ref b), (1, .ref z0), (2, .ref q0), (3, .int (nI n))] [] (WX cI cE z0 g0 a0 f0 s0 k0 v0 d0 y0 m0 o0 g1 a1 a2 f1 f2 s1 eA tA oA k1 eK tK oK v1 v2 v3 d1 d2 m1 m2 o1 o2 lx tl th ow co ro sl dth dow dco dro dsl thS owS coS roS slS nx sz thK owK coK roK slK nk zk kx kw ke sn ce se len en cd tk mk wg wn wa nw ab be ++ WM cI q0 q3 q4 q6 q7 q8 q9 q14 q15 q17 q18 q19 q23 q24 q25 roM coM slM snM tsM raM rrM rwM rnM umM bsM bhM kmM thM moM kxM kwM keM lxM rlM rgM ceM seM ahM mkM asM kpM)) {lx : Nat → Nat} {tl : Nat} {th : Nat → Int32} {ow : Nat → Int32} {co : Nat} {ro : Nat} {sl : Int32} {dth : Nat → Int32} {dow : Nat → Int32} {dco : Int32} {dro : Int32} {dsl : Int32} {thS : Nat → Nat → Int32} {owS : Nat → Nat → Int32} {coS : Nat → Int32} {roS : Nat → Int32} {slS : Nat → Int32} {nx : Nat} {sz : Nat} {thK : Nat → Nat → Int32} {owK : Nat → Nat → Int32} {coK : Nat → Int32} {roK : Nat → Int32} {slK : Nat → Int32} {nk : Nat} {zk : Nat} {kx : Nat → Nat} {kw : Nat → Nat} {ke : Nat → Nat} {sn : Nat} {ce : Nat → Int32} {se : Nat → Int32} {len : Int32} {en : Int32} {cd : Int32} {tk : Int32} {mk : Nat → Int32} {wg : Nat → Int32} {wn : Int32} {wa : Nat → Int32} {nw : Nat → Int32} {ab : Int32} {be : Int32} {roM : Nat} {coM : Nat} {slM : Int32} {snM : Nat} {tsM : Nat} {raM : Int32} {rrM : Int32} {rwM : Int32} {rnM : Int32} {umM : Nat} {bsM : Int32} {bhM : Int32} {kmM : Nat} {thM : Nat → Int32} {moM : Nat → Int32} {kxM : Nat → Nat} {kwM : Nat → Nat} {keM : Nat → Nat} {lxM : Nat → Nat} {rlM : Nat → Int32} {rgM : Nat → Int32} {ceM : Nat → Int32} {seM : Nat → Int32} {ahM : Nat → Int32} {mkM : Nat → Int32} {asM : Nat → Int32} {kpM : Nat → Int32} (hI : IV lx tl th ow co ro thS owS coS roS nx sz thK owK coK roK nk zk kx kw ke sn lxM tsM thM moM coM roM ahM umM kpM kmM kxM kwM keM snM) : J X 4 72 3197 813 [(0, .ref b), (1, .ref z0), (2, .ref q0), (3, .int (nI n))] [] (WX cI cE z0 g0 a0 f0 s0 k0 v0 d0 y0 m0 o0 g1 a1 a2 f1 f2 s1 eA tA oA k1 eK tK oK v1 v2 v3 d1 d2 m1 m2 o1 o2 lx tl th ow co ro sl dth dow dco dro dsl thS owS coS roS slS nx sz thK owK coK roK slK nk zk kx kw ke sn ce se len en cd tk mk wg wn wa nw ab be ++ WM cI q0 q3 q4 q6 q7 q8 q9 q14 q15 q17 q18 q19 q23 q24 q25 roM coM slM snM tsM raM rrM rwM rnM umM bsM bhM kmM thM moM kxM kwM keM lxM rlM rgM ceM seM ahM mkM asM kpM) := by
  have hI0 := hI
  obtain ⟨⟨rfl, rfl, rfl, rfl, rfl, rfl, rfl, rfl, rfl⟩, ⟨hlx, hlxM, hle, htl⟩, ⟨hrc, hco, hro, hc0, hr0⟩, hrel, ⟨hnx, hsz, hrg⟩, ⟨hnk, hzk, hrk⟩, hsn, hk⟩ := hI
  refine J_aload_n h (i := 1) dL_law_813 rfl 1 rfl ?_
  refine J_aload_n h (i := 0) dL_law_814 rfl 0 rfl ?_
  refine J_iload_n h (i := 3) dL_law_815 rfl 3 rfl ?_
  refine J_iconst h (v := nI 1) dL_law_816 (by decide) ?_
  refine N_iadd h dL_law_817 ?_
  refine L_sld h hX hbl hbA (by omega) (by omega) dL_law_818 ?_
  refine kx_lies  (rest := []) h hrc hco hro hsn hk  (xi (n + 1)) nm_L_103 (by decide) (Nat.le_of_ble_eq_true rfl) (Nat.le_refl _) (Nat.le_refl _) dL_law_819 (fun r_x ce2 se2 ln2 en2 hx => ?_)
  refine J_pop h dL_law_822 rfl ?_
  refine J_aload_n h (i := 2) dL_law_823 rfl 2 rfl ?_
  refine J_aload_n h (i := 0) dL_law_824 rfl 0 rfl ?_
  refine J_iload_n h (i := 3) dL_law_825 rfl 3 rfl ?_
  refine J_iconst h (v := nI 1) dL_law_826 (by decide) ?_
  refine N_iadd h dL_law_827 ?_
  refine L_sld h hX hbl hbA (by omega) (by omega) dL_law_828 ?_
  refine J.swp ?_
  refine km_lies (th := th) (ow := ow) (rest := []) h hrc hco hro hrel hsn hk  (xi (n + 1)) nm_L_106 (by decide) (Nat.le_of_ble_eq_true rfl) (Nat.le_refl _) (Nat.le_refl _) dL_law_829 (fun r_m ce2M se2M hm => ?_)
  refine J.swp ?_
  refine J_pop h dL_law_832 rfl ?_
  refine J_goto h 1034 dL_law_833 (by decide) ?_
  exact hcont (hI0)

set_option maxRecDepth 100000 in
set_option maxHeartbeats 4000000 in
theorem lc_22 (X : Cx) {cI cE : ClassId} (h : Ok X cL_law RL 4 cI cE 9 72 3197) {z0 : Nat} {g0 : Nat} {a0 : Nat} {f0 : Nat} {s0 : Nat} {k0 : Nat} {v0 : Nat} {d0 : Nat} {y0 : Nat} {m0 : Nat} {o0 : Nat} {g1 : Nat} {a1 : Nat} {a2 : Nat} {f1 : Nat} {f2 : Nat} {s1 : Nat} {eA : Nat → Nat} {tA : Nat → Nat} {oA : Nat → Nat} {k1 : Nat} {eK : Nat → Nat} {tK : Nat → Nat} {oK : Nat → Nat} {v1 : Nat} {v2 : Nat} {v3 : Nat} {d1 : Nat} {d2 : Nat} {m1 : Nat} {m2 : Nat} {o1 : Nat} {o2 : Nat} {q0 : Nat} {q3 : Nat} {q4 : Nat} {q6 : Nat} {q7 : Nat} {q8 : Nat} {q9 : Nat} {q14 : Nat} {q15 : Nat} {q17 : Nat} {q18 : Nat} {q19 : Nat} {q23 : Nat} {q24 : Nat} {q25 : Nat} {b L n : Nat} {xi : Nat → Int32} (hX : va_X b L xi (xs X) (xs X).heap) (hbl : b < (xs X).heap.size) (hbA : ¬ xA X b) (hL : L ≤ 384) (hn : n + 6 ≤ L) (hcont : ∀ {lx : Nat → Nat} {tl : Nat} {th : Nat → Int32} {ow : Nat → Int32} {co : Nat} {ro : Nat} {sl : Int32} {dth : Nat → Int32} {dow : Nat → Int32} {dco : Int32} {dro : Int32} {dsl : Int32} {thS : Nat → Nat → Int32} {owS : Nat → Nat → Int32} {coS : Nat → Int32} {roS : Nat → Int32} {slS : Nat → Int32} {nx : Nat} {sz : Nat} {thK : Nat → Nat → Int32} {owK : Nat → Nat → Int32} {coK : Nat → Int32} {roK : Nat → Int32} {slK : Nat → Int32} {nk : Nat} {zk : Nat} {kx : Nat → Nat} {kw : Nat → Nat} {ke : Nat → Nat} {sn : Nat} {ce : Nat → Int32} {se : Nat → Int32} {len : Int32} {en : Int32} {cd : Int32} {tk : Int32} {mk : Nat → Int32} {wg : Nat → Int32} {wn : Int32} {wa : Nat → Int32} {nw : Nat → Int32} {ab : Int32} {be : Int32} {roM : Nat} {coM : Nat} {slM : Int32} {snM : Nat} {tsM : Nat} {raM : Int32} {rrM : Int32} {rwM : Int32} {rnM : Int32} {umM : Nat} {bsM : Int32} {bhM : Int32} {kmM : Nat} {thM : Nat → Int32} {moM : Nat → Int32} {kxM : Nat → Nat} {kwM : Nat → Nat} {keM : Nat → Nat} {lxM : Nat → Nat} {rlM : Nat → Int32} {rgM : Nat → Int32} {ceM : Nat → Int32} {seM : Nat → Int32} {ahM : Nat → Int32} {mkM : Nat → Int32} {asM : Nat → Int32} {kpM : Nat → Int32}, IV lx tl th ow co ro thS owS coS roS nx sz thK owK coK roK nk zk kx kw ke sn lxM tsM thM moM coM roM ahM umM kpM kmM kxM kwM keM snM → J X 4 72 3197 1034 [(0, .ref b), (1, .ref z0), (2, .ref q0), (3, .int (nI n))] [] (WX cI cE z0 g0 a0 f0 s0 k0 v0 d0 y0 m0 o0 g1 a1 a2 f1 f2 s1 eA tA oA k1 eK tK oK v1 v2 v3 d1 d2 m1 m2 o1 o2 lx tl th ow co ro sl dth dow dco dro dsl thS owS coS roS slS nx sz thK owK coK roK slK nk zk kx kw ke sn ce se len en cd tk mk wg wn wa nw ab be ++ WM cI q0 q3 q4 q6 q7 q8 q9 q14 q15 q17 q18 q19 q23 q24 q25 roM coM slM snM tsM raM rrM rwM rnM umM bsM bhM kmM thM moM kxM kwM keM lxM rlM rgM ceM seM ahM mkM asM kpM)) {lx : Nat → Nat} {tl : Nat} {th : Nat → Int32} {ow : Nat → Int32} {co : Nat} {ro : Nat} {sl : Int32} {dth : Nat → Int32} {dow : Nat → Int32} {dco : Int32} {dro : Int32} {dsl : Int32} {thS : Nat → Nat → Int32} {owS : Nat → Nat → Int32} {coS : Nat → Int32} {roS : Nat → Int32} {slS : Nat → Int32} {nx : Nat} {sz : Nat} {thK : Nat → Nat → Int32} {owK : Nat → Nat → Int32} {coK : Nat → Int32} {roK : Nat → Int32} {slK : Nat → Int32} {nk : Nat} {zk : Nat} {kx : Nat → Nat} {kw : Nat → Nat} {ke : Nat → Nat} {sn : Nat} {ce : Nat → Int32} {se : Nat → Int32} {len : Int32} {en : Int32} {cd : Int32} {tk : Int32} {mk : Nat → Int32} {wg : Nat → Int32} {wn : Int32} {wa : Nat → Int32} {nw : Nat → Int32} {ab : Int32} {be : Int32} {roM : Nat} {coM : Nat} {slM : Int32} {snM : Nat} {tsM : Nat} {raM : Int32} {rrM : Int32} {rwM : Int32} {rnM : Int32} {umM : Nat} {bsM : Int32} {bhM : Int32} {kmM : Nat} {thM : Nat → Int32} {moM : Nat → Int32} {kxM : Nat → Nat} {kwM : Nat → Nat} {keM : Nat → Nat} {lxM : Nat → Nat} {rlM : Nat → Int32} {rgM : Nat → Int32} {ceM : Nat → Int32} {seM : Nat → Int32} {ahM : Nat → Int32} {mkM : Nat → Int32} {asM : Nat → Int32} {kpM : Nat → Int32} (hI : IV lx tl th ow co ro thS owS coS roS nx sz thK owK coK roK nk zk kx kw ke sn lxM tsM thM moM coM roM ahM umM kpM kmM kxM kwM keM snM) : J X 4 72 3197 836 [(0, .ref b), (1, .ref z0), (2, .ref q0), (3, .int (nI n))] [] (WX cI cE z0 g0 a0 f0 s0 k0 v0 d0 y0 m0 o0 g1 a1 a2 f1 f2 s1 eA tA oA k1 eK tK oK v1 v2 v3 d1 d2 m1 m2 o1 o2 lx tl th ow co ro sl dth dow dco dro dsl thS owS coS roS slS nx sz thK owK coK roK slK nk zk kx kw ke sn ce se len en cd tk mk wg wn wa nw ab be ++ WM cI q0 q3 q4 q6 q7 q8 q9 q14 q15 q17 q18 q19 q23 q24 q25 roM coM slM snM tsM raM rrM rwM rnM umM bsM bhM kmM thM moM kxM kwM keM lxM rlM rgM ceM seM ahM mkM asM kpM) := by
  have hI0 := hI
  obtain ⟨⟨rfl, rfl, rfl, rfl, rfl, rfl, rfl, rfl, rfl⟩, ⟨hlx, hlxM, hle, htl⟩, ⟨hrc, hco, hro, hc0, hr0⟩, hrel, ⟨hnx, hsz, hrg⟩, ⟨hnk, hzk, hrk⟩, hsn, hk⟩ := hI
  refine J_aload_n h (i := 1) dL_law_836 rfl 1 rfl ?_
  refine J_aload_n h (i := 0) dL_law_837 rfl 0 rfl ?_
  refine J_iload_n h (i := 3) dL_law_838 rfl 3 rfl ?_
  refine J_iconst h (v := nI 1) dL_law_839 (by decide) ?_
  refine N_iadd h dL_law_840 ?_
  refine L_sld h hX hbl hbA (by omega) (by omega) dL_law_841 ?_
  refine J_aload_n h (i := 0) dL_law_842 rfl 0 rfl ?_
  refine J_iload_n h (i := 3) dL_law_843 rfl 3 rfl ?_
  refine J_iconst h (v := nI 2) dL_law_844 (by decide) ?_
  refine N_iadd h dL_law_845 ?_
  refine L_sld h hX hbl hbA (by omega) (by omega) dL_law_846 ?_
  refine J_aload_n h (i := 0) dL_law_847 rfl 0 rfl ?_
  refine J_iload_n h (i := 3) dL_law_848 rfl 3 rfl ?_
  refine J_iconst h (v := nI 3) dL_law_849 (by decide) ?_
  refine N_iadd h dL_law_850 ?_
  refine L_sld h hX hbl hbA (by omega) (by omega) dL_law_851 ?_
  refine kx_heavy  (rest := []) h hrc hco hro  (xi (n + 1)) (xi (n + 2)) (xi (n + 3)) nm_L_107 (by decide) (Nat.le_of_ble_eq_true rfl) (Nat.le_refl _) (Nat.le_refl _) dL_law_852 (fun r_x ce2 se2 ln2 en2 hx => ?_)
  refine J_pop h dL_law_855 rfl ?_
  refine J_aload_n h (i := 2) dL_law_856 rfl 2 rfl ?_
  refine J_aload_n h (i := 0) dL_law_857 rfl 0 rfl ?_
  refine J_iload_n h (i := 3) dL_law_858 rfl 3 rfl ?_
  refine J_iconst h (v := nI 1) dL_law_859 (by decide) ?_
  refine N_iadd h dL_law_860 ?_
  refine L_sld h hX hbl hbA (by omega) (by omega) dL_law_861 ?_
  refine J_aload_n h (i := 0) dL_law_862 rfl 0 rfl ?_
  refine J_iload_n h (i := 3) dL_law_863 rfl 3 rfl ?_
  refine J_iconst h (v := nI 2) dL_law_864 (by decide) ?_
  refine N_iadd h dL_law_865 ?_
  refine L_sld h hX hbl hbA (by omega) (by omega) dL_law_866 ?_
  refine J_aload_n h (i := 0) dL_law_867 rfl 0 rfl ?_
  refine J_iload_n h (i := 3) dL_law_868 rfl 3 rfl ?_
  refine J_iconst h (v := nI 3) dL_law_869 (by decide) ?_
  refine N_iadd h dL_law_870 ?_
  refine L_sld h hX hbl hbA (by omega) (by omega) dL_law_871 ?_
  refine J.swp ?_
  refine km_heavy (th := th) (ow := ow) (rest := []) h hrc hco hro hrel  (xi (n + 1)) (xi (n + 2)) (xi (n + 3)) nm_L_110 (by decide) (Nat.le_of_ble_eq_true rfl) (Nat.le_refl _) (Nat.le_refl _) dL_law_872 (fun r_m ce2M se2M hm => ?_)
  refine J.swp ?_
  refine J_pop h dL_law_875 rfl ?_
  refine J_goto h 1034 dL_law_876 (by decide) ?_
  exact hcont (hI0)

set_option maxRecDepth 100000 in
set_option maxHeartbeats 4000000 in
theorem lc_23 (X : Cx) {cI cE : ClassId} (h : Ok X cL_law RL 4 cI cE 9 72 3197) {z0 : Nat} {g0 : Nat} {a0 : Nat} {f0 : Nat} {s0 : Nat} {k0 : Nat} {v0 : Nat} {d0 : Nat} {y0 : Nat} {m0 : Nat} {o0 : Nat} {g1 : Nat} {a1 : Nat} {a2 : Nat} {f1 : Nat} {f2 : Nat} {s1 : Nat} {eA : Nat → Nat} {tA : Nat → Nat} {oA : Nat → Nat} {k1 : Nat} {eK : Nat → Nat} {tK : Nat → Nat} {oK : Nat → Nat} {v1 : Nat} {v2 : Nat} {v3 : Nat} {d1 : Nat} {d2 : Nat} {m1 : Nat} {m2 : Nat} {o1 : Nat} {o2 : Nat} {q0 : Nat} {q3 : Nat} {q4 : Nat} {q6 : Nat} {q7 : Nat} {q8 : Nat} {q9 : Nat} {q14 : Nat} {q15 : Nat} {q17 : Nat} {q18 : Nat} {q19 : Nat} {q23 : Nat} {q24 : Nat} {q25 : Nat} {b L n : Nat} {xi : Nat → Int32} (hX : va_X b L xi (xs X) (xs X).heap) (hbl : b < (xs X).heap.size) (hbA : ¬ xA X b) (hL : L ≤ 384) (hn : n + 6 ≤ L) (hcont : ∀ {lx : Nat → Nat} {tl : Nat} {th : Nat → Int32} {ow : Nat → Int32} {co : Nat} {ro : Nat} {sl : Int32} {dth : Nat → Int32} {dow : Nat → Int32} {dco : Int32} {dro : Int32} {dsl : Int32} {thS : Nat → Nat → Int32} {owS : Nat → Nat → Int32} {coS : Nat → Int32} {roS : Nat → Int32} {slS : Nat → Int32} {nx : Nat} {sz : Nat} {thK : Nat → Nat → Int32} {owK : Nat → Nat → Int32} {coK : Nat → Int32} {roK : Nat → Int32} {slK : Nat → Int32} {nk : Nat} {zk : Nat} {kx : Nat → Nat} {kw : Nat → Nat} {ke : Nat → Nat} {sn : Nat} {ce : Nat → Int32} {se : Nat → Int32} {len : Int32} {en : Int32} {cd : Int32} {tk : Int32} {mk : Nat → Int32} {wg : Nat → Int32} {wn : Int32} {wa : Nat → Int32} {nw : Nat → Int32} {ab : Int32} {be : Int32} {roM : Nat} {coM : Nat} {slM : Int32} {snM : Nat} {tsM : Nat} {raM : Int32} {rrM : Int32} {rwM : Int32} {rnM : Int32} {umM : Nat} {bsM : Int32} {bhM : Int32} {kmM : Nat} {thM : Nat → Int32} {moM : Nat → Int32} {kxM : Nat → Nat} {kwM : Nat → Nat} {keM : Nat → Nat} {lxM : Nat → Nat} {rlM : Nat → Int32} {rgM : Nat → Int32} {ceM : Nat → Int32} {seM : Nat → Int32} {ahM : Nat → Int32} {mkM : Nat → Int32} {asM : Nat → Int32} {kpM : Nat → Int32}, IV lx tl th ow co ro thS owS coS roS nx sz thK owK coK roK nk zk kx kw ke sn lxM tsM thM moM coM roM ahM umM kpM kmM kxM kwM keM snM → J X 4 72 3197 1034 [(0, .ref b), (1, .ref z0), (2, .ref q0), (3, .int (nI n))] [] (WX cI cE z0 g0 a0 f0 s0 k0 v0 d0 y0 m0 o0 g1 a1 a2 f1 f2 s1 eA tA oA k1 eK tK oK v1 v2 v3 d1 d2 m1 m2 o1 o2 lx tl th ow co ro sl dth dow dco dro dsl thS owS coS roS slS nx sz thK owK coK roK slK nk zk kx kw ke sn ce se len en cd tk mk wg wn wa nw ab be ++ WM cI q0 q3 q4 q6 q7 q8 q9 q14 q15 q17 q18 q19 q23 q24 q25 roM coM slM snM tsM raM rrM rwM rnM umM bsM bhM kmM thM moM kxM kwM keM lxM rlM rgM ceM seM ahM mkM asM kpM)) {lx : Nat → Nat} {tl : Nat} {th : Nat → Int32} {ow : Nat → Int32} {co : Nat} {ro : Nat} {sl : Int32} {dth : Nat → Int32} {dow : Nat → Int32} {dco : Int32} {dro : Int32} {dsl : Int32} {thS : Nat → Nat → Int32} {owS : Nat → Nat → Int32} {coS : Nat → Int32} {roS : Nat → Int32} {slS : Nat → Int32} {nx : Nat} {sz : Nat} {thK : Nat → Nat → Int32} {owK : Nat → Nat → Int32} {coK : Nat → Int32} {roK : Nat → Int32} {slK : Nat → Int32} {nk : Nat} {zk : Nat} {kx : Nat → Nat} {kw : Nat → Nat} {ke : Nat → Nat} {sn : Nat} {ce : Nat → Int32} {se : Nat → Int32} {len : Int32} {en : Int32} {cd : Int32} {tk : Int32} {mk : Nat → Int32} {wg : Nat → Int32} {wn : Int32} {wa : Nat → Int32} {nw : Nat → Int32} {ab : Int32} {be : Int32} {roM : Nat} {coM : Nat} {slM : Int32} {snM : Nat} {tsM : Nat} {raM : Int32} {rrM : Int32} {rwM : Int32} {rnM : Int32} {umM : Nat} {bsM : Int32} {bhM : Int32} {kmM : Nat} {thM : Nat → Int32} {moM : Nat → Int32} {kxM : Nat → Nat} {kwM : Nat → Nat} {keM : Nat → Nat} {lxM : Nat → Nat} {rlM : Nat → Int32} {rgM : Nat → Int32} {ceM : Nat → Int32} {seM : Nat → Int32} {ahM : Nat → Int32} {mkM : Nat → Int32} {asM : Nat → Int32} {kpM : Nat → Int32} (hI : IV lx tl th ow co ro thS owS coS roS nx sz thK owK coK roK nk zk kx kw ke sn lxM tsM thM moM coM roM ahM umM kpM kmM kxM kwM keM snM) : J X 4 72 3197 879 [(0, .ref b), (1, .ref z0), (2, .ref q0), (3, .int (nI n))] [] (WX cI cE z0 g0 a0 f0 s0 k0 v0 d0 y0 m0 o0 g1 a1 a2 f1 f2 s1 eA tA oA k1 eK tK oK v1 v2 v3 d1 d2 m1 m2 o1 o2 lx tl th ow co ro sl dth dow dco dro dsl thS owS coS roS slS nx sz thK owK coK roK slK nk zk kx kw ke sn ce se len en cd tk mk wg wn wa nw ab be ++ WM cI q0 q3 q4 q6 q7 q8 q9 q14 q15 q17 q18 q19 q23 q24 q25 roM coM slM snM tsM raM rrM rwM rnM umM bsM bhM kmM thM moM kxM kwM keM lxM rlM rgM ceM seM ahM mkM asM kpM) := by
  have hI0 := hI
  obtain ⟨⟨rfl, rfl, rfl, rfl, rfl, rfl, rfl, rfl, rfl⟩, ⟨hlx, hlxM, hle, htl⟩, ⟨hrc, hco, hro, hc0, hr0⟩, hrel, ⟨hnx, hsz, hrg⟩, ⟨hnk, hzk, hrk⟩, hsn, hk⟩ := hI
  refine J_aload_n h (i := 1) dL_law_879 rfl 1 rfl ?_
  refine J_aload_n h (i := 0) dL_law_880 rfl 0 rfl ?_
  refine J_iload_n h (i := 3) dL_law_881 rfl 3 rfl ?_
  refine J_iconst h (v := nI 1) dL_law_882 (by decide) ?_
  refine N_iadd h dL_law_883 ?_
  refine L_sld h hX hbl hbA (by omega) (by omega) dL_law_884 ?_
  refine J_aload_n h (i := 0) dL_law_885 rfl 0 rfl ?_
  refine J_iload_n h (i := 3) dL_law_886 rfl 3 rfl ?_
  refine J_iconst h (v := nI 2) dL_law_887 (by decide) ?_
  refine N_iadd h dL_law_888 ?_
  refine L_sld h hX hbl hbA (by omega) (by omega) dL_law_889 ?_
  refine J_aload_n h (i := 0) dL_law_890 rfl 0 rfl ?_
  refine J_iload_n h (i := 3) dL_law_891 rfl 3 rfl ?_
  refine J_iconst h (v := nI 3) dL_law_892 (by decide) ?_
  refine N_iadd h dL_law_893 ?_
  refine L_sld h hX hbl hbA (by omega) (by omega) dL_law_894 ?_
  refine J_aload_n h (i := 0) dL_law_895 rfl 0 rfl ?_
  refine J_iload_n h (i := 3) dL_law_896 rfl 3 rfl ?_
  refine J_iconst h (v := nI 4) dL_law_897 (by decide) ?_
  refine N_iadd h dL_law_898 ?_
  refine L_sld h hX hbl hbA (by omega) (by omega) dL_law_899 ?_
  refine J_aload_n h (i := 0) dL_law_900 rfl 0 rfl ?_
  refine J_iload_n h (i := 3) dL_law_901 rfl 3 rfl ?_
  refine J_iconst h (v := nI 5) dL_law_902 (by decide) ?_
  refine N_iadd h dL_law_903 ?_
  refine L_sld h hX hbl hbA (by omega) (by omega) dL_law_904 ?_
  refine kx_likely  (rest := []) h hrc hco hro  (xi (n + 1)) (xi (n + 2)) (xi (n + 3)) (xi (n + 4)) (xi (n + 5)) nm_L_111 (by decide) (Nat.le_of_ble_eq_true rfl) (Nat.le_refl _) (Nat.le_refl _) dL_law_905 (fun r_x wa2 nw2 ab2 be2 hx => ?_)
  refine J_pop h dL_law_908 rfl ?_
  refine J_aload_n h (i := 2) dL_law_909 rfl 2 rfl ?_
  refine J_aload_n h (i := 0) dL_law_910 rfl 0 rfl ?_
  refine J_iload_n h (i := 3) dL_law_911 rfl 3 rfl ?_
  refine J_iconst h (v := nI 1) dL_law_912 (by decide) ?_
  refine N_iadd h dL_law_913 ?_
  refine L_sld h hX hbl hbA (by omega) (by omega) dL_law_914 ?_
  refine J_aload_n h (i := 0) dL_law_915 rfl 0 rfl ?_
  refine J_iload_n h (i := 3) dL_law_916 rfl 3 rfl ?_
  refine J_iconst h (v := nI 2) dL_law_917 (by decide) ?_
  refine N_iadd h dL_law_918 ?_
  refine L_sld h hX hbl hbA (by omega) (by omega) dL_law_919 ?_
  refine J_aload_n h (i := 0) dL_law_920 rfl 0 rfl ?_
  refine J_iload_n h (i := 3) dL_law_921 rfl 3 rfl ?_
  refine J_iconst h (v := nI 3) dL_law_922 (by decide) ?_
  refine N_iadd h dL_law_923 ?_
  refine L_sld h hX hbl hbA (by omega) (by omega) dL_law_924 ?_
  refine J_aload_n h (i := 0) dL_law_925 rfl 0 rfl ?_
  refine J_iload_n h (i := 3) dL_law_926 rfl 3 rfl ?_
  refine J_iconst h (v := nI 4) dL_law_927 (by decide) ?_
  refine N_iadd h dL_law_928 ?_
  refine L_sld h hX hbl hbA (by omega) (by omega) dL_law_929 ?_
  refine J_aload_n h (i := 0) dL_law_930 rfl 0 rfl ?_
  refine J_iload_n h (i := 3) dL_law_931 rfl 3 rfl ?_
  refine J_iconst h (v := nI 5) dL_law_932 (by decide) ?_
  refine N_iadd h dL_law_933 ?_
  refine L_sld h hX hbl hbA (by omega) (by omega) dL_law_934 ?_
  refine J.swp ?_
  refine km_likely (th := th) (ow := ow) (rest := []) h hrc hco hro hrel  (xi (n + 1)) (xi (n + 2)) (xi (n + 3)) (xi (n + 4)) (xi (n + 5)) nm_L_114 (by decide) (Nat.le_of_ble_eq_true rfl) (Nat.le_refl _) (Nat.le_refl _) dL_law_935 (fun r_m hm => ?_)
  refine J.swp ?_
  refine J_pop h dL_law_938 rfl ?_
  refine J_goto h 1034 dL_law_939 (by decide) ?_
  exact hcont (hI0)

set_option maxRecDepth 100000 in
set_option maxHeartbeats 4000000 in
theorem lc_24 (X : Cx) {cI cE : ClassId} (h : Ok X cL_law RL 4 cI cE 9 72 3197) {z0 : Nat} {g0 : Nat} {a0 : Nat} {f0 : Nat} {s0 : Nat} {k0 : Nat} {v0 : Nat} {d0 : Nat} {y0 : Nat} {m0 : Nat} {o0 : Nat} {g1 : Nat} {a1 : Nat} {a2 : Nat} {f1 : Nat} {f2 : Nat} {s1 : Nat} {eA : Nat → Nat} {tA : Nat → Nat} {oA : Nat → Nat} {k1 : Nat} {eK : Nat → Nat} {tK : Nat → Nat} {oK : Nat → Nat} {v1 : Nat} {v2 : Nat} {v3 : Nat} {d1 : Nat} {d2 : Nat} {m1 : Nat} {m2 : Nat} {o1 : Nat} {o2 : Nat} {q0 : Nat} {q3 : Nat} {q4 : Nat} {q6 : Nat} {q7 : Nat} {q8 : Nat} {q9 : Nat} {q14 : Nat} {q15 : Nat} {q17 : Nat} {q18 : Nat} {q19 : Nat} {q23 : Nat} {q24 : Nat} {q25 : Nat} {b L n : Nat} {xi : Nat → Int32} (hX : va_X b L xi (xs X) (xs X).heap) (hbl : b < (xs X).heap.size) (hbA : ¬ xA X b) (hL : L ≤ 384) (hn : n + 6 ≤ L) (hcont : ∀ {lx : Nat → Nat} {tl : Nat} {th : Nat → Int32} {ow : Nat → Int32} {co : Nat} {ro : Nat} {sl : Int32} {dth : Nat → Int32} {dow : Nat → Int32} {dco : Int32} {dro : Int32} {dsl : Int32} {thS : Nat → Nat → Int32} {owS : Nat → Nat → Int32} {coS : Nat → Int32} {roS : Nat → Int32} {slS : Nat → Int32} {nx : Nat} {sz : Nat} {thK : Nat → Nat → Int32} {owK : Nat → Nat → Int32} {coK : Nat → Int32} {roK : Nat → Int32} {slK : Nat → Int32} {nk : Nat} {zk : Nat} {kx : Nat → Nat} {kw : Nat → Nat} {ke : Nat → Nat} {sn : Nat} {ce : Nat → Int32} {se : Nat → Int32} {len : Int32} {en : Int32} {cd : Int32} {tk : Int32} {mk : Nat → Int32} {wg : Nat → Int32} {wn : Int32} {wa : Nat → Int32} {nw : Nat → Int32} {ab : Int32} {be : Int32} {roM : Nat} {coM : Nat} {slM : Int32} {snM : Nat} {tsM : Nat} {raM : Int32} {rrM : Int32} {rwM : Int32} {rnM : Int32} {umM : Nat} {bsM : Int32} {bhM : Int32} {kmM : Nat} {thM : Nat → Int32} {moM : Nat → Int32} {kxM : Nat → Nat} {kwM : Nat → Nat} {keM : Nat → Nat} {lxM : Nat → Nat} {rlM : Nat → Int32} {rgM : Nat → Int32} {ceM : Nat → Int32} {seM : Nat → Int32} {ahM : Nat → Int32} {mkM : Nat → Int32} {asM : Nat → Int32} {kpM : Nat → Int32}, IV lx tl th ow co ro thS owS coS roS nx sz thK owK coK roK nk zk kx kw ke sn lxM tsM thM moM coM roM ahM umM kpM kmM kxM kwM keM snM → J X 4 72 3197 1034 [(0, .ref b), (1, .ref z0), (2, .ref q0), (3, .int (nI n))] [] (WX cI cE z0 g0 a0 f0 s0 k0 v0 d0 y0 m0 o0 g1 a1 a2 f1 f2 s1 eA tA oA k1 eK tK oK v1 v2 v3 d1 d2 m1 m2 o1 o2 lx tl th ow co ro sl dth dow dco dro dsl thS owS coS roS slS nx sz thK owK coK roK slK nk zk kx kw ke sn ce se len en cd tk mk wg wn wa nw ab be ++ WM cI q0 q3 q4 q6 q7 q8 q9 q14 q15 q17 q18 q19 q23 q24 q25 roM coM slM snM tsM raM rrM rwM rnM umM bsM bhM kmM thM moM kxM kwM keM lxM rlM rgM ceM seM ahM mkM asM kpM)) {lx : Nat → Nat} {tl : Nat} {th : Nat → Int32} {ow : Nat → Int32} {co : Nat} {ro : Nat} {sl : Int32} {dth : Nat → Int32} {dow : Nat → Int32} {dco : Int32} {dro : Int32} {dsl : Int32} {thS : Nat → Nat → Int32} {owS : Nat → Nat → Int32} {coS : Nat → Int32} {roS : Nat → Int32} {slS : Nat → Int32} {nx : Nat} {sz : Nat} {thK : Nat → Nat → Int32} {owK : Nat → Nat → Int32} {coK : Nat → Int32} {roK : Nat → Int32} {slK : Nat → Int32} {nk : Nat} {zk : Nat} {kx : Nat → Nat} {kw : Nat → Nat} {ke : Nat → Nat} {sn : Nat} {ce : Nat → Int32} {se : Nat → Int32} {len : Int32} {en : Int32} {cd : Int32} {tk : Int32} {mk : Nat → Int32} {wg : Nat → Int32} {wn : Int32} {wa : Nat → Int32} {nw : Nat → Int32} {ab : Int32} {be : Int32} {roM : Nat} {coM : Nat} {slM : Int32} {snM : Nat} {tsM : Nat} {raM : Int32} {rrM : Int32} {rwM : Int32} {rnM : Int32} {umM : Nat} {bsM : Int32} {bhM : Int32} {kmM : Nat} {thM : Nat → Int32} {moM : Nat → Int32} {kxM : Nat → Nat} {kwM : Nat → Nat} {keM : Nat → Nat} {lxM : Nat → Nat} {rlM : Nat → Int32} {rgM : Nat → Int32} {ceM : Nat → Int32} {seM : Nat → Int32} {ahM : Nat → Int32} {mkM : Nat → Int32} {asM : Nat → Int32} {kpM : Nat → Int32} (hI : IV lx tl th ow co ro thS owS coS roS nx sz thK owK coK roK nk zk kx kw ke sn lxM tsM thM moM coM roM ahM umM kpM kmM kxM kwM keM snM) : J X 4 72 3197 942 [(0, .ref b), (1, .ref z0), (2, .ref q0), (3, .int (nI n))] [] (WX cI cE z0 g0 a0 f0 s0 k0 v0 d0 y0 m0 o0 g1 a1 a2 f1 f2 s1 eA tA oA k1 eK tK oK v1 v2 v3 d1 d2 m1 m2 o1 o2 lx tl th ow co ro sl dth dow dco dro dsl thS owS coS roS slS nx sz thK owK coK roK slK nk zk kx kw ke sn ce se len en cd tk mk wg wn wa nw ab be ++ WM cI q0 q3 q4 q6 q7 q8 q9 q14 q15 q17 q18 q19 q23 q24 q25 roM coM slM snM tsM raM rrM rwM rnM umM bsM bhM kmM thM moM kxM kwM keM lxM rlM rgM ceM seM ahM mkM asM kpM) := by
  have hI0 := hI
  obtain ⟨⟨rfl, rfl, rfl, rfl, rfl, rfl, rfl, rfl, rfl⟩, ⟨hlx, hlxM, hle, htl⟩, ⟨hrc, hco, hro, hc0, hr0⟩, hrel, ⟨hnx, hsz, hrg⟩, ⟨hnk, hzk, hrk⟩, hsn, hk⟩ := hI
  refine J_aload_n h (i := 1) dL_law_942 rfl 1 rfl ?_
  refine J_aload_n h (i := 0) dL_law_943 rfl 0 rfl ?_
  refine J_iload_n h (i := 3) dL_law_944 rfl 3 rfl ?_
  refine J_iconst h (v := nI 1) dL_law_945 (by decide) ?_
  refine N_iadd h dL_law_946 ?_
  refine L_sld h hX hbl hbA (by omega) (by omega) dL_law_947 ?_
  refine J_aload_n h (i := 0) dL_law_948 rfl 0 rfl ?_
  refine J_iload_n h (i := 3) dL_law_949 rfl 3 rfl ?_
  refine J_iconst h (v := nI 2) dL_law_950 (by decide) ?_
  refine N_iadd h dL_law_951 ?_
  refine L_sld h hX hbl hbA (by omega) (by omega) dL_law_952 ?_
  refine J_aload_n h (i := 0) dL_law_953 rfl 0 rfl ?_
  refine J_iload_n h (i := 3) dL_law_954 rfl 3 rfl ?_
  refine J_iconst h (v := nI 3) dL_law_955 (by decide) ?_
  refine N_iadd h dL_law_956 ?_
  refine L_sld h hX hbl hbA (by omega) (by omega) dL_law_957 ?_
  refine kx_winter  (rest := []) h hrc hco hro hc0 hr0  (xi (n + 1)) (xi (n + 2)) (xi (n + 3)) nm_L_115 (by decide) (Nat.le_of_ble_eq_true rfl) (Nat.le_refl _) (Nat.le_refl _) dL_law_958 (fun r_x dth2 dow2 dco2 dro2 dsl2 ce2 se2 ln2 en2 hx => ?_)
  refine J_pop h dL_law_961 rfl ?_
  refine J_aload_n h (i := 2) dL_law_962 rfl 2 rfl ?_
  refine J_aload_n h (i := 0) dL_law_963 rfl 0 rfl ?_
  refine J_iload_n h (i := 3) dL_law_964 rfl 3 rfl ?_
  refine J_iconst h (v := nI 1) dL_law_965 (by decide) ?_
  refine N_iadd h dL_law_966 ?_
  refine L_sld h hX hbl hbA (by omega) (by omega) dL_law_967 ?_
  refine J_aload_n h (i := 0) dL_law_968 rfl 0 rfl ?_
  refine J_iload_n h (i := 3) dL_law_969 rfl 3 rfl ?_
  refine J_iconst h (v := nI 2) dL_law_970 (by decide) ?_
  refine N_iadd h dL_law_971 ?_
  refine L_sld h hX hbl hbA (by omega) (by omega) dL_law_972 ?_
  refine J_aload_n h (i := 0) dL_law_973 rfl 0 rfl ?_
  refine J_iload_n h (i := 3) dL_law_974 rfl 3 rfl ?_
  refine J_iconst h (v := nI 3) dL_law_975 (by decide) ?_
  refine N_iadd h dL_law_976 ?_
  refine L_sld h hX hbl hbA (by omega) (by omega) dL_law_977 ?_
  refine J.swp ?_
  refine km_winter (th := th) (ow := ow) (rest := []) h hrc hco hro hrel hc0 hr0  (xi (n + 1)) (xi (n + 2)) (xi (n + 3)) nm_L_118 (by decide) (Nat.le_of_ble_eq_true rfl) (Nat.le_refl _) (Nat.le_refl _) dL_law_978 (fun r_m ce2M se2M as2M hm => ?_)
  refine J.swp ?_
  refine J_pop h dL_law_981 rfl ?_
  refine J_goto h 1034 dL_law_982 (by decide) ?_
  exact hcont (hI0)

set_option maxRecDepth 100000 in
set_option maxHeartbeats 4000000 in
theorem lc_25 (X : Cx) {cI cE : ClassId} (h : Ok X cL_law RL 4 cI cE 9 72 3197) {z0 : Nat} {g0 : Nat} {a0 : Nat} {f0 : Nat} {s0 : Nat} {k0 : Nat} {v0 : Nat} {d0 : Nat} {y0 : Nat} {m0 : Nat} {o0 : Nat} {g1 : Nat} {a1 : Nat} {a2 : Nat} {f1 : Nat} {f2 : Nat} {s1 : Nat} {eA : Nat → Nat} {tA : Nat → Nat} {oA : Nat → Nat} {k1 : Nat} {eK : Nat → Nat} {tK : Nat → Nat} {oK : Nat → Nat} {v1 : Nat} {v2 : Nat} {v3 : Nat} {d1 : Nat} {d2 : Nat} {m1 : Nat} {m2 : Nat} {o1 : Nat} {o2 : Nat} {q0 : Nat} {q3 : Nat} {q4 : Nat} {q6 : Nat} {q7 : Nat} {q8 : Nat} {q9 : Nat} {q14 : Nat} {q15 : Nat} {q17 : Nat} {q18 : Nat} {q19 : Nat} {q23 : Nat} {q24 : Nat} {q25 : Nat} {b L n : Nat} {xi : Nat → Int32} (hX : va_X b L xi (xs X) (xs X).heap) (hbl : b < (xs X).heap.size) (hbA : ¬ xA X b) (hL : L ≤ 384) (hn : n + 6 ≤ L) (hcont : ∀ {lx : Nat → Nat} {tl : Nat} {th : Nat → Int32} {ow : Nat → Int32} {co : Nat} {ro : Nat} {sl : Int32} {dth : Nat → Int32} {dow : Nat → Int32} {dco : Int32} {dro : Int32} {dsl : Int32} {thS : Nat → Nat → Int32} {owS : Nat → Nat → Int32} {coS : Nat → Int32} {roS : Nat → Int32} {slS : Nat → Int32} {nx : Nat} {sz : Nat} {thK : Nat → Nat → Int32} {owK : Nat → Nat → Int32} {coK : Nat → Int32} {roK : Nat → Int32} {slK : Nat → Int32} {nk : Nat} {zk : Nat} {kx : Nat → Nat} {kw : Nat → Nat} {ke : Nat → Nat} {sn : Nat} {ce : Nat → Int32} {se : Nat → Int32} {len : Int32} {en : Int32} {cd : Int32} {tk : Int32} {mk : Nat → Int32} {wg : Nat → Int32} {wn : Int32} {wa : Nat → Int32} {nw : Nat → Int32} {ab : Int32} {be : Int32} {roM : Nat} {coM : Nat} {slM : Int32} {snM : Nat} {tsM : Nat} {raM : Int32} {rrM : Int32} {rwM : Int32} {rnM : Int32} {umM : Nat} {bsM : Int32} {bhM : Int32} {kmM : Nat} {thM : Nat → Int32} {moM : Nat → Int32} {kxM : Nat → Nat} {kwM : Nat → Nat} {keM : Nat → Nat} {lxM : Nat → Nat} {rlM : Nat → Int32} {rgM : Nat → Int32} {ceM : Nat → Int32} {seM : Nat → Int32} {ahM : Nat → Int32} {mkM : Nat → Int32} {asM : Nat → Int32} {kpM : Nat → Int32}, IV lx tl th ow co ro thS owS coS roS nx sz thK owK coK roK nk zk kx kw ke sn lxM tsM thM moM coM roM ahM umM kpM kmM kxM kwM keM snM → J X 4 72 3197 1034 [(0, .ref b), (1, .ref z0), (2, .ref q0), (3, .int (nI n))] [] (WX cI cE z0 g0 a0 f0 s0 k0 v0 d0 y0 m0 o0 g1 a1 a2 f1 f2 s1 eA tA oA k1 eK tK oK v1 v2 v3 d1 d2 m1 m2 o1 o2 lx tl th ow co ro sl dth dow dco dro dsl thS owS coS roS slS nx sz thK owK coK roK slK nk zk kx kw ke sn ce se len en cd tk mk wg wn wa nw ab be ++ WM cI q0 q3 q4 q6 q7 q8 q9 q14 q15 q17 q18 q19 q23 q24 q25 roM coM slM snM tsM raM rrM rwM rnM umM bsM bhM kmM thM moM kxM kwM keM lxM rlM rgM ceM seM ahM mkM asM kpM)) {lx : Nat → Nat} {tl : Nat} {th : Nat → Int32} {ow : Nat → Int32} {co : Nat} {ro : Nat} {sl : Int32} {dth : Nat → Int32} {dow : Nat → Int32} {dco : Int32} {dro : Int32} {dsl : Int32} {thS : Nat → Nat → Int32} {owS : Nat → Nat → Int32} {coS : Nat → Int32} {roS : Nat → Int32} {slS : Nat → Int32} {nx : Nat} {sz : Nat} {thK : Nat → Nat → Int32} {owK : Nat → Nat → Int32} {coK : Nat → Int32} {roK : Nat → Int32} {slK : Nat → Int32} {nk : Nat} {zk : Nat} {kx : Nat → Nat} {kw : Nat → Nat} {ke : Nat → Nat} {sn : Nat} {ce : Nat → Int32} {se : Nat → Int32} {len : Int32} {en : Int32} {cd : Int32} {tk : Int32} {mk : Nat → Int32} {wg : Nat → Int32} {wn : Int32} {wa : Nat → Int32} {nw : Nat → Int32} {ab : Int32} {be : Int32} {roM : Nat} {coM : Nat} {slM : Int32} {snM : Nat} {tsM : Nat} {raM : Int32} {rrM : Int32} {rwM : Int32} {rnM : Int32} {umM : Nat} {bsM : Int32} {bhM : Int32} {kmM : Nat} {thM : Nat → Int32} {moM : Nat → Int32} {kxM : Nat → Nat} {kwM : Nat → Nat} {keM : Nat → Nat} {lxM : Nat → Nat} {rlM : Nat → Int32} {rgM : Nat → Int32} {ceM : Nat → Int32} {seM : Nat → Int32} {ahM : Nat → Int32} {mkM : Nat → Int32} {asM : Nat → Int32} {kpM : Nat → Int32} (hI : IV lx tl th ow co ro thS owS coS roS nx sz thK owK coK roK nk zk kx kw ke sn lxM tsM thM moM coM roM ahM umM kpM kmM kxM kwM keM snM) : J X 4 72 3197 985 [(0, .ref b), (1, .ref z0), (2, .ref q0), (3, .int (nI n))] [] (WX cI cE z0 g0 a0 f0 s0 k0 v0 d0 y0 m0 o0 g1 a1 a2 f1 f2 s1 eA tA oA k1 eK tK oK v1 v2 v3 d1 d2 m1 m2 o1 o2 lx tl th ow co ro sl dth dow dco dro dsl thS owS coS roS slS nx sz thK owK coK roK slK nk zk kx kw ke sn ce se len en cd tk mk wg wn wa nw ab be ++ WM cI q0 q3 q4 q6 q7 q8 q9 q14 q15 q17 q18 q19 q23 q24 q25 roM coM slM snM tsM raM rrM rwM rnM umM bsM bhM kmM thM moM kxM kwM keM lxM rlM rgM ceM seM ahM mkM asM kpM) := by
  have hI0 := hI
  obtain ⟨⟨rfl, rfl, rfl, rfl, rfl, rfl, rfl, rfl, rfl⟩, ⟨hlx, hlxM, hle, htl⟩, ⟨hrc, hco, hro, hc0, hr0⟩, hrel, ⟨hnx, hsz, hrg⟩, ⟨hnk, hzk, hrk⟩, hsn, hk⟩ := hI
  refine J_aload_n h (i := 1) dL_law_985 rfl 1 rfl ?_
  refine kx_keep  (rest := []) h hnk hzk   nm_L_119 (by decide) (Nat.le_of_ble_eq_true rfl) (Nat.le_refl _) (Nat.le_refl _) dL_law_986 (fun r_x thK2 owK2 coK2 roK2 slK2 nk2 zk2 hx => ?_)
  refine J_pop h dL_law_989 rfl ?_
  refine J_aload_n h (i := 2) dL_law_990 rfl 2 rfl ?_
  refine J.swp ?_
  refine km_keep  (rest := []) h hzk   nm_L_122 (by decide) (Nat.le_of_ble_eq_true rfl) (Nat.le_refl _) (Nat.le_refl _) dL_law_991 (fun r_m kp2M km2M hm => ?_)
  refine J.swp ?_
  refine J_pop h dL_law_994 rfl ?_
  refine J_goto h 1034 dL_law_995 (by decide) ?_
  exact hcont (iv_keep hI0 hx hm)

set_option maxRecDepth 100000 in
set_option maxHeartbeats 4000000 in
theorem lc_26 (X : Cx) {cI cE : ClassId} (h : Ok X cL_law RL 4 cI cE 9 72 3197) {z0 : Nat} {g0 : Nat} {a0 : Nat} {f0 : Nat} {s0 : Nat} {k0 : Nat} {v0 : Nat} {d0 : Nat} {y0 : Nat} {m0 : Nat} {o0 : Nat} {g1 : Nat} {a1 : Nat} {a2 : Nat} {f1 : Nat} {f2 : Nat} {s1 : Nat} {eA : Nat → Nat} {tA : Nat → Nat} {oA : Nat → Nat} {k1 : Nat} {eK : Nat → Nat} {tK : Nat → Nat} {oK : Nat → Nat} {v1 : Nat} {v2 : Nat} {v3 : Nat} {d1 : Nat} {d2 : Nat} {m1 : Nat} {m2 : Nat} {o1 : Nat} {o2 : Nat} {q0 : Nat} {q3 : Nat} {q4 : Nat} {q6 : Nat} {q7 : Nat} {q8 : Nat} {q9 : Nat} {q14 : Nat} {q15 : Nat} {q17 : Nat} {q18 : Nat} {q19 : Nat} {q23 : Nat} {q24 : Nat} {q25 : Nat} {b L n : Nat} {xi : Nat → Int32} (hX : va_X b L xi (xs X) (xs X).heap) (hbl : b < (xs X).heap.size) (hbA : ¬ xA X b) (hL : L ≤ 384) (hn : n + 6 ≤ L) (hcont : ∀ {lx : Nat → Nat} {tl : Nat} {th : Nat → Int32} {ow : Nat → Int32} {co : Nat} {ro : Nat} {sl : Int32} {dth : Nat → Int32} {dow : Nat → Int32} {dco : Int32} {dro : Int32} {dsl : Int32} {thS : Nat → Nat → Int32} {owS : Nat → Nat → Int32} {coS : Nat → Int32} {roS : Nat → Int32} {slS : Nat → Int32} {nx : Nat} {sz : Nat} {thK : Nat → Nat → Int32} {owK : Nat → Nat → Int32} {coK : Nat → Int32} {roK : Nat → Int32} {slK : Nat → Int32} {nk : Nat} {zk : Nat} {kx : Nat → Nat} {kw : Nat → Nat} {ke : Nat → Nat} {sn : Nat} {ce : Nat → Int32} {se : Nat → Int32} {len : Int32} {en : Int32} {cd : Int32} {tk : Int32} {mk : Nat → Int32} {wg : Nat → Int32} {wn : Int32} {wa : Nat → Int32} {nw : Nat → Int32} {ab : Int32} {be : Int32} {roM : Nat} {coM : Nat} {slM : Int32} {snM : Nat} {tsM : Nat} {raM : Int32} {rrM : Int32} {rwM : Int32} {rnM : Int32} {umM : Nat} {bsM : Int32} {bhM : Int32} {kmM : Nat} {thM : Nat → Int32} {moM : Nat → Int32} {kxM : Nat → Nat} {kwM : Nat → Nat} {keM : Nat → Nat} {lxM : Nat → Nat} {rlM : Nat → Int32} {rgM : Nat → Int32} {ceM : Nat → Int32} {seM : Nat → Int32} {ahM : Nat → Int32} {mkM : Nat → Int32} {asM : Nat → Int32} {kpM : Nat → Int32}, IV lx tl th ow co ro thS owS coS roS nx sz thK owK coK roK nk zk kx kw ke sn lxM tsM thM moM coM roM ahM umM kpM kmM kxM kwM keM snM → J X 4 72 3197 1034 [(0, .ref b), (1, .ref z0), (2, .ref q0), (3, .int (nI n))] [] (WX cI cE z0 g0 a0 f0 s0 k0 v0 d0 y0 m0 o0 g1 a1 a2 f1 f2 s1 eA tA oA k1 eK tK oK v1 v2 v3 d1 d2 m1 m2 o1 o2 lx tl th ow co ro sl dth dow dco dro dsl thS owS coS roS slS nx sz thK owK coK roK slK nk zk kx kw ke sn ce se len en cd tk mk wg wn wa nw ab be ++ WM cI q0 q3 q4 q6 q7 q8 q9 q14 q15 q17 q18 q19 q23 q24 q25 roM coM slM snM tsM raM rrM rwM rnM umM bsM bhM kmM thM moM kxM kwM keM lxM rlM rgM ceM seM ahM mkM asM kpM)) {lx : Nat → Nat} {tl : Nat} {th : Nat → Int32} {ow : Nat → Int32} {co : Nat} {ro : Nat} {sl : Int32} {dth : Nat → Int32} {dow : Nat → Int32} {dco : Int32} {dro : Int32} {dsl : Int32} {thS : Nat → Nat → Int32} {owS : Nat → Nat → Int32} {coS : Nat → Int32} {roS : Nat → Int32} {slS : Nat → Int32} {nx : Nat} {sz : Nat} {thK : Nat → Nat → Int32} {owK : Nat → Nat → Int32} {coK : Nat → Int32} {roK : Nat → Int32} {slK : Nat → Int32} {nk : Nat} {zk : Nat} {kx : Nat → Nat} {kw : Nat → Nat} {ke : Nat → Nat} {sn : Nat} {ce : Nat → Int32} {se : Nat → Int32} {len : Int32} {en : Int32} {cd : Int32} {tk : Int32} {mk : Nat → Int32} {wg : Nat → Int32} {wn : Int32} {wa : Nat → Int32} {nw : Nat → Int32} {ab : Int32} {be : Int32} {roM : Nat} {coM : Nat} {slM : Int32} {snM : Nat} {tsM : Nat} {raM : Int32} {rrM : Int32} {rwM : Int32} {rnM : Int32} {umM : Nat} {bsM : Int32} {bhM : Int32} {kmM : Nat} {thM : Nat → Int32} {moM : Nat → Int32} {kxM : Nat → Nat} {kwM : Nat → Nat} {keM : Nat → Nat} {lxM : Nat → Nat} {rlM : Nat → Int32} {rgM : Nat → Int32} {ceM : Nat → Int32} {seM : Nat → Int32} {ahM : Nat → Int32} {mkM : Nat → Int32} {asM : Nat → Int32} {kpM : Nat → Int32} (hI : IV lx tl th ow co ro thS owS coS roS nx sz thK owK coK roK nk zk kx kw ke sn lxM tsM thM moM coM roM ahM umM kpM kmM kxM kwM keM snM) : J X 4 72 3197 998 [(0, .ref b), (1, .ref z0), (2, .ref q0), (3, .int (nI n))] [] (WX cI cE z0 g0 a0 f0 s0 k0 v0 d0 y0 m0 o0 g1 a1 a2 f1 f2 s1 eA tA oA k1 eK tK oK v1 v2 v3 d1 d2 m1 m2 o1 o2 lx tl th ow co ro sl dth dow dco dro dsl thS owS coS roS slS nx sz thK owK coK roK slK nk zk kx kw ke sn ce se len en cd tk mk wg wn wa nw ab be ++ WM cI q0 q3 q4 q6 q7 q8 q9 q14 q15 q17 q18 q19 q23 q24 q25 roM coM slM snM tsM raM rrM rwM rnM umM bsM bhM kmM thM moM kxM kwM keM lxM rlM rgM ceM seM ahM mkM asM kpM) := by
  have hI0 := hI
  obtain ⟨⟨rfl, rfl, rfl, rfl, rfl, rfl, rfl, rfl, rfl⟩, ⟨hlx, hlxM, hle, htl⟩, ⟨hrc, hco, hro, hc0, hr0⟩, hrel, ⟨hnx, hsz, hrg⟩, ⟨hnk, hzk, hrk⟩, hsn, hk⟩ := hI
  refine J_aload_n h (i := 1) dL_law_998 rfl 1 rfl ?_
  refine kx_back  (rest := []) h hnk hzk (fun h0 => by have l := (lst2 hnk h0 hzk).1; have hz := hrk (zk - 1) (by omega); rw [← l] at hz; exact ⟨hz.1, hz.2.1⟩)  nm_L_123 (by decide) (Nat.le_of_ble_eq_true rfl) (Nat.le_refl _) (Nat.le_refl _) dL_law_999 (fun r_x nk2 zk2 th2 ow2 sl2 sz2 hx => ?_)
  refine J_aload_n h (i := 2) dL_law_1002 rfl 2 rfl ?_
  refine J.swp ?_
  refine km_back  (rest := [.int r_x]) h hzk   nm_L_126 (by decide) (Nat.le_of_ble_eq_true rfl) (Nat.le_refl _) (Nat.le_refl _) dL_law_1003 (fun r_m th2M mo2M sl2M um2M km2M hm => ?_)
  refine J.swp ?_
  refine J_icmp_eq h 1034 dL_law_1006 (by decide) (fun _ => ?_) (fun c => absurd (eq_back hI0 hx hm) c)
  exact hcont (iv_back hI0 hx hm)

set_option maxRecDepth 100000 in
set_option maxHeartbeats 4000000 in
theorem lc_27 (X : Cx) {cI cE : ClassId} (h : Ok X cL_law RL 4 cI cE 9 72 3197) {z0 : Nat} {g0 : Nat} {a0 : Nat} {f0 : Nat} {s0 : Nat} {k0 : Nat} {v0 : Nat} {d0 : Nat} {y0 : Nat} {m0 : Nat} {o0 : Nat} {g1 : Nat} {a1 : Nat} {a2 : Nat} {f1 : Nat} {f2 : Nat} {s1 : Nat} {eA : Nat → Nat} {tA : Nat → Nat} {oA : Nat → Nat} {k1 : Nat} {eK : Nat → Nat} {tK : Nat → Nat} {oK : Nat → Nat} {v1 : Nat} {v2 : Nat} {v3 : Nat} {d1 : Nat} {d2 : Nat} {m1 : Nat} {m2 : Nat} {o1 : Nat} {o2 : Nat} {q0 : Nat} {q3 : Nat} {q4 : Nat} {q6 : Nat} {q7 : Nat} {q8 : Nat} {q9 : Nat} {q14 : Nat} {q15 : Nat} {q17 : Nat} {q18 : Nat} {q19 : Nat} {q23 : Nat} {q24 : Nat} {q25 : Nat} {b L n : Nat} {xi : Nat → Int32} (hX : va_X b L xi (xs X) (xs X).heap) (hbl : b < (xs X).heap.size) (hbA : ¬ xA X b) (hL : L ≤ 384) (hn : n + 6 ≤ L) (hcont : ∀ {lx : Nat → Nat} {tl : Nat} {th : Nat → Int32} {ow : Nat → Int32} {co : Nat} {ro : Nat} {sl : Int32} {dth : Nat → Int32} {dow : Nat → Int32} {dco : Int32} {dro : Int32} {dsl : Int32} {thS : Nat → Nat → Int32} {owS : Nat → Nat → Int32} {coS : Nat → Int32} {roS : Nat → Int32} {slS : Nat → Int32} {nx : Nat} {sz : Nat} {thK : Nat → Nat → Int32} {owK : Nat → Nat → Int32} {coK : Nat → Int32} {roK : Nat → Int32} {slK : Nat → Int32} {nk : Nat} {zk : Nat} {kx : Nat → Nat} {kw : Nat → Nat} {ke : Nat → Nat} {sn : Nat} {ce : Nat → Int32} {se : Nat → Int32} {len : Int32} {en : Int32} {cd : Int32} {tk : Int32} {mk : Nat → Int32} {wg : Nat → Int32} {wn : Int32} {wa : Nat → Int32} {nw : Nat → Int32} {ab : Int32} {be : Int32} {roM : Nat} {coM : Nat} {slM : Int32} {snM : Nat} {tsM : Nat} {raM : Int32} {rrM : Int32} {rwM : Int32} {rnM : Int32} {umM : Nat} {bsM : Int32} {bhM : Int32} {kmM : Nat} {thM : Nat → Int32} {moM : Nat → Int32} {kxM : Nat → Nat} {kwM : Nat → Nat} {keM : Nat → Nat} {lxM : Nat → Nat} {rlM : Nat → Int32} {rgM : Nat → Int32} {ceM : Nat → Int32} {seM : Nat → Int32} {ahM : Nat → Int32} {mkM : Nat → Int32} {asM : Nat → Int32} {kpM : Nat → Int32}, IV lx tl th ow co ro thS owS coS roS nx sz thK owK coK roK nk zk kx kw ke sn lxM tsM thM moM coM roM ahM umM kpM kmM kxM kwM keM snM → J X 4 72 3197 1034 [(0, .ref b), (1, .ref z0), (2, .ref q0), (3, .int (nI n))] [] (WX cI cE z0 g0 a0 f0 s0 k0 v0 d0 y0 m0 o0 g1 a1 a2 f1 f2 s1 eA tA oA k1 eK tK oK v1 v2 v3 d1 d2 m1 m2 o1 o2 lx tl th ow co ro sl dth dow dco dro dsl thS owS coS roS slS nx sz thK owK coK roK slK nk zk kx kw ke sn ce se len en cd tk mk wg wn wa nw ab be ++ WM cI q0 q3 q4 q6 q7 q8 q9 q14 q15 q17 q18 q19 q23 q24 q25 roM coM slM snM tsM raM rrM rwM rnM umM bsM bhM kmM thM moM kxM kwM keM lxM rlM rgM ceM seM ahM mkM asM kpM)) {lx : Nat → Nat} {tl : Nat} {th : Nat → Int32} {ow : Nat → Int32} {co : Nat} {ro : Nat} {sl : Int32} {dth : Nat → Int32} {dow : Nat → Int32} {dco : Int32} {dro : Int32} {dsl : Int32} {thS : Nat → Nat → Int32} {owS : Nat → Nat → Int32} {coS : Nat → Int32} {roS : Nat → Int32} {slS : Nat → Int32} {nx : Nat} {sz : Nat} {thK : Nat → Nat → Int32} {owK : Nat → Nat → Int32} {coK : Nat → Int32} {roK : Nat → Int32} {slK : Nat → Int32} {nk : Nat} {zk : Nat} {kx : Nat → Nat} {kw : Nat → Nat} {ke : Nat → Nat} {sn : Nat} {ce : Nat → Int32} {se : Nat → Int32} {len : Int32} {en : Int32} {cd : Int32} {tk : Int32} {mk : Nat → Int32} {wg : Nat → Int32} {wn : Int32} {wa : Nat → Int32} {nw : Nat → Int32} {ab : Int32} {be : Int32} {roM : Nat} {coM : Nat} {slM : Int32} {snM : Nat} {tsM : Nat} {raM : Int32} {rrM : Int32} {rwM : Int32} {rnM : Int32} {umM : Nat} {bsM : Int32} {bhM : Int32} {kmM : Nat} {thM : Nat → Int32} {moM : Nat → Int32} {kxM : Nat → Nat} {kwM : Nat → Nat} {keM : Nat → Nat} {lxM : Nat → Nat} {rlM : Nat → Int32} {rgM : Nat → Int32} {ceM : Nat → Int32} {seM : Nat → Int32} {ahM : Nat → Int32} {mkM : Nat → Int32} {asM : Nat → Int32} {kpM : Nat → Int32} (hI : IV lx tl th ow co ro thS owS coS roS nx sz thK owK coK roK nk zk kx kw ke sn lxM tsM thM moM coM roM ahM umM kpM kmM kxM kwM keM snM) : J X 4 72 3197 1011 [(0, .ref b), (1, .ref z0), (2, .ref q0), (3, .int (nI n))] [] (WX cI cE z0 g0 a0 f0 s0 k0 v0 d0 y0 m0 o0 g1 a1 a2 f1 f2 s1 eA tA oA k1 eK tK oK v1 v2 v3 d1 d2 m1 m2 o1 o2 lx tl th ow co ro sl dth dow dco dro dsl thS owS coS roS slS nx sz thK owK coK roK slK nk zk kx kw ke sn ce se len en cd tk mk wg wn wa nw ab be ++ WM cI q0 q3 q4 q6 q7 q8 q9 q14 q15 q17 q18 q19 q23 q24 q25 roM coM slM snM tsM raM rrM rwM rnM umM bsM bhM kmM thM moM kxM kwM keM lxM rlM rgM ceM seM ahM mkM asM kpM) := by
  have hI0 := hI
  obtain ⟨⟨rfl, rfl, rfl, rfl, rfl, rfl, rfl, rfl, rfl⟩, ⟨hlx, hlxM, hle, htl⟩, ⟨hrc, hco, hro, hc0, hr0⟩, hrel, ⟨hnx, hsz, hrg⟩, ⟨hnk, hzk, hrk⟩, hsn, hk⟩ := hI
  refine J_aload_n h (i := 1) dL_law_1011 rfl 1 rfl ?_
  refine J_aload_n h (i := 0) dL_law_1012 rfl 0 rfl ?_
  refine J_iload_n h (i := 3) dL_law_1013 rfl 3 rfl ?_
  refine J_iconst h (v := nI 1) dL_law_1014 (by decide) ?_
  refine N_iadd h dL_law_1015 ?_
  refine L_sld h hX hbl hbA (by omega) (by omega) dL_law_1016 ?_
  refine kx_count  (rest := []) h hrc hco hro  (xi (n + 1)) nm_L_127 (by decide) (Nat.le_of_ble_eq_true rfl) (Nat.le_refl _) (Nat.le_refl _) dL_law_1017 (fun r_x hx => ?_)
  refine J_pop h dL_law_1020 rfl ?_
  refine J_aload_n h (i := 2) dL_law_1021 rfl 2 rfl ?_
  refine J_aload_n h (i := 0) dL_law_1022 rfl 0 rfl ?_
  refine J_iload_n h (i := 3) dL_law_1023 rfl 3 rfl ?_
  refine J_iconst h (v := nI 1) dL_law_1024 (by decide) ?_
  refine N_iadd h dL_law_1025 ?_
  refine L_sld h hX hbl hbA (by omega) (by omega) dL_law_1026 ?_
  refine J.swp ?_
  refine km_count (th := th) (ow := ow) (rest := []) h hrc hco hro hrel  (xi (n + 1)) nm_L_130 (by decide) (Nat.le_of_ble_eq_true rfl) (Nat.le_refl _) (Nat.le_refl _) dL_law_1027 (fun r_m hm => ?_)
  refine J.swp ?_
  refine J_pop h dL_law_1030 rfl ?_
  refine J_goto h 1034 dL_law_1031 (by decide) ?_
  exact hcont (hI0)

set_option maxRecDepth 100000 in
set_option maxHeartbeats 4000000 in
theorem law_loop (X : Cx) {cI cE : ClassId} (h : Ok X cL_law RL 4 cI cE 9 72 3197) {z0 : Nat} {g0 : Nat} {a0 : Nat} {f0 : Nat} {s0 : Nat} {k0 : Nat} {v0 : Nat} {d0 : Nat} {y0 : Nat} {m0 : Nat} {o0 : Nat} {g1 : Nat} {a1 : Nat} {a2 : Nat} {f1 : Nat} {f2 : Nat} {s1 : Nat} {eA : Nat → Nat} {tA : Nat → Nat} {oA : Nat → Nat} {k1 : Nat} {eK : Nat → Nat} {tK : Nat → Nat} {oK : Nat → Nat} {v1 : Nat} {v2 : Nat} {v3 : Nat} {d1 : Nat} {d2 : Nat} {m1 : Nat} {m2 : Nat} {o1 : Nat} {o2 : Nat} {q0 : Nat} {q3 : Nat} {q4 : Nat} {q6 : Nat} {q7 : Nat} {q8 : Nat} {q9 : Nat} {q14 : Nat} {q15 : Nat} {q17 : Nat} {q18 : Nat} {q19 : Nat} {q23 : Nat} {q24 : Nat} {q25 : Nat} {b L : Nat} {xi : Nat → Int32} (hX : va_X b L xi (xs X) (xs X).heap) (hbl : b < (xs X).heap.size) (hbA : ¬ xA X b) (hL : L ≤ 384) (hend : ∀ (pc : Nat) (lv : Lv) (ws : va_W), decode cL_law pc = .ok (.ireturn, 1) → J X 4 72 3197 pc lv [.int (nI 1)] ws) : ∀ (f n : Nat) {lx : Nat → Nat} {tl : Nat} {th : Nat → Int32} {ow : Nat → Int32} {co : Nat} {ro : Nat} {sl : Int32} {dth : Nat → Int32} {dow : Nat → Int32} {dco : Int32} {dro : Int32} {dsl : Int32} {thS : Nat → Nat → Int32} {owS : Nat → Nat → Int32} {coS : Nat → Int32} {roS : Nat → Int32} {slS : Nat → Int32} {nx : Nat} {sz : Nat} {thK : Nat → Nat → Int32} {owK : Nat → Nat → Int32} {coK : Nat → Int32} {roK : Nat → Int32} {slK : Nat → Int32} {nk : Nat} {zk : Nat} {kx : Nat → Nat} {kw : Nat → Nat} {ke : Nat → Nat} {sn : Nat} {ce : Nat → Int32} {se : Nat → Int32} {len : Int32} {en : Int32} {cd : Int32} {tk : Int32} {mk : Nat → Int32} {wg : Nat → Int32} {wn : Int32} {wa : Nat → Int32} {nw : Nat → Int32} {ab : Int32} {be : Int32} {roM : Nat} {coM : Nat} {slM : Int32} {snM : Nat} {tsM : Nat} {raM : Int32} {rrM : Int32} {rwM : Int32} {rnM : Int32} {umM : Nat} {bsM : Int32} {bhM : Int32} {kmM : Nat} {thM : Nat → Int32} {moM : Nat → Int32} {kxM : Nat → Nat} {kwM : Nat → Nat} {keM : Nat → Nat} {lxM : Nat → Nat} {rlM : Nat → Int32} {rgM : Nat → Int32} {ceM : Nat → Int32} {seM : Nat → Int32} {ahM : Nat → Int32} {mkM : Nat → Int32} {asM : Nat → Int32} {kpM : Nat → Int32}, IV lx tl th ow co ro thS owS coS roS nx sz thK owK coK roK nk zk kx kw ke sn lxM tsM thM moM coM roM ahM umM kpM kmM kxM kwM keM snM → (n = 0 → sl = slM) → n ≤ L + 6 → L + 7 < f + n → J X 4 72 3197 18 [(0, .ref b), (1, .ref z0), (2, .ref q0), (3, .int (nI n))] [] (WX cI cE z0 g0 a0 f0 s0 k0 v0 d0 y0 m0 o0 g1 a1 a2 f1 f2 s1 eA tA oA k1 eK tK oK v1 v2 v3 d1 d2 m1 m2 o1 o2 lx tl th ow co ro sl dth dow dco dro dsl thS owS coS roS slS nx sz thK owK coK roK slK nk zk kx kw ke sn ce se len en cd tk mk wg wn wa nw ab be ++ WM cI q0 q3 q4 q6 q7 q8 q9 q14 q15 q17 q18 q19 q23 q24 q25 roM coM slM snM tsM raM rrM rwM rnM umM bsM bhM kmM thM moM kxM kwM keM lxM rlM rgM ceM seM ahM mkM asM kpM) := by
  intro f
  induction f with
  | zero => intro n _ _ _ _ _ _ _ _ _ _ _ _ _ _ _ _ _ _ _ _ _ _ _ _ _ _ _ _ _ _ _ _ _ _ _ _ _ _ _ _ _ _ _ _ _ _ _ _ _ _ _ _ _ _ _ _ _ _ _ _ _ _ _ _ _ _ _ _ _ _ _ _ h1 h2; omega
  | succ f ih =>
    intro n lx tl th ow co ro sl dth dow dco dro dsl thS owS coS roS slS nx sz thK owK coK roK slK nk zk kx kw ke sn ce se len en cd tk mk wg wn wa nw ab be roM coM slM snM tsM raM rrM rwM rnM umM bsM bhM kmM thM moM kxM kwM keM lxM rlM rgM ceM seM ahM mkM asM kpM hI hs0 hn hf
    refine J_iload_n h (i := 3) dL_law_18 rfl 3 rfl ?_
    refine J_aload_n h (i := 0) dL_law_19 rfl 0 rfl ?_
    refine L_slen h hX hbl hbA dL_law_20 ?_
    refine J_bipush h (v := nI 6) dL_law_21 (by decide) ?_
    refine J_isub h dL_law_23 ?_
    refine T_icmp_gt h (A := ((n : Nat) : Int)) (B := ((L : Nat) : Int) - ((6 : Nat) : Int)) 1040 dL_law_24 (by decide) (nI_toInt (by omega)) (pk_sub_toInt (by omega) (by omega)) (fun c_24 => ?_) (fun c_24 => ?_)
    · refine J_iconst h (v := nI 1) dL_law_1040 (by decide) ?_
      exact hend 1041 _ _ dL_law_1041
    · have hn6 : n + 6 ≤ L := by omega
      refine J_aload_n h (i := 0) dL_law_27 rfl 0 rfl ?_
      refine J_iload_n h (i := 3) dL_law_28 rfl 3 rfl ?_
      refine L_sld h hX hbl hbA (by omega) (by omega) dL_law_29 ?_
      refine J_bipush h (v := nI 31) dL_law_30 (by decide) ?_
      refine J_iand h dL_law_32 ?_
      have hcont : ∀ {lx : Nat → Nat} {tl : Nat} {th : Nat → Int32} {ow : Nat → Int32} {co : Nat} {ro : Nat} {sl : Int32} {dth : Nat → Int32} {dow : Nat → Int32} {dco : Int32} {dro : Int32} {dsl : Int32} {thS : Nat → Nat → Int32} {owS : Nat → Nat → Int32} {coS : Nat → Int32} {roS : Nat → Int32} {slS : Nat → Int32} {nx : Nat} {sz : Nat} {thK : Nat → Nat → Int32} {owK : Nat → Nat → Int32} {coK : Nat → Int32} {roK : Nat → Int32} {slK : Nat → Int32} {nk : Nat} {zk : Nat} {kx : Nat → Nat} {kw : Nat → Nat} {ke : Nat → Nat} {sn : Nat} {ce : Nat → Int32} {se : Nat → Int32} {len : Int32} {en : Int32} {cd : Int32} {tk : Int32} {mk : Nat → Int32} {wg : Nat → Int32} {wn : Int32} {wa : Nat → Int32} {nw : Nat → Int32} {ab : Int32} {be : Int32} {roM : Nat} {coM : Nat} {slM : Int32} {snM : Nat} {tsM : Nat} {raM : Int32} {rrM : Int32} {rwM : Int32} {rnM : Int32} {umM : Nat} {bsM : Int32} {bhM : Int32} {kmM : Nat} {thM : Nat → Int32} {moM : Nat → Int32} {kxM : Nat → Nat} {kwM : Nat → Nat} {keM : Nat → Nat} {lxM : Nat → Nat} {rlM : Nat → Int32} {rgM : Nat → Int32} {ceM : Nat → Int32} {seM : Nat → Int32} {ahM : Nat → Int32} {mkM : Nat → Int32} {asM : Nat → Int32} {kpM : Nat → Int32}, IV lx tl th ow co ro thS owS coS roS nx sz thK owK coK roK nk zk kx kw ke sn lxM tsM thM moM coM roM ahM umM kpM kmM kxM kwM keM snM → J X 4 72 3197 1034 [(0, .ref b), (1, .ref z0), (2, .ref q0), (3, .int (nI n))] [] (WX cI cE z0 g0 a0 f0 s0 k0 v0 d0 y0 m0 o0 g1 a1 a2 f1 f2 s1 eA tA oA k1 eK tK oK v1 v2 v3 d1 d2 m1 m2 o1 o2 lx tl th ow co ro sl dth dow dco dro dsl thS owS coS roS slS nx sz thK owK coK roK slK nk zk kx kw ke sn ce se len en cd tk mk wg wn wa nw ab be ++ WM cI q0 q3 q4 q6 q7 q8 q9 q14 q15 q17 q18 q19 q23 q24 q25 roM coM slM snM tsM raM rrM rwM rnM umM bsM bhM kmM thM moM kxM kwM keM lxM rlM rgM ceM seM ahM mkM asM kpM) := by
        intro lx tl th ow co ro sl dth dow dco dro dsl thS owS coS roS slS nx sz thK owK coK roK slK nk zk kx kw ke sn ce se len en cd tk mk wg wn wa nw ab be roM coM slM snM tsM raM rrM rwM rnM umM bsM bhM kmM thM moM kxM kwM keM lxM rlM rgM ceM seM ahM mkM asM kpM hI
        refine J_iinc h (v := nI (n + 6)) (lv' := [(3, .int (nI (n + 6))), (0, .ref b), (1, .ref z0), (2, .ref q0)]) dL_law_1034 3 rfl (inc_ok _ 6) (by decide) rfl ?_
        refine J_goto h 18 dL_law_1037 (by decide) ?_
        refine J.loc [1, 2, 3, 0] (lv' := [(0, .ref b), (1, .ref z0), (2, .ref q0), (3, .int (nI (n + 6)))]) rfl ?_
        exact ih (n + 6) hI (fun z => absurd z (by omega)) (by omega) (by omega)
      generalize xi n &&& nI 31 = sv
      have hsw : sv.toInt = 0 ∨ sv.toInt = 1 ∨ sv.toInt = 2 ∨ sv.toInt = 3 ∨ sv.toInt = 4 ∨ sv.toInt = 5 ∨ sv.toInt = 6 ∨ sv.toInt = 7 ∨ sv.toInt = 8 ∨ sv.toInt = 9 ∨ sv.toInt = 10 ∨ sv.toInt = 11 ∨ sv.toInt = 12 ∨ sv.toInt = 13 ∨ sv.toInt = 14 ∨ sv.toInt = 15 ∨ sv.toInt = 16 ∨ sv.toInt = 17 ∨ sv.toInt = 18 ∨ sv.toInt = 19 ∨ sv.toInt = 20 ∨ sv.toInt = 21 ∨ sv.toInt = 22 ∨ sv.toInt = 23 ∨ sv.toInt = 24 ∨ sv.toInt = 25 ∨ sv.toInt = 26 ∨ sv.toInt = 27 ∨ (sv.toInt < 0 ∨ 27 < sv.toInt) := by omega
      rcases hsw with hsw | hsw | hsw | hsw | hsw | hsw | hsw | hsw | hsw | hsw | hsw | hsw | hsw | hsw | hsw | hsw | hsw | hsw | hsw | hsw | hsw | hsw | hsw | hsw | hsw | hsw | hsw | hsw | hsw
      · refine J_tabIn h (off := 127) 160 dL_law_33 (by omega) (by omega) (by rw [hsw]; decide +kernel) (by decide) ?_
        exact lc_0 X h hX hbl hbA hL hn6 hcont hI
      · refine J_tabIn h (off := 150) 183 dL_law_33 (by omega) (by omega) (by rw [hsw]; decide +kernel) (by decide) ?_
        exact lc_1 X h hX hbl hbA hL hn6 hcont hI
      · refine J_tabIn h (off := 163) 196 dL_law_33 (by omega) (by omega) (by rw [hsw]; decide +kernel) (by decide) ?_
        exact lc_2 X h hX hbl hbA hL hn6 hcont hI
      · refine J_tabIn h (off := 176) 209 dL_law_33 (by omega) (by omega) (by rw [hsw]; decide +kernel) (by decide) ?_
        exact lc_3 X h hX hbl hbA hL hn6 hcont hI
      · refine J_tabIn h (off := 189) 222 dL_law_33 (by omega) (by omega) (by rw [hsw]; decide +kernel) (by decide) ?_
        exact lc_4 X h hX hbl hbA hL hn6 hcont hI
      · refine J_tabIn h (off := 222) 255 dL_law_33 (by omega) (by omega) (by rw [hsw]; decide +kernel) (by decide) ?_
        exact lc_5 X h hX hbl hbA hL hn6 hcont hI
      · refine J_tabIn h (off := 265) 298 dL_law_33 (by omega) (by omega) (by rw [hsw]; decide +kernel) (by decide) ?_
        exact lc_6 X h hX hbl hbA hL hn6 hcont hI
      · refine J_tabIn h (off := 328) 361 dL_law_33 (by omega) (by omega) (by rw [hsw]; decide +kernel) (by decide) ?_
        exact lc_7 X h hX hbl hbA hL hn6 hcont hI
      · refine J_tabIn h (off := 351) 384 dL_law_33 (by omega) (by omega) (by rw [hsw]; decide +kernel) (by decide) ?_
        exact lc_8 X h hX hbl hbA hL hn6 hcont hI
      · refine J_tabIn h (off := 404) 437 dL_law_33 (by omega) (by omega) (by rw [hsw]; decide +kernel) (by decide) ?_
        exact lc_9 X h hX hbl hbA hL hn6 hcont hI
      · refine J_tabIn h (off := 437) 470 dL_law_33 (by omega) (by omega) (by rw [hsw]; decide +kernel) (by decide) ?_
        exact lc_10 X h hX hbl hbA hL hn6 hcont hI
      · refine J_tabIn h (off := 470) 503 dL_law_33 (by omega) (by omega) (by rw [hsw]; decide +kernel) (by decide) ?_
        exact lc_11 X h hX hbl hbA hL hn6 hcont hI
      · refine J_tabIn h (off := 493) 526 dL_law_33 (by omega) (by omega) (by rw [hsw]; decide +kernel) (by decide) ?_
        exact lc_12 X h hX hbl hbA hL hn6 hcont hI
      · refine J_tabIn h (off := 506) 539 dL_law_33 (by omega) (by omega) (by rw [hsw]; decide +kernel) (by decide) ?_
        exact lc_13 X h hX hbl hbA hL hn6 hcont hI
      · refine J_tabIn h (off := 529) 562 dL_law_33 (by omega) (by omega) (by rw [hsw]; decide +kernel) (by decide) ?_
        exact lc_14 X h hX hbl hbA hL hn6 hcont hI
      · refine J_tabIn h (off := 562) 595 dL_law_33 (by omega) (by omega) (by rw [hsw]; decide +kernel) (by decide) ?_
        exact lc_15 X h hX hbl hbA hL hn6 hcont hI
      · refine J_tabIn h (off := 605) 638 dL_law_33 (by omega) (by omega) (by rw [hsw]; decide +kernel) (by decide) ?_
        exact lc_16 X h hX hbl hbA hL hn6 hcont hI
      · refine J_tabIn h (off := 658) 691 dL_law_33 (by omega) (by omega) (by rw [hsw]; decide +kernel) (by decide) ?_
        exact lc_17 X h hX hbl hbA hL hn6 hcont hI
      · refine J_tabIn h (off := 681) 714 dL_law_33 (by omega) (by omega) (by rw [hsw]; decide +kernel) (by decide) ?_
        exact lc_18 X h hX hbl hbA hL hn6 hcont hI
      · refine J_tabIn h (off := 724) 757 dL_law_33 (by omega) (by omega) (by rw [hsw]; decide +kernel) (by decide) ?_
        exact lc_19 X h hX hbl hbA hL hn6 hcont hI
      · refine J_tabIn h (off := 767) 800 dL_law_33 (by omega) (by omega) (by rw [hsw]; decide +kernel) (by decide) ?_
        exact lc_20 X h hX hbl hbA hL hn6 hcont hI
      · refine J_tabIn h (off := 780) 813 dL_law_33 (by omega) (by omega) (by rw [hsw]; decide +kernel) (by decide) ?_
        exact lc_21 X h hX hbl hbA hL hn6 hcont hI
      · refine J_tabIn h (off := 803) 836 dL_law_33 (by omega) (by omega) (by rw [hsw]; decide +kernel) (by decide) ?_
        exact lc_22 X h hX hbl hbA hL hn6 hcont hI
      · refine J_tabIn h (off := 846) 879 dL_law_33 (by omega) (by omega) (by rw [hsw]; decide +kernel) (by decide) ?_
        exact lc_23 X h hX hbl hbA hL hn6 hcont hI
      · refine J_tabIn h (off := 909) 942 dL_law_33 (by omega) (by omega) (by rw [hsw]; decide +kernel) (by decide) ?_
        exact lc_24 X h hX hbl hbA hL hn6 hcont hI
      · refine J_tabIn h (off := 952) 985 dL_law_33 (by omega) (by omega) (by rw [hsw]; decide +kernel) (by decide) ?_
        exact lc_25 X h hX hbl hbA hL hn6 hcont hI
      · refine J_tabIn h (off := 965) 998 dL_law_33 (by omega) (by omega) (by rw [hsw]; decide +kernel) (by decide) ?_
        exact lc_26 X h hX hbl hbA hL hn6 hcont hI
      · refine J_tabIn h (off := 978) 1011 dL_law_33 (by omega) (by omega) (by rw [hsw]; decide +kernel) (by decide) ?_
        exact lc_27 X h hX hbl hbA hL hn6 hcont hI
      · refine J_tabOut h 1034 dL_law_33 hsw (by decide) ?_
        exact hcont hI
