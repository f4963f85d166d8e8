/-! ## the class lets come, puts, gives a speed -/
/-- rows alike in what is covered -/
def rCs (a b : RW) : Prop := b 1 = a 1 ∧ ∀ s j : Nat, s < 60 → 2 ≤ j → j ≤ 4 → b (6 + 7 * s + j) = a (6 + 7 * s + j)
theorem CC.cs {a b : RW} {M M' : xv_M} (h : CC a M) (k : rCs a b) (hn : rn a ≤ 60) (hJ : ∀ j, xv_J M' 32 j = xv_J M 32 j) : CC b M' := fun x hx s hs => by
  have en : rn b = rn a := by show (b 1).toNat = (a 1).toNat; rw [k.1]
  rw [hJ, h x hx s hs, en]
  by_cases hl : s < rn a
  · unfold rCov
    rw [k.2 s 4 (by omega) (by omega) (by omega), k.2 s 2 (by omega) (by omega) (by omega), k.2 s 3 (by omega) (by omega) (by omega)]
  · simp [hl]
theorem TR.cs {a b : RW} {M M' : xv_M} (h : TR a M) (k : rCs a b) (hn : rn a ≤ 60) (hI : ∀ r j, 34 ≤ r → r ≤ 37 → xv_I M' r j = xv_I M r j) : TR b M' := by
  obtain ⟨t1, t2, t3⟩ := h
  have en : rn b = rn a := by show (b 1).toNat = (a 1).toNat; rw [k.1]
  have f2 : ∀ s, s < 60 → rF b s = rF a s := fun s hs => k.2 s 2 hs (by omega) (by omega)
  have f3 : ∀ s, s < 60 → rG b s = rG a s := fun s hs => k.2 s 3 hs (by omega) (by omega)
  have f4 : ∀ s, s < 60 → b (6 + 7 * s + 4) = a (6 + 7 * s + 4) := fun s hs => k.2 s 4 hs (by omega) (by omega)
  refine ⟨fun s hs ht => ?_, fun x hx => ?_, fun x hx => ?_⟩
  · rw [en] at hs
    rw [f4 s (by omega)] at ht
    rw [hI 34 s (by omega) (by omega), hI 35 s (by omega) (by omega), f2 s (by omega), f3 s (by omega)]
    exact t1 s hs ht
  · rw [hI 36 x (by omega) (by omega), t2 x hx, en, xct_cg (fun s hs => ?_)]
    rw [f2 s (by omega), f3 s (by omega), f4 s (by omega)]
  · rw [hI 37 x (by omega) (by omega)]
    obtain ⟨b1, b2⟩ := t3 x hx
    refine ⟨b1, b2.trans ⟨?_, ?_⟩⟩
    · rintro ⟨s, q1, q2, q3⟩
      exact ⟨s, by rw [en]; exact q1, by rw [f4 s (by omega)]; exact q2, by rw [f2 s (by omega), f3 s (by omega)]; exact q3⟩
    · rintro ⟨s, q1, q2, q3⟩
      rw [en] at q1
      exact ⟨s, q1, by rw [← f4 s (by omega)]; exact q2, by rw [← f2 s (by omega), ← f3 s (by omega)]; exact q3⟩
/-- the line, its state exchanged for one that covers the same -/
theorem LN.st {a b : RW} {M M' : xv_M} (h : LN a M) (k : rCs a b) (hn : rn a ≤ 60) (hO : xl_OK M') (hS : SB 3 b M') (s : Sm 31 38 M M') : LN b M' := by
  obtain ⟨cb, ci⟩ := SB.cb hO hS
  exact ⟨cb, ci, h.2.2.1.cs k hn (fun j => (s 32 j (by omega) (by omega)).2), h.2.2.2.cs k hn (fun r j h1 h2 => (s r j (by omega) (by omega)).1)⟩
theorem SB_com {M M' : xv_M} {a : RW} {p v : Int} (hS : SB 3 a M) (q : rRQ a) (h6 : a 2 < 6) (hf : Sm 3 10 M M') (hf2 : Sm 14 30 M M') (hz : xv_I M' 11 0 = a 2 + 1) (e12 : ∀ j, xv_I M' 12 j = if j = rm a then p else xv_I M 12 j) (e13 : ∀ j, xv_I M' 13 j = if j = rm a then v else xv_I M 13 j) : SB 3 (rComB a p v) M' := by
  have em2 := rComB_m q.1 (p := p) (v := v)
  have emm := q.1.em
  have hm : rm a < 6 := by omega
  have hn := q.1.n
  obtain ⟨t, ss, ⟨w1, w2, w3⟩, sl, se, si, sz⟩ := hS
  have o : ∀ i, i ≠ 2 → ¬ (426 + 6 * rm a ≤ i ∧ i < 426 + 6 * rm a + 6) → ¬ (462 + 60 * rm a ≤ i ∧ i < 462 + 60 * rm a + 60) → rComB a p v i = a i := fun i h1 h2 h3 => rComB_n h1 h2 h3
  have o1 := o 1 (by omega) (by omega) (by omega)
  have en : rn (rComB a p v) = rn a := by show (rComB a p v 1).toNat = (a 1).toNat; rw [o1]
  refine ⟨?_, ?_, ⟨?_, fun w hw => ?_, fun w hw hr => ?_⟩, ?_, fun w s q1 q2 q3 => ?_, fun w hw s hs => ?_, fun w hw hr => ?_⟩
  · rw [(hf 3 0 (by omega) (by omega)).1, o 0 (by omega) (by omega) (by omega)]; exact t
  · exact (SBs.row ss o1 (fun s j q1 q2 => o _ (by omega) (by omega) (by omega)) hn).sm (hf.sub (by omega) (by omega))
  · show xv_I M' 11 0 = _
    rw [hz, rComB_2]
  · rw [em2] at hw
    show xv_I M' 12 w = _ ∧ xv_I M' 13 w = _ ∧ xv_I M' 15 w = _ ∧ xv_I M' 16 w = _ ∧ xv_I M' 17 w = _ ∧ xv_I M' 18 w = _
    rw [e12, e13, (hf2 15 w (by omega) (by omega)).1, (hf2 16 w (by omega) (by omega)).1, (hf2 17 w (by omega) (by omega)).1, (hf2 18 w (by omega) (by omega)).1]
    by_cases e : w = rm a
    · subst e
      obtain ⟨z1, z2, z3, z4⟩ := w3 (rm a) hm (Nat.le_refl _)
      rw [if_pos rfl, if_pos rfl, Nat.add_zero, rComB_p, rComB_v, rComB_f (by omega), rComB_f (by omega), rComB_f (by omega), rComB_f (by omega)]
      exact ⟨rfl, rfl, z1, z2, z3, z4⟩
    · rw [if_neg e, if_neg e, o _ (by omega) (by omega) (by omega), o _ (by omega) (by omega) (by omega), o _ (by omega) (by omega) (by omega), o _ (by omega) (by omega) (by omega), o _ (by omega) (by omega) (by omega), o _ (by omega) (by omega) (by omega)]
      exact w2 w (by omega)
  · rw [em2] at hr
    show xv_I M' 15 w = 0 ∧ xv_I M' 16 w = 0 ∧ xv_I M' 17 w = 0 ∧ xv_I M' 18 w = 0
    rw [(hf2 15 w (by omega) (by omega)).1, (hf2 16 w (by omega) (by omega)).1, (hf2 17 w (by omega) (by omega)).1, (hf2 18 w (by omega) (by omega)).1]
    exact w3 w hw (by omega)
  · exact (SBl.row sl (o 5 (by omega) (by omega) (by omega)) (fun i hi => o _ (by omega) (by omega) (by omega))).sm (hf2.sub (by omega) (by omega))
  · rw [em2] at q1
    rw [en] at q2
    rw [(hf2 (3 + 17 + w) s (by omega) (by omega)).1]
    by_cases e : w = rm a
    · subst e
      rw [rComB_i hm (by omega)] at q3
      omega
    · rw [o _ (by omega) (by omega) (by omega)] at q3 ⊢
      exact se w s (by omega) q2 q3
  · rw [em2] at hw
    rw [(hf2 (3 + 11) w (by omega) (by omega)).2, en]
    by_cases e : w = rm a
    · subst e
      show xb (xv_J M 14 (rm a)) s = _
      rw [show xv_J M 14 (rm a) = 0 from sz (rm a) hm (Nat.le_refl _), xb_0]
      by_cases hl : s < rn a
      · rw [rComB_i hm (by omega)]
        simp
      · simp [hl]
    · rw [si w (by omega) s hs]
      by_cases hl : s < rn a
      · rw [o _ (by omega) (by omega) (by omega)]
      · simp [hl]
  · rw [em2] at hr
    rw [(hf2 (3 + 11) w (by omega) (by omega)).2]
    exact sz w hw (by omega)
theorem rAll_com {a : RW} (g : rRW a) (h6 : a 2 < 6) {p v : Int} : (rAll (rComB a p v)).2 = (rChg (rComB a p v) (rm a)).2 := by
  have em := rComB_m g.1.1 (p := p) (v := v)
  have hs := rSyn_com g h6 (p := p) (v := v)
  have e0 : rAllN (rComB a p v) (rm a) = (0, rComB a p v) := rAllN_same _ (fun w s hw hs' => hs w s (by rw [em]; omega) (by omega) hs')
  show (rAllN (rComB a p v) (rm (rComB a p v))).2 = _
  rw [em]
  show (rChg (rAllN (rComB a p v) (rm a)).2 (rm a)).2 = _
  rw [e0]
theorem xm_addWalker (hbc : BC) {M : xv_M} {a : RW} (h : LN a M) (g : rRW a) (h6 : a 2 < 6) {p v : Int} (hp : 0 ≤ p ∧ p ≤ 1000) (hv : -50 ≤ v ∧ v ≤ 50) : ∃ M', D_X2_addWalker 2 p v M = some (a 2, M') ∧ LN (rChg (rComB a p v) (rm a)).2 M' ∧ Sm 39 1000 M M' ∧ FQ M M' := by
  have hO := h.1.1
  have qb := rRQ_com g.1 h6 hp hv
  have hz : xv_I M 11 0 = a 2 := h.1.2.2.2.1.1
  have g2 := g.1.1.2.2.1
  have im : (a 2).toNat = rm a := rfl
  obtain ⟨M1, hM1⟩ : ∃ M1 : xv_M, M1 = xv_sI M 11 0 (a 2 + 1) := ⟨_, rfl⟩
  obtain ⟨M2, hM2⟩ : ∃ M2 : xv_M, M2 = xv_sI M1 12 (rm a) p := ⟨_, rfl⟩
  obtain ⟨M3, hM3⟩ : ∃ M3 : xv_M, M3 = xv_sI M2 13 (rm a) v := ⟨_, rfl⟩
  have o1 : xl_OK M1 := by rw [hM1]; exact hO
  have o2 : xl_OK M2 := by rw [hM2]; exact o1
  have o3 : xl_OK M3 := by rw [hM3]; exact o2
  have d1 : D_X9_append 11 p v M = some (a 2, M3) := by
    unfold D_X9_append
    rw [xg_11_0 hO, hz, xe_cmp (by omega) (by omega) (by decide) (by decide), if_pos h6, xg_11_0 hO, hz, xg_11_0 hO, hz, xu_11_0 hO, ← hM1, xg_11_1 o1, xw_12 o1 (by omega) (by omega), im, ← hM2, xg_11_2 o2, xw_13 o2 (by omega) (by omega), im, ← hM3]
  have f1 : ∀ x y, (y < 11 ∨ 14 ≤ x) → Sm x y M M3 := fun x y hx => by
    have a1 : Sm x y M M1 := by rw [hM1]; exact Sm.sI (by omega)
    have a2 : Sm x y M1 M2 := by rw [hM2]; exact Sm.sI (by omega)
    have a3 : Sm x y M2 M3 := by rw [hM3]; exact Sm.sI (by omega)
    exact (a1.tr a2).tr a3
  have s1 : SB 3 (rComB a p v) M3 := by
    refine SB_com (h.1.sb h.2.1) g.1 h6 (f1 _ _ (by omega)) (f1 _ _ (by omega)) ?_ (fun j => ?_) (fun j => ?_)
    · rw [hM3, xe_I_sI, if_neg (by omega), hM2, xe_I_sI, if_neg (by omega), hM1, xe_I_sI, if_pos ⟨rfl, rfl⟩]
    · rw [hM3, xe_I_sI, if_neg (by omega), hM2, xe_I_sI]
      by_cases e : j = rm a
      · rw [if_pos ⟨rfl, e⟩, if_pos e]
      · rw [if_neg (fun z => e z.2), if_neg e, hM1, xe_I_sI, if_neg (by omega)]
    · rw [hM3, xe_I_sI]
      by_cases e : j = rm a
      · rw [if_pos ⟨rfl, e⟩, if_pos e]
      · rw [if_neg (fun z => e z.2), if_neg e, hM2, xe_I_sI, if_neg (by omega), hM1, xe_I_sI, if_neg (by omega)]
  have hcs : rCs a (rComB a p v) := ⟨rComB_n (by omega) (by omega) (by omega), fun s j q1 q2 q3 => rComB_n (by omega) (by omega) (by omega)⟩
  have l1 : LN (rComB a p v) M3 := h.st hcs g.1.1.n o3 s1 (f1 _ _ (by omega))
  obtain ⟨M4, d4, l4, f4, p4⟩ := xm_tellAll2 hbc l1 qb
  rw [rAll_com g h6] at l4
  refine ⟨M4, ?_, l4, (f1 _ _ (by omega)).tr f4, (PS_X9_append (fq0 hO) _ _ d1).tr p4⟩
  unfold D_X2_addWalker
  rw [xg_2_0 hO, xg_3_2 hO, xr_11 hO, d1, xe_call, xr_2 o3, d4, xe_call]
theorem xc_come (hbc : BC) {a H : RW} {k : Nat} {M : xv_M} (h : CLh a H k M) {p v : Int} (hp : iR p) (hv : iR v) : ∃ M', D_X11_come 1 p v M = some ((rComA a p v).1, M') ∧ CAct a H k M M' (rComA a p v).2 := by
  have hO := h.1.1.1
  have g := h.2.1
  have hz : xv_I M 11 0 = a 2 := h.1.1.2.2.2.1.1
  have g2 := g.1.1.2.2.1
  unfold D_X11_come rComA
  rw [xm_isPlace hp, xe_call, xe_b0]
  by_cases c1 : 0 ≤ p ∧ p ≤ 1000
  · rw [if_pos c1, xm_isSpeed hv, xe_call, xe_b1]
    by_cases c2 : -50 ≤ v ∧ v ≤ 50
    · rw [if_pos c2, if_pos ⟨c1, c2⟩, xg_1_0 hO, xg_2_0 hO, xg_3_2 hO, xg_11_0 hO, hz, xe_cmp (by omega) (by omega) (by decide) (by decide)]
      by_cases c3 : a 2 = 6
      · rw [if_neg (by omega), if_pos c3]
        exact ⟨M, rfl, rfl⟩
      · rw [if_pos (by omega), if_neg c3]
        obtain ⟨M1, d1, rc, f1, _⟩ := xc_rec h
        have o1 := rc.1.1.1
        obtain ⟨M2, d2, l2, s2, p2⟩ := xm_addWalker hbc rc.1 g (by omega) c1 c2
        obtain ⟨cl, fr⟩ := xc_fin rc h.2.2.2.1 l2 (rRW_com g (by omega) c1 c2) s2 p2
        refine ⟨M2, ?_, cl, f1.tr fr⟩
        rw [xg_1_1 hO, xg_1_0 hO, xg_2_0 hO, xr_39 hO, d1, xe_call, xg_1_0 o1, xr_2 o1, d2, xe_call]
    · rw [if_neg c2, if_neg (fun z => c2 z.2)]
      exact ⟨M, rfl, rfl⟩
  · rw [if_neg c1, if_neg (fun z => c1 z.1)]
    exact ⟨M, rfl, rfl⟩
/-- a walker's numbers change -/
theorem SB_wk {M M' : xv_M} {a b : RW} {w : Nat} (hS : SB 3 a M) (q : rRQ a) (hw : w < rm a) (hb : ∀ i, ¬ (i = 426 + 6 * w + 0 ∨ i = 426 + 6 * w + 1 ∨ i = 426 + 6 * w + 4 ∨ i = 426 + 6 * w + 5) → b i = a i)
    (hf : ∀ r j, ¬ ((r = 12 ∨ r = 13 ∨ r = 17 ∨ r = 18) ∧ j = w) → xv_I M' r j = xv_I M r j) (hJ : ∀ r j, xv_J M' r j = xv_J M r j)
    (e0 : xv_I M' 12 w = b (426 + 6 * w + 0)) (e1 : xv_I M' 13 w = b (426 + 6 * w + 1)) (e4 : xv_I M' 17 w = b (426 + 6 * w + 4)) (e5 : xv_I M' 18 w = b (426 + 6 * w + 5)) : SB 3 b M' := by
  have hm := q.1.m
  have hn := q.1.n
  obtain ⟨t, ss, ⟨w1, w2, w3⟩, sl, se, si, sz⟩ := hS
  have o1 := hb 1 (by omega)
  have o2 := hb 2 (by omega)
  have en : rn b = rn a := by show (b 1).toNat = (a 1).toNat; rw [o1]
  have em : rm b = rm a := by show (b 2).toNat = (a 2).toNat; rw [o2]
  have sm : ∀ x y, (y < 12 ∨ (14 ≤ x ∧ y ≤ 16) ∨ 19 ≤ x) → Sm x y M M' := fun x y hx r j q1 q2 => ⟨hf r j (by omega), hJ r j⟩
  refine ⟨?_, ?_, ⟨?_, fun v hv => ?_, fun v hv hr => ?_⟩, ?_, ?_, fun v hv s hs => ?_, fun v hv hr => ?_⟩
  · rw [hf 3 0 (by omega), hb 0 (by omega)]; exact t
  · exact (SBs.row ss o1 (fun s j q1 q2 => hb _ (by omega)) hn).sm (sm _ _ (by omega))
  · show xv_I M' 11 0 = _
    rw [hf 11 0 (by omega), o2]; exact w1
  · rw [em] at hv
    obtain ⟨r1, r2, r3, r4, r5, r6⟩ := w2 v hv
    show xv_I M' 12 v = _ ∧ xv_I M' 13 v = _ ∧ xv_I M' 15 v = _ ∧ xv_I M' 16 v = _ ∧ xv_I M' 17 v = _ ∧ xv_I M' 18 v = _
    rw [hf 15 v (by omega), hf 16 v (by omega), hb (426 + 6 * v + 2) (by omega), hb (426 + 6 * v + 3) (by omega)]
    by_cases e : v = w
    · subst e
      exact ⟨e0, e1, r3, r4, e4, e5⟩
    · rw [hf 12 v (by omega), hf 13 v (by omega), hf 17 v (by omega), hf 18 v (by omega), hb _ (by omega), hb _ (by omega), hb _ (by omega), hb _ (by omega)]
      exact ⟨r1, r2, r3, r4, r5, r6⟩
  · rw [em] at hr
    show xv_I M' 15 v = 0 ∧ xv_I M' 16 v = 0 ∧ xv_I M' 17 v = 0 ∧ xv_I M' 18 v = 0
    rw [hf 15 v (by omega), hf 16 v (by omega), hf 17 v (by omega), hf 18 v (by omega)]
    exact w3 v hv hr
  · exact (SBl.row sl (hb 5 (by omega)) (fun i hi => hb _ (by omega))).sm (sm _ _ (by omega))
  · exact (SBe.row se o1 o2 (fun v s q1 q2 q3 => hb _ (by omega))).sm (sm _ _ (by omega)) (by rw [em]; exact hm)
  · rw [em] at hv
    rw [hJ, si v hv s hs, en]
    by_cases hl : s < rn a
    · rw [hb _ (by omega)]
    · simp [hl]
  · rw [em] at hr
    rw [hJ]
    exact sz v hv hr
theorem xm_putWalker (hbc : BC) {M : xv_M} {a : RW} (h : LN a M) (g : rRW a) {w : Nat} (hw : w < rm a) {p : Int} (hp : 0 ≤ p ∧ p ≤ 1000) : ∃ M', D_X2_putWalker 2 (w : Int) p M = some ((rChg (up1 a (426 + 6 * w + 0) p) w).1, M') ∧ LN (rChg (up1 a (426 + 6 * w + 0) p) w).2 M' ∧ Sm 39 1000 M M' ∧ FQ M M' := by
  have hO := h.1.1
  have hm := g.1.1.m
  have hn := g.1.1.n
  have q := rRQ_wk g.1 hw (Or.inl rfl) (v := p) ⟨fun _ => hp, fun z => absurd z (by decide)⟩
  obtain ⟨M1, hM1⟩ : ∃ M1 : xv_M, M1 = xv_sI M 12 w p := ⟨_, rfl⟩
  have o1 : xl_OK M1 := by rw [hM1]; exact hO
  obtain ⟨r1, r2, r3, r4, r5, r6⟩ := h.1.2.2.2.1.2.1 w hw
  have f1 : ∀ x y, (y < 12 ∨ 13 ≤ x) → Sm x y M M1 := fun x y hx => by rw [hM1]; exact Sm.sI (by omega)
  have s1 : SB 3 (up1 a (426 + 6 * w + 0) p) M1 := by
    refine SB_wk (h.1.sb h.2.1) g.1 hw (fun i hi => up1_n (by omega)) (fun r j hr => ?_) (fun r j => by rw [hM1]; rfl) ?_ ?_ ?_ ?_
    · rw [hM1, xe_I_sI, if_neg (by omega)]
    · rw [hM1, xe_I_sI, if_pos ⟨rfl, rfl⟩, up1_s]
    · rw [hM1, xe_I_sI, if_neg (by omega), up1_n (by omega)]; exact r2
    · rw [hM1, xe_I_sI, if_neg (by omega), up1_n (by omega)]; exact r5
    · rw [hM1, xe_I_sI, if_neg (by omega), up1_n (by omega)]; exact r6
  have l1 : LN (up1 a (426 + 6 * w + 0) p) M1 := h.st ⟨up1_n (by omega), fun s j q1 q2 q3 => up1_n (by omega)⟩ hn o1 s1 (f1 _ _ (by omega))
  obtain ⟨M2, d2, l2, f2, p2⟩ := xm_tell2 hbc l1 q (w := w) (by show w < (up1 a (426 + 6 * w + 0) p 2).toNat; rw [up1_n (by omega)]; exact hw)
  have e : D_X2_putWalker 2 (w : Int) p M = some ((rChg (up1 a (426 + 6 * w + 0) p) w).1, M2) := by
    unfold D_X2_putWalker
    rw [xg_2_0 hO, xg_3_2 hO, xg_11_1 hO, xw_12 hO (by omega) (by omega), Int.toNat_natCast, ← hM1, xr_2 o1, d2, xe_call]
  exact ⟨M2, e, l2, (f1 _ _ (by omega)).tr f2, PS_X2_putWalker (fq0 hO) _ _ e⟩
theorem xc_put (hbc : BC) {a H : RW} {k : Nat} {M : xv_M} (h : CLh a H k M) {x p : Int} (hx : iR x) (hp : iR p) : ∃ M', D_X11_put 1 x p M = some ((rPutA a x p).1, M') ∧ CAct a H k M M' (rPutA a x p).2 := by
  have hO := h.1.1.1
  have g := h.2.1
  have g2 := g.1.1.2.2.1
  have em := g.1.1.em
  have hm := g.1.1.m
  unfold D_X11_put rPutA
  rw [xg_1_0 hO, xg_2_0 hO, xg_3_2 hO, xr_11 hO, xm_has9 hO h.1.1.2.2.2.1 g2 hx, xe_call, xe_b1]
  by_cases c : 0 ≤ x ∧ x < a 2
  · rw [if_pos c, if_pos c, xm_isPlace hp, xe_call, xe_b1]
    obtain ⟨w, rfl⟩ : ∃ w : Nat, x = (w : Int) := ⟨x.toNat, by omega⟩
    rw [Int.toNat_natCast]
    have hw : w < rm a := by omega
    by_cases c2 : 0 ≤ p ∧ p ≤ 1000
    · have bw := (g.1.1.2.2.2.2.2.2 w hw).1
      have e12 : xv_I M 12 w = a (426 + 6 * w + 0) := (h.1.1.2.2.2.1.2.1 w hw).1
      rw [if_pos c2, if_pos c2, xg_11_1 hO, xa_12 hO (by omega) (by omega), Int.toNat_natCast, e12, xe_cmp (by rw [Nat.add_zero]; omega) (by rw [Nat.add_zero]; omega) (by omega) (by omega)]
      by_cases c3 : a (426 + 6 * w + 0) = p
      · rw [if_neg (fun z => z c3), if_pos c3]
        exact ⟨M, rfl, rfl⟩
      · rw [if_pos c3, if_neg c3]
        obtain ⟨M1, d1, rc, f1, _⟩ := xc_rec h
        have o1 := rc.1.1.1
        obtain ⟨M2, d2, l2, s2, p2⟩ := xm_putWalker hbc rc.1 g hw c2
        obtain ⟨cl, fr⟩ := xc_fin rc h.2.2.2.1 l2 (rRW_put g hw c2) s2 p2
        refine ⟨M2, ?_, cl, f1.tr fr⟩
        rw [xg_1_1 hO, xg_1_0 hO, xg_2_0 hO, xr_39 hO, d1, xe_call, xg_1_0 o1, xr_2 o1, d2, xe_call]
    · rw [if_neg c2, if_neg c2]
      exact ⟨M, rfl, rfl⟩
  · rw [if_neg c, if_neg c]
    exact ⟨M, rfl, rfl⟩
theorem xc_speed {a H : RW} {k : Nat} {M : xv_M} (h : CLh a H k M) {x v : Int} (hx : iR x) (hv : iR v) : ∃ M', D_X11_speed 1 x v M = some ((rSpdA a x v).1, M') ∧ CAct a H k M M' (rSpdA a x v).2 := by
  have hO := h.1.1.1
  have g := h.2.1
  have g2 := g.1.1.2.2.1
  have em := g.1.1.em
  have hm := g.1.1.m
  have hn := g.1.1.n
  unfold D_X11_speed rSpdA
  rw [xg_1_0 hO, xg_2_0 hO, xg_3_2 hO, xr_11 hO, xm_has9 hO h.1.1.2.2.2.1 g2 hx, xe_call, xe_b1]
  by_cases c : 0 ≤ x ∧ x < a 2
  · rw [if_pos c, if_pos c, xm_isSpeed hv, xe_call, xe_b1]
    obtain ⟨w, rfl⟩ : ∃ w : Nat, x = (w : Int) := ⟨x.toNat, by omega⟩
    rw [Int.toNat_natCast]
    have hw : w < rm a := by omega
    by_cases c2 : -50 ≤ v ∧ v ≤ 50
    · have bw := (g.1.1.2.2.2.2.2.2 w hw).2
      have e13 : xv_I M 13 w = a (426 + 6 * w + 1) := (h.1.1.2.2.2.1.2.1 w hw).2.1
      rw [if_pos c2, if_pos c2, xg_11_2 hO, xa_13 hO (by omega) (by omega), Int.toNat_natCast, e13, xe_cmp (by omega) (by omega) (by omega) (by omega)]
      by_cases c3 : a (426 + 6 * w + 1) = v
      · rw [if_neg (fun z => z c3), if_pos c3]
        exact ⟨M, rfl, rfl⟩
      · rw [if_pos c3, if_neg c3]
        obtain ⟨M1, d1, rc, f1, _⟩ := xc_rec h
        have o1 := rc.1.1.1
        obtain ⟨M2, hM2⟩ : ∃ M2 : xv_M, M2 = xv_sI M1 13 w v := ⟨_, rfl⟩
        have o2 : xl_OK M2 := by rw [hM2]; exact o1
        obtain ⟨r1, r2, r3, r4, r5, r6⟩ := rc.1.1.2.2.2.1.2.1 w hw
        have f2 : ∀ x y, (y < 13 ∨ 14 ≤ x) → Sm x y M1 M2 := fun x y hx => by rw [hM2]; exact Sm.sI (by omega)
        have s2 : SB 3 (up1 a (426 + 6 * w + 1) v) M2 := by
          refine SB_wk (rc.1.1.sb rc.1.2.1) g.1 hw (fun i hi => up1_n (by omega)) (fun r j hr => ?_) (fun r j => by rw [hM2]; rfl) ?_ ?_ ?_ ?_
          · rw [hM2, xe_I_sI, if_neg (by omega)]
          · rw [hM2, xe_I_sI, if_neg (by omega), up1_n (by omega)]; exact r1
          · rw [hM2, xe_I_sI, if_pos ⟨rfl, rfl⟩, up1_s]
          · rw [hM2, xe_I_sI, if_neg (by omega), up1_n (by omega)]; exact r5
          · rw [hM2, xe_I_sI, if_neg (by omega), up1_n (by omega)]; exact r6
        have l2 : LN (up1 a (426 + 6 * w + 1) v) M2 := rc.1.st ⟨up1_n (by omega), fun s j q1 q2 q3 => up1_n (by omega)⟩ hn o2 s2 (f2 _ _ (by omega))
        obtain ⟨cl, fr⟩ := xc_fin rc h.2.2.2.1 l2 (rRW_spd g hw c2) (f2 _ _ (by omega)) (by rw [hM2]; exact (fq0 o1).sI (by decide))
        refine ⟨M2, ?_, cl, f1.tr fr⟩
        rw [xg_1_1 hO, xg_1_0 hO, xg_2_0 hO, xr_39 hO, d1, xe_call, xg_11_2 o1, xw_13 o1 (by omega) (by omega), Int.toNat_natCast, ← hM2]
    · rw [if_neg c2, if_neg c2]
      exact ⟨M, rfl, rfl⟩
  · rw [if_neg c, if_neg c]
    exact ⟨M, rfl, rfl⟩
