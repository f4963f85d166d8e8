/-! ## the class's half of what is held; add, remove, move -/
theorem LN.fr {a : RW} {M M' : xv_M} (h : LN a M) (q : rGd a) (hO : xl_OK M') (s : Sm 3 38 M M') : LN a M' := by
  obtain ⟨cb, ci, cc, tr⟩ := h
  obtain ⟨cb', ci'⟩ := SB.cb hO ((cb.sb ci).fr q.n q.m (s.sub (by omega) (by omega)))
  refine ⟨cb', ci', fun x hx t ht => ?_, fun t h1 h2 => ?_, fun x hx => ?_, fun x hx => ?_⟩
  · rw [(s 32 x (by omega) (by omega)).2]; exact cc x hx t ht
  · rw [(s 34 t (by omega) (by omega)).1, (s 35 t (by omega) (by omega)).1]; exact tr.1 t h1 h2
  · rw [(s 36 x (by omega) (by omega)).1]; exact tr.2.1 x hx
  · rw [(s 37 x (by omega) (by omega)).1]; exact tr.2.2 x hx
def CLh (a H : RW) (k : Nat) (M : xv_M) : Prop := LN a M ∧ rRW a ∧ xv_I M 39 0 = (k : Int) ∧ k ≤ 4 ∧ HI H k M
def Fr (M M' : xv_M) : Prop := Sm 153 1000 M M' ∧ xv_I M' 1 5 = xv_I M 1 5
theorem Fr.rf {M : xv_M} : Fr M M := ⟨Sm.rf, rfl⟩
theorem Fr.tr {M M' M'' : xv_M} (h : Fr M M') (h2 : Fr M' M'') : Fr M M'' := ⟨h.1.tr h2.1, h2.2.trans h.2⟩
def CAct (a H : RW) (k : Nat) (M M' : xv_M) : Option RW → Prop
  | none => M' = M
  | some b => CLh b (hRec H k a) (hCnt k) M' ∧ Fr M M'
theorem hCnt_le {k : Nat} (hk : k ≤ 4) : hCnt k ≤ 4 := by unfold hCnt; split <;> omega
/-- recorded -/
def RC (a H : RW) (k : Nat) (M : xv_M) : Prop := LN a M ∧ xv_I M 39 0 = (hCnt k : Int) ∧ HI (hRec H k a) (hCnt k) M
theorem xc_rec {a H : RW} {k : Nat} {M : xv_M} (h : CLh a H k M) : ∃ M', D_X1_record 39 3 M = some ((), M') ∧ RC a H k M' ∧ Fr M M' ∧ Sm 1 38 M M' := by
  obtain ⟨ln, g, hk, hk4, hh⟩ := h
  obtain ⟨M', d, o, n, hh', s1, s2, p⟩ := xm_record ln.1.1 hk hk4 hh (ln.1.sb ln.2.1) g
  exact ⟨M', d, ⟨ln.fr g.1.1 o (s1.sub (by omega) (by omega)), n, hh'⟩, ⟨s2, (s1 1 5 (by omega) (by omega)).1⟩, s1⟩
theorem xc_fin {a b H : RW} {k : Nat} {M1 M2 : xv_M} (h : RC a H k M1) (hk : k ≤ 4) (l : LN b M2) (g : rRW b) (s : Sm 39 1000 M1 M2) (p : FQ M1 M2) : CLh b (hRec H k a) (hCnt k) M2 ∧ Fr M1 M2 := by
  obtain ⟨_, n, hh⟩ := h
  exact ⟨⟨l, g, (s 39 0 (by omega) (by omega)).1.trans n, hCnt_le hk, hh.fr (hCnt_le hk) p.1 (s.sub (by omega) (by omega))⟩, s.sub (by omega) (by omega), p.2.2.1⟩
theorem xm_has5 {M : xv_M} {a : RW} (h : xl_OK M) (hS : SBs 3 a M) (hn : 0 ≤ a 1 ∧ a 1 ≤ 60) {x : Int} (hx : iR x) : D_X5_has 4 x M = some (if 0 ≤ x ∧ x < a 1 ∧ a (6 + 7 * x.toNat + 4) = 1 then 1 else 0, M) := by
  have hz : xv_I M 4 0 = a 1 := hS.1
  have en : ((rn a : Nat) : Int) = a 1 := by show (((a 1).toNat : Nat) : Int) = a 1; omega
  unfold D_X5_has
  rw [xe_cmp hx.1 hx.2 (by decide) (by decide)]
  by_cases c1 : x < 0
  · rw [if_pos c1, if_neg (by omega), xe_g0]
  · rw [if_neg c1, xg_4_0 h, hz, xe_cmp hx.1 hx.2 (by omega) (by omega)]
    by_cases c2 : a 1 ≤ x
    · rw [if_pos c2, if_neg (by omega), xe_g0]
    · rw [if_neg c2]
      obtain ⟨s, rfl⟩ : ∃ s : Nat, x = (s : Int) := ⟨x.toNat, by omega⟩
      rw [Int.toNat_natCast, xr_4 h, xm_isThere h hS (by omega), xe_call, xe_b0]
      by_cases c3 : a (6 + 7 * s + 4) = 1
      · rw [if_pos ⟨by omega, c3⟩, if_pos ⟨by omega, by omega, c3⟩, xe_g1]
      · rw [if_neg (fun z => c3 z.2), if_neg (fun z => c3 z.2.2), xe_g0]
theorem xm_has9 {M : xv_M} {a : RW} (h : xl_OK M) (hS : SBw 3 a M) (hn : 0 ≤ a 2 ∧ a 2 ≤ 6) {x : Int} (hx : iR x) : D_X9_has 11 x M = some (if 0 ≤ x ∧ x < a 2 then 1 else 0, M) := by
  have hz : xv_I M 11 0 = a 2 := hS.1
  unfold D_X9_has
  rw [xe_cmp hx.1 hx.2 (by decide) (by decide)]
  by_cases c1 : x < 0
  · rw [if_pos c1, if_neg (by omega), xe_g0]
  · rw [if_neg c1, xg_11_0 h, hz, xe_cmp hx.1 hx.2 (by omega) (by omega)]
    by_cases c2 : a 2 ≤ x
    · rw [if_pos c2, if_neg (by omega), xe_g0]
    · rw [if_neg c2, if_pos (by omega), xe_g1]
theorem xc_add (hbc : BC) {a H : RW} {k : Nat} {M : xv_M} (h : CLh a H k M) {l r : Int} (hl : iR l) (hr : iR r) : ∃ M', D_X11_add 1 l r M = some ((rAddA a l r).1, M') ∧ CAct a H k M M' (rAddA a l r).2 := by
  have hO := h.1.1.1
  have g := h.2.1
  have hz : xv_I M 4 0 = a 1 := h.1.1.2.2.1.1
  have g1 := g.1.1.2.1
  unfold D_X11_add rAddA
  rw [xm_isPlace hl, xe_call, xe_b0]
  by_cases c1 : 0 ≤ l ∧ l ≤ 1000
  · rw [if_pos c1, xm_isPlace hr, xe_call, xe_b0]
    by_cases c2 : 0 ≤ r ∧ r ≤ 1000
    · rw [if_pos c2, xe_cmp hr.1 hr.2 hl.1 hl.2]
      by_cases c3 : l ≤ r
      · rw [if_pos c3, if_pos ⟨c1, c3, c2.2⟩, xg_1_0 hO, xg_2_0 hO, xg_3_1 hO, xg_4_0 hO, hz, xe_cmp (by omega) (by omega) (by decide) (by decide)]
        by_cases c4 : a 1 = 60
        · rw [if_neg (by omega), if_pos c4]
          exact ⟨M, rfl, rfl⟩
        · rw [if_pos (by omega), if_neg c4]
          obtain ⟨M1, d1, rc, f1, _⟩ := xc_rec h
          have o1 := rc.1.1.1
          obtain ⟨M2, d2, l2, s2, p2⟩ := xm_addSpan hbc rc.1 g.1 (by omega) (l := l) (r := r) (lb := 1) (rb := 1) (Or.inr rfl) (Or.inr rfl) (by rw [if_neg (by decide), if_neg (by decide)]; omega)
          rw [if_neg (by decide), if_neg (by decide)] at l2
          obtain ⟨cl, fr⟩ := xc_fin rc h.2.2.2.1 l2 (rRW_adds g.1 (by omega) (by omega)) s2 p2
          refine ⟨M2, ?_, cl, f1.tr fr⟩
          rw [xg_1_1 hO, xg_1_0 hO, xg_2_0 hO, xr_39 hO, d1, xe_call, xg_1_0 o1, xr_2 o1, d2, xe_call]
      · rw [if_neg c3, if_neg (fun z => c3 z.2.1)]
        exact ⟨M, rfl, rfl⟩
    · rw [if_neg c2, if_neg (by omega)]
      exact ⟨M, rfl, rfl⟩
  · rw [if_neg c1, if_neg (fun z => c1 z.1)]
    exact ⟨M, rfl, rfl⟩
theorem SB_rem {M M' : xv_M} {a : RW} {s : Nat} (hS : SB 3 a M) (q : rRQ a) (hs : s < rn a)
    (hf : Sm 5 30 M M') (h3 : xv_I M' 3 0 = xv_I M 3 0) (hz : xv_I M' 4 0 = xv_I M 4 0) (hb : ∀ t, t < 64 → xb (xv_J M' 4 1) t = (xb (xv_J M 4 1) t && !decide (t = s))) : SB 3 (up1 a (6 + 7 * s + 4) 0) M' := by
  have hm := q.1.m
  have hn := q.1.n
  obtain ⟨t, ⟨s1, s2, s3, s4⟩, sw, sl, se, si, sz⟩ := hS
  have o : ∀ i, i ≠ 6 + 7 * s + 4 → up1 a (6 + 7 * s + 4) 0 i = a i := fun i hi => up1_n hi
  have o1 := o 1 (by omega)
  have o2 := o 2 (by omega)
  have en : rn (up1 a (6 + 7 * s + 4) 0) = rn a := by show (up1 a (6 + 7 * s + 4) 0 1).toNat = (a 1).toNat; rw [o1]
  have em : rm (up1 a (6 + 7 * s + 4) 0) = rm a := by show (up1 a (6 + 7 * s + 4) 0 2).toNat = (a 2).toNat; rw [o2]
  refine ⟨?_, ⟨?_, fun x hx => ?_, fun x hx => ?_, fun x hx hr => ?_⟩, ?_, ?_, ?_, fun w hw x hx => ?_, fun w hw hr => ?_⟩
  · rw [h3, o 0 (by omega)]; exact t
  · show xv_I M' 4 0 = _
    rw [hz, o1]; exact s1
  · show xb (xv_J M' 4 1) x = _
    rw [hb x hx, s2 x hx, en]
    by_cases e : x = s
    · subst e
      rw [up1_s]
      simp
    · by_cases hl : x < rn a
      · rw [o _ (by omega)]
        simp [e]
      · simp [hl]
  · rw [en] at hx
    have := s3 x hx
    rw [o _ (by omega), o _ (by omega), o _ (by omega), o _ (by omega), o _ (by omega), o _ (by omega)]
    rw [(hf (3 + 2) x (by omega) (by omega)).1, (hf (3 + 3) x (by omega) (by omega)).1, (hf (3 + 4) x (by omega) (by omega)).1, (hf (3 + 5) x (by omega) (by omega)).1, (hf (3 + 6) x (by omega) (by omega)).1, (hf (3 + 7) x (by omega) (by omega)).1]
    exact this
  · rw [en] at hr
    rw [(hf (3 + 6) x (by omega) (by omega)).1, (hf (3 + 7) x (by omega) (by omega)).1]
    exact s4 x hx hr
  · exact (SBw.row sw o2 (fun w j q1 q2 => o _ (by omega)) hm).sm (hf.sub (by omega) (by omega))
  · exact (SBl.row sl (o 5 (by omega)) (fun i hi => o _ (by omega))).sm (hf.sub (by omega) (by omega))
  · exact (SBe.row se o1 o2 (fun w x q1 q2 q3 => o _ (by omega))).sm (hf.sub (by omega) (by omega)) (by rw [em]; exact hm)
  · rw [em] at hw
    rw [(hf (3 + 11) w (by omega) (by omega)).2, si w hw x hx, en]
    by_cases hl : x < rn a
    · rw [o _ (by omega)]
    · simp [hl]
  · rw [em] at hr
    rw [(hf (3 + 11) w (by omega) (by omega)).2]
    exact sz w hw hr
theorem xm_removeSpan (hbc : BC) {M : xv_M} {a : RW} (h : LN a M) (q : rRQ a) {s : Nat} (hs : s < rn a) : ∃ M', D_X2_removeSpan 2 (s : Int) M = some ((rAll (up1 a (6 + 7 * s + 4) 0)).1, M') ∧ LN (rAll (up1 a (6 + 7 * s + 4) 0)).2 M' ∧ Sm 39 1000 M M' ∧ FQ M M' := by
  have hO := h.1.1
  have hn := q.1.n
  have qb := rRQ_rem q hs
  obtain ⟨M1, hM1⟩ : ∃ M1 : xv_M, M1 = xv_sJ M 4 1 (xv_J M 4 1 &&& (((1 : Int64) <<< ((Int32.ofInt (s : Int)).toInt64 &&& 63)) ^^^ (-1 : Int64))) := ⟨_, rfl⟩
  have o1 : xl_OK M1 := by rw [hM1]; exact hO
  have d1 : D_X5_takeAway 4 (s : Int) M = some ((), M1) := by
    unfold D_X5_takeAway
    rw [xg_4_1 hO, xu_4_1 hO, ← hM1]
  have f1 : ∀ x y, 5 ≤ x → Sm x y M M1 := fun x y hx => by rw [hM1]; exact Sm.sJ (by omega)
  have s1 : SB 3 (up1 a (6 + 7 * s + 4) 0) M1 := by
    refine SB_rem (h.1.sb h.2.1) q hs (f1 _ _ (by omega)) (by rw [hM1]; rfl) (by rw [hM1]; rfl) (fun t ht => ?_)
    rw [hM1, xe_J_sJ, if_pos ⟨rfl, rfl⟩, xb_and, xb_not _ ht, xb_shl (by omega)]
  obtain ⟨M2, d2, l2, f2, p2⟩ := xm_again o1 s1 qb
  obtain ⟨M3, d3, l3, f3, p3⟩ := xm_tellAll2 hbc l2 qb
  refine ⟨M3, ?_, l3, ((f1 _ _ (by omega)).tr f2).tr f3, ((PS_X5_takeAway (fq0 hO) _ _ d1).tr p2).tr p3⟩
  unfold D_X2_removeSpan
  rw [xg_2_0 hO, xg_3_1 hO, xr_4 hO, d1, xe_call, xr_2 o1, d2, xe_call, xr_2 l2.1.1, d3, xe_call]
theorem xc_remove (hbc : BC) {a H : RW} {k : Nat} {M : xv_M} (h : CLh a H k M) {x : Int} (hx : iR x) : ∃ M', D_X11_remove 1 x M = some ((rRemA a x).1, M') ∧ CAct a H k M M' (rRemA a x).2 := by
  have hO := h.1.1.1
  have g := h.2.1
  have g1 := g.1.1.2.1
  have en := g.1.1.en
  unfold D_X11_remove rRemA
  rw [xg_1_0 hO, xg_2_0 hO, xg_3_1 hO, xr_4 hO, xm_has5 hO h.1.1.2.2.1 g1 hx, xe_call, xe_b1]
  by_cases c : 0 ≤ x ∧ x < a 1 ∧ a (6 + 7 * x.toNat + 4) = 1
  · rw [if_pos c, if_pos c]
    obtain ⟨s, rfl⟩ : ∃ s : Nat, x = (s : Int) := ⟨x.toNat, by omega⟩
    rw [Int.toNat_natCast]
    have hs : s < rn a := by omega
    obtain ⟨M1, d1, rc, f1, _⟩ := xc_rec h
    have o1 := rc.1.1.1
    obtain ⟨M2, d2, l2, s2, p2⟩ := xm_removeSpan hbc rc.1 g.1 hs
    obtain ⟨cl, fr⟩ := xc_fin rc h.2.2.2.1 l2 (rRW_rem g.1 hs) s2 p2
    refine ⟨M2, ?_, cl, f1.tr fr⟩
    rw [xg_1_1 hO, xg_1_0 hO, xg_2_0 hO, xr_39 hO, d1, xe_call, xg_1_0 o1, xr_2 o1, d2, xe_call]
  · rw [if_neg c, if_neg c]
    exact ⟨M, rfl, rfl⟩
theorem SB_mov {M M' : xv_M} {a : RW} {s : Nat} {d : Int} (hS : SB 3 a M) (q : rRQ a) (hs : s < rn a)
    (hf : Sm 9 30 M M') (h3 : xv_I M' 3 0 = xv_I M 3 0) (hz : xv_I M' 4 0 = xv_I M 4 0) (hJ : xv_J M' 4 1 = xv_J M 4 1)
    (e5 : ∀ r j, 5 ≤ r → r ≤ 8 → xv_I M' r j = if j = s then xv_I M r j + d else xv_I M r j) : SB 3 (rMov a s d 4) M' := by
  have hm := q.1.m
  have hn := q.1.n
  obtain ⟨t, ⟨s1, s2, s3, s4⟩, sw, sl, se, si, sz⟩ := hS
  have o : ∀ i, ¬ (6 + 7 * s ≤ i ∧ i < 6 + 7 * s + 4) → rMov a s d 4 i = a i := fun i hi => rMov_n hi
  have o1 := o 1 (by omega)
  have o2 := o 2 (by omega)
  have en : rn (rMov a s d 4) = rn a := by show (rMov a s d 4 1).toNat = (a 1).toNat; rw [o1]
  have em : rm (rMov a s d 4) = rm a := by show (rMov a s d 4 2).toNat = (a 2).toNat; rw [o2]
  refine ⟨?_, ⟨?_, fun x hx => ?_, fun x hx => ?_, fun x hx hr => ?_⟩, ?_, ?_, ?_, fun w hw x hx => ?_, fun w hw hr => ?_⟩
  · rw [h3, o 0 (by omega)]; exact t
  · show xv_I M' 4 0 = _
    rw [hz, o1]; exact s1
  · show xb (xv_J M' 4 1) x = _
    rw [hJ, en]
    have := s2 x hx
    by_cases hl : x < rn a
    · rw [o _ (by omega)]
      exact this
    · simp [hl]
      simp [hl] at this
      exact this
  · rw [en] at hx
    obtain ⟨r1, r2, r3, r4, r5, r6⟩ := s3 x hx
    show xv_I M' 5 x = _ ∧ xv_I M' 6 x = _ ∧ xv_I M' 7 x = _ ∧ xv_I M' 8 x = _ ∧ xv_I M' 9 x = _ ∧ xv_I M' 10 x = _
    rw [e5 5 x (by omega) (by omega), e5 6 x (by omega) (by omega), e5 7 x (by omega) (by omega), e5 8 x (by omega) (by omega), (hf 9 x (by omega) (by omega)).1, (hf 10 x (by omega) (by omega)).1]
    by_cases e : x = s
    · subst e
      rw [if_pos rfl, if_pos rfl, if_pos rfl, if_pos rfl, rMov_s (by omega), rMov_s (by omega), rMov_s (by omega), rMov_s (by omega), o (6 + 7 * x + 5) (by omega), o (6 + 7 * x + 6) (by omega), ← r1, ← r2, ← r3, ← r4]
      exact ⟨rfl, rfl, rfl, rfl, r5, r6⟩
    · rw [if_neg e, if_neg e, if_neg e, if_neg e, o _ (by omega), o _ (by omega), o _ (by omega), o _ (by omega), o _ (by omega), o _ (by omega)]
      exact ⟨r1, r2, r3, r4, r5, r6⟩
  · rw [en] at hr
    rw [(hf (3 + 6) x (by omega) (by omega)).1, (hf (3 + 7) x (by omega) (by omega)).1]
    exact s4 x hx hr
  · exact (SBw.row sw o2 (fun w j q1 q2 => o _ (by omega)) hm).sm (hf.sub (by omega) (by omega))
  · exact (SBl.row sl (o 5 (by omega)) (fun i hi => o _ (by omega))).sm (hf.sub (by omega) (by omega))
  · exact (SBe.row se o1 o2 (fun w x q1 q2 q3 => o _ (by omega))).sm (hf.sub (by omega) (by omega)) (by rw [em]; exact hm)
  · rw [em] at hw
    rw [(hf (3 + 11) w (by omega) (by omega)).2, si w hw x hx, en]
    by_cases hl : x < rn a
    · rw [o _ (by omega)]
    · simp [hl]
  · rw [em] at hr
    rw [(hf (3 + 11) w (by omega) (by omega)).2]
    exact sz w hw hr
theorem xm_moveSpan (hbc : BC) {M : xv_M} {a : RW} (h : LN a M) (q : rRQ a) {s : Nat} (hs : s < rn a) (ht : a (6 + 7 * s + 4) = 1) {d : Int} (h1 : 0 ≤ a (6 + 7 * s + 0) + d) (h2 : a (6 + 7 * s + 1) + d ≤ 1000) : ∃ M', D_X2_moveSpan 2 (s : Int) d M = some ((rAll (rMov a s d 4)).1, M') ∧ LN (rAll (rMov a s d 4)).2 M' ∧ Sm 39 1000 M M' ∧ FQ M M' := by
  have hO := h.1.1
  have hn := q.1.n
  have qb := rRQ_mov q hs ht h1 h2
  have is : ((s : Int)).toNat = s := Int.toNat_natCast s
  obtain ⟨M1, hM1⟩ : ∃ M1 : xv_M, M1 = xv_sI M 5 s (xv_I M 5 s + d) := ⟨_, rfl⟩
  obtain ⟨M2, hM2⟩ : ∃ M2 : xv_M, M2 = xv_sI M1 6 s (xv_I M1 6 s + d) := ⟨_, rfl⟩
  obtain ⟨M3, hM3⟩ : ∃ M3 : xv_M, M3 = xv_sI M2 7 s (xv_I M2 7 s + d) := ⟨_, rfl⟩
  obtain ⟨M4, hM4⟩ : ∃ M4 : xv_M, M4 = xv_sI M3 8 s (xv_I M3 8 s + d) := ⟨_, rfl⟩
  have o1 : xl_OK M1 := by rw [hM1]; exact hO
  have o2 : xl_OK M2 := by rw [hM2]; exact o1
  have o3 : xl_OK M3 := by rw [hM3]; exact o2
  have o4 : xl_OK M4 := by rw [hM4]; exact o3
  have d1 : D_X5_shift 4 (s : Int) d M = some ((), M4) := by
    unfold D_X5_shift
    rw [xg_4_2 hO, xa_5 hO (by omega) (by omega), xw_5 hO (by omega) (by omega), is, ← hM1, xg_4_3 o1, xa_6 o1 (by omega) (by omega), xw_6 o1 (by omega) (by omega), is, ← hM2, xg_4_4 o2, xa_7 o2 (by omega) (by omega), xw_7 o2 (by omega) (by omega), is, ← hM3, xg_4_5 o3, xa_8 o3 (by omega) (by omega), xw_8 o3 (by omega) (by omega), is, ← hM4]
  have f1 : ∀ x y, (y < 5 ∨ 9 ≤ x) → Sm x y M M4 := fun x y hx => by
    have a1 : Sm x y M M1 := by rw [hM1]; exact Sm.sI (by omega)
    have a2 : Sm x y M1 M2 := by rw [hM2]; exact Sm.sI (by omega)
    have a3 : Sm x y M2 M3 := by rw [hM3]; exact Sm.sI (by omega)
    have a4 : Sm x y M3 M4 := by rw [hM4]; exact Sm.sI (by omega)
    exact ((a1.tr a2).tr a3).tr a4
  have e5 : ∀ r j, 5 ≤ r → r ≤ 8 → xv_I M4 r j = if j = s then xv_I M r j + d else xv_I M r j := by
    intro r j r1 r2
    have hr : r = 5 ∨ r = 6 ∨ r = 7 ∨ r = 8 := by omega
    by_cases e : j = s
    · subst e
      rw [if_pos rfl]
      rcases hr with rfl | rfl | rfl | rfl
      · rw [hM4, xe_I_sI, if_neg (by omega), hM3, xe_I_sI, if_neg (by omega), hM2, xe_I_sI, if_neg (by omega), hM1, xe_I_sI, if_pos ⟨rfl, rfl⟩]
      · rw [hM4, xe_I_sI, if_neg (by omega), hM3, xe_I_sI, if_neg (by omega), hM2, xe_I_sI, if_pos ⟨rfl, rfl⟩, hM1, xe_I_sI, if_neg (by omega)]
      · rw [hM4, xe_I_sI, if_neg (by omega), hM3, xe_I_sI, if_pos ⟨rfl, rfl⟩, hM2, xe_I_sI, if_neg (by omega), hM1, xe_I_sI, if_neg (by omega)]
      · rw [hM4, xe_I_sI, if_pos ⟨rfl, rfl⟩, hM3, xe_I_sI, if_neg (by omega), hM2, xe_I_sI, if_neg (by omega), hM1, xe_I_sI, if_neg (by omega)]
    · rw [if_neg e, hM4, xe_I_sI, if_neg (fun z => e z.2), hM3, xe_I_sI, if_neg (fun z => e z.2), hM2, xe_I_sI, if_neg (fun z => e z.2), hM1, xe_I_sI, if_neg (fun z => e z.2)]
  have s1 : SB 3 (rMov a s d 4) M4 := SB_mov (h.1.sb h.2.1) q hs (f1 _ _ (by omega)) (f1 3 3 (by omega) 3 0 (by omega) (by omega)).1 (f1 4 4 (by omega) 4 0 (by omega) (by omega)).1 (f1 4 4 (by omega) 4 1 (by omega) (by omega)).2 e5
  obtain ⟨N2, d2, l2, f2, p2⟩ := xm_again o4 s1 qb
  obtain ⟨N3, d3, l3, f3, p3⟩ := xm_tellAll2 hbc l2 qb
  refine ⟨N3, ?_, l3, ((f1 _ _ (by omega)).tr f2).tr f3, ((PS_X5_shift (fq0 hO) _ _ d1).tr p2).tr p3⟩
  unfold D_X2_moveSpan
  rw [xg_2_0 hO, xg_3_1 hO, xr_4 hO, d1, xe_call, xr_2 o4, d2, xe_call, xr_2 l2.1.1, d3, xe_call]
theorem xc_move (hbc : BC) {a H : RW} {k : Nat} {M : xv_M} (h : CLh a H k M) {x d : Int} (hx : iR x) (hd : iR d) : ∃ M', D_X11_move 1 x d M = some ((rMovA a x d).1, M') ∧ CAct a H k M M' (rMovA a x d).2 := by
  have hO := h.1.1.1
  have g := h.2.1
  have g1 := g.1.1.2.1
  have en := g.1.1.en
  unfold D_X11_move rMovA
  rw [xg_1_0 hO, xg_2_0 hO, xg_3_1 hO, xr_4 hO, xm_has5 hO h.1.1.2.2.1 g1 hx, xe_call, xe_b1]
  by_cases c : 0 ≤ x ∧ x < a 1 ∧ a (6 + 7 * x.toNat + 4) = 1
  · rw [if_pos c, if_pos c]
    obtain ⟨s, rfl⟩ : ∃ s : Nat, x = (s : Int) := ⟨x.toNat, by omega⟩
    rw [Int.toNat_natCast] at c ⊢
    have hs : s < rn a := by omega
    have sp := g.1.2.1 s hs c.2.2
    obtain ⟨e1, e2, _⟩ := h.1.1.2.2.1.2.2.1 s hs
    have e1' : xv_I M 5 s = a (6 + 7 * s + 0) := e1
    have e2' : xv_I M 6 s = a (6 + 7 * s + 1) := e2
    rw [xe_cmp hd.1 hd.2 (by decide) (by decide), xe_cmp hd.1 hd.2 (by decide) (by decide), xe_cmp hd.1 hd.2 (by decide) (by decide)]
    by_cases c2 : (-1000 ≤ d ∧ d ≤ 1000) ∧ d ≠ 0
    · rw [if_pos c2, if_neg (by omega), if_neg (by omega), if_pos c2.2, xg_4_2 hO, xa_5 hO (by omega) (by omega), Int.toNat_natCast, e1', xm_isPlace (by omega), xe_call, xe_b0]
      by_cases c3 : 0 ≤ a (6 + 7 * s + 0) + d ∧ a (6 + 7 * s + 1) + d ≤ 1000
      · rw [if_pos c3, if_pos (by omega), xg_4_3 hO, xa_6 hO (by omega) (by omega), Int.toNat_natCast, e2', xm_isPlace (by omega), xe_call, xe_b1, if_pos (by omega)]
        obtain ⟨M1, d1, rc, f1, _⟩ := xc_rec h
        have o1 := rc.1.1.1
        obtain ⟨M2, d2, l2, s2, p2⟩ := xm_moveSpan hbc rc.1 g.1 hs c.2.2 c3.1 c3.2
        obtain ⟨cl, fr⟩ := xc_fin rc h.2.2.2.1 l2 (rRW_all (rRQ_mov g.1 hs c.2.2 c3.1 c3.2)) s2 p2
        refine ⟨M2, ?_, cl, f1.tr fr⟩
        rw [xg_1_1 hO, xg_1_0 hO, xg_2_0 hO, xr_39 hO, d1, xe_call, xg_1_0 o1, xr_2 o1, d2, xe_call]
      · rw [if_neg c3]
        by_cases c4 : 0 ≤ a (6 + 7 * s + 0) + d ∧ a (6 + 7 * s + 0) + d ≤ 1000
        · rw [if_pos c4, xg_4_3 hO, xa_6 hO (by omega) (by omega), Int.toNat_natCast, e2', xm_isPlace (by omega), xe_call, xe_b1, if_neg (by omega)]
          exact ⟨M, rfl, rfl⟩
        · rw [if_neg c4]
          exact ⟨M, rfl, rfl⟩
    · rw [if_neg c2]
      by_cases c3 : d < -1000
      · rw [if_pos c3]
        exact ⟨M, rfl, rfl⟩
      · rw [if_neg c3]
        by_cases c4 : 1000 < d
        · rw [if_pos c4]
          exact ⟨M, rfl, rfl⟩
        · rw [if_neg c4, if_neg (by omega)]
          exact ⟨M, rfl, rfl⟩
  · rw [if_neg c, if_neg c]
    exact ⟨M, rfl, rfl⟩
