/-! ## the class's acts on its line -/
theorem fq0 {M : xv_M} (h : xl_OK M) : FQ M M := ⟨rfl, rfl, rfl, by rw [h.1]; rfl⟩
theorem FQ.tr {N M M' : xv_M} (h : FQ N M) (h2 : FQ M M') : FQ N M' := ⟨h2.1.trans h.1, h2.2.1.trans h.2.1, h2.2.2.1.trans h.2.2.1, h.2.2.2⟩
theorem TR.kp {a b : RW} {M M' : xv_M} (h : TR a M) (k : rKp a b) (hn : rn a ≤ 60) (hI : ∀ r j, 34 ≤ r → r ≤ 37 → xv_I M' r j = xv_I M r j) : TR b M' := by
  obtain ⟨t1, t2, t3⟩ := h
  have en : rn b = rn a := by show (b 1).toNat = (a 1).toNat; rw [k.2.1]
  have ks := k.2.2.2.2.1
  have f2 : ∀ s, s < 60 → rF b s = rF a s := fun s hs => ks s 2 hs (by omega)
  have f3 : ∀ s, s < 60 → rG b s = rG a s := fun s hs => ks s 3 hs (by omega)
  have f4 : ∀ s, s < 60 → b (6 + 7 * s + 4) = a (6 + 7 * s + 4) := fun s hs => ks s 4 hs (by omega)
  refine ⟨fun s hs ht => ?_, fun x hx => ?_, fun x hx => ?_⟩
  · rw [en] at hs
    rw [f4 s (by omega)] at ht
    rw [hI 34 s (by omega) (by omega), hI 35 s (by omega) (by omega), f2 s (by omega), f3 s (by omega)]
    exact t1 s hs ht
  · rw [hI 36 x (by omega) (by omega), t2 x hx, en, xct_cg (fun s hs => ?_)]
    rw [f2 s (by omega), f3 s (by omega), f4 s (by omega)]
  · rw [hI 37 x (by omega) (by omega)]
    obtain ⟨b1, b2⟩ := t3 x hx
    refine ⟨b1, b2.trans ⟨?_, ?_⟩⟩
    · rintro ⟨s, q1, q2, q3⟩
      exact ⟨s, by rw [en]; exact q1, by rw [f4 s (by omega)]; exact q2, by rw [f2 s (by omega), f3 s (by omega)]; exact q3⟩
    · rintro ⟨s, q1, q2, q3⟩
      rw [en] at q1
      exact ⟨s, q1, by rw [← f4 s (by omega)]; exact q2, by rw [← f2 s (by omega), ← f3 s (by omega)]; exact q3⟩
theorem xm_tellAll2 (hbc : BC) {M : xv_M} {b : RW} (h : LN b M) (q : rRQ b) : ∃ M', D_X2_tellAll 2 M = some ((rAll b).1, M') ∧ LN (rAll b).2 M' ∧ Sm 39 1000 M M' ∧ FQ M M' := by
  obtain ⟨cb, ci, cc, tr⟩ := h
  obtain ⟨M', d, cb', ci', s⟩ := xm_tellAll hbc cb q.1 cc ci
  have kp := rAllN_keep q.1.2.2.2.1 q.1.1.1 q.1.2.1.2 (rm b) q.1.m
  exact ⟨M', d, ⟨cb', ci', cc.kp kp q.1.n (fun j => (s 32 j (by omega) (by omega)).2), tr.kp kp q.1.n (fun r j h1 h2 => (s r j (by omega) (by omega)).1)⟩, s.sub (by omega) (by omega), PS_X2_tellAll (fq0 cb.1) _ _ d⟩
theorem xm_tell2 (hbc : BC) {M : xv_M} {b : RW} (h : LN b M) (q : rRQ b) {w : Nat} (hw : w < rm b) : ∃ M', D_X2_tell 2 (w : Int) M = some ((rChg b w).1, M') ∧ LN (rChg b w).2 M' ∧ Sm 39 1000 M M' ∧ FQ M M' := by
  obtain ⟨cb, ci, cc, tr⟩ := h
  have hm := q.1.m
  have kp := rChg_kp q.1 hw
  obtain ⟨M', d, cb', si, so, s⟩ := xm_tell hbc cb q.1 cc hw (ci.1 w hw)
  have em : rm (rChg b w).2 = rm b := by show ((rChg b w).2 2).toNat = (b 2).toNat; rw [kp.2.2.1]
  refine ⟨M', d, ⟨cb', ⟨fun w' hw' => ?_, fun w' hw' hr => ?_⟩, cc.kp kp q.1.n (fun j => (s 32 j (by omega) (by omega)).2), tr.kp kp q.1.n (fun r j h1 h2 => (s r j (by omega) (by omega)).1)⟩, s.sub (by omega) (by omega), PS_X2_tell (fq0 cb.1) _ _ d⟩
  · rw [em] at hw'
    by_cases e : w' = w
    · subst e; exact si
    · exact (ci.1 w' hw').row (so w' e) kp.2.1 q.1.n (fun s hs => rChg_out q.1.2.2.2.1 q.1.1.1 q.1.2.1.2 (by omega) (by omega) hs (Or.inl e))
  · rw [em] at hr
    rw [so w' (by omega)]
    exact ci.2 w' hw' hr
/-- the spans are laid out anew -/
theorem xm_again {M : xv_M} {b : RW} (h : xl_OK M) (hS : SB 3 b M) (q : rRQ b) : ∃ M', D_X2_layOut 2 M = some ((), M') ∧ LN b M' ∧ Sm 39 1000 M M' ∧ FQ M M' := by
  obtain ⟨M', d, cc, tr, lf⟩ := xm_layOut h hS.2.1 q.1.2.1 q.2.1.pl
  obtain ⟨cb, ci⟩ := SB.cb lf.1 (hS.fr q.1.n q.1.m (lf.sm (by omega)))
  exact ⟨M', d, ⟨cb, ci, cc, tr⟩, lf.sm (by omega), PS_X2_layOut (fq0 h) _ _ d⟩
theorem SB_add {M M' : xv_M} {a : RW} {l r f g : Int} (hS : SB 3 a M) (q : rRQ a) (h60 : a 1 < 60)
    (hf : Sm 11 30 M M') (h3 : xv_I M' 3 0 = xv_I M 3 0) (hz : xv_I M' 4 0 = a 1 + 1) (hb : ∀ s, s < 64 → xb (xv_J M' 4 1) s = (xb (xv_J M 4 1) s || decide (s = rn a)))
    (e5 : ∀ j, xv_I M' 5 j = if j = rn a then l else xv_I M 5 j) (e6 : ∀ j, xv_I M' 6 j = if j = rn a then r else xv_I M 6 j) (e7 : ∀ j, xv_I M' 7 j = if j = rn a then f else xv_I M 7 j) (e8 : ∀ j, xv_I M' 8 j = if j = rn a then g else xv_I M 8 j)
    (e9 : ∀ j, xv_I M' 9 j = xv_I M 9 j) (e10 : ∀ j, xv_I M' 10 j = xv_I M 10 j) : SB 3 (rAddB a l r f g) M' := by
  have en := q.1.en
  have hm := q.1.m
  obtain ⟨t, ⟨s1, s2, s3, s4⟩, sw, sl, se, si, sz⟩ := hS
  obtain ⟨n1, nl, nr, nf, ng, nt, n5, n6⟩ := rAddB_n (a := a) (l := l) (r := r) (f := f) (g := g)
  have o : ∀ i, i ≠ 1 → ¬ (6 + 7 * rn a ≤ i ∧ i < 6 + 7 * rn a + 7) → rAddB a l r f g i = a i := fun i h1 h2 => rAddB_o h1 h2
  have hr60 : rn a < 60 := by omega
  have en2 : rn (rAddB a l r f g) = rn a + 1 := by show (rAddB a l r f g 1).toNat = _; rw [n1]; omega
  have o2 : rAddB a l r f g 2 = a 2 := o 2 (by omega) (by omega)
  have em : rm (rAddB a l r f g) = rm a := by show (rAddB a l r f g 2).toNat = (a 2).toNat; rw [o2]
  have os : ∀ s j : Nat, s ≠ rn a → j < 7 → rAddB a l r f g (6 + 7 * s + j) = a (6 + 7 * s + j) := fun s j h1 h2 => o _ (by omega) (by omega)
  have oi : ∀ w s : Nat, w < 6 → s < 60 → rAddB a l r f g (462 + 60 * w + s) = a (462 + 60 * w + s) := fun w s h1 h2 => o _ (by omega) (by omega)
  refine ⟨?_, ⟨?_, fun s hs => ?_, fun s hs => ?_, fun s hs hr => ?_⟩, ?_, ?_, ?_, fun w hw s hs => ?_, fun w hw hr => ?_⟩
  · rw [h3, o 0 (by omega) (by omega)]; exact t
  · show xv_I M' 4 0 = _
    rw [hz, n1]
  · show xb (xv_J M' 4 1) s = _
    rw [hb s hs, s2 s hs, en2]
    by_cases e : s = rn a
    · subst e
      rw [nt]
      simp
    · by_cases hl : s < rn a
      · rw [os s 4 e (by omega)]
        simp [e, hl, show s < rn a + 1 by omega]
      · simp [e, hl, show ¬ s < rn a + 1 by omega]
  · rw [en2] at hs
    show xv_I M' 5 s = _ ∧ xv_I M' 6 s = _ ∧ xv_I M' 7 s = _ ∧ xv_I M' 8 s = _ ∧ xv_I M' 9 s = _ ∧ xv_I M' 10 s = _
    rw [e5, e6, e7, e8, e9, e10]
    by_cases e : s = rn a
    · subst e
      rw [if_pos rfl, if_pos rfl, if_pos rfl, if_pos rfl, nl, nr, nf, ng, n5, n6]
      obtain ⟨z1, z2⟩ := s4 (rn a) hr60 (Nat.le_refl _)
      exact ⟨rfl, rfl, rfl, rfl, z1, z2⟩
    · rw [if_neg e, if_neg e, if_neg e, if_neg e, os s 0 e (by omega), os s 1 e (by omega), os s 2 e (by omega), os s 3 e (by omega), os s 5 e (by omega), os s 6 e (by omega)]
      exact s3 s (by omega)
  · rw [en2] at hr
    show xv_I M' 9 s = 0 ∧ xv_I M' 10 s = 0
    rw [e9, e10]
    exact s4 s hs (by omega)
  · exact (SBw.row sw o2 (fun w j q1 q2 => o _ (by omega) (by omega)) hm).sm (hf.sub (by omega) (by omega))
  · exact (SBl.row sl (o 5 (by omega) (by omega)) (fun i hi => o _ (by omega) (by omega))).sm (hf.sub (by omega) (by omega))
  · refine SBe.sm (a := rAddB a l r f g) ?_ (hf.sub (by omega) (by omega)) (by rw [em]; exact hm)
    intro w s q1 q2 q3
    rw [em] at q1
    rw [en2] at q2
    have hw6 : w < 6 := by omega
    rw [oi w s hw6 (by omega)] at q3 ⊢
    by_cases e : s = rn a
    · subst e
      have := q.2.2.2 w (rn a) hw6 hr60 (Nat.le_refl _)
      omega
    · exact se w s q1 (by omega) q3
  · rw [em] at hw
    have hw6 : w < 6 := by omega
    show xb (xv_J M' 14 w) s = _
    rw [(hf 14 w (by omega) (by omega)).2, en2]
    have := si w hw s hs
    show xb (xv_J M (3 + 11) w) s = _
    rw [this]
    by_cases e : s = rn a
    · subst e
      have z := q.2.2.2 w (rn a) hw6 hr60 (Nat.le_refl _)
      rw [oi w _ hw6 hr60, z]
      simp
    · by_cases hl : s < rn a
      · rw [oi w s hw6 (by omega)]
        simp [hl, show s < rn a + 1 by omega]
      · simp [hl, show ¬ s < rn a + 1 by omega]
  · rw [em] at hr
    show xv_J M' 14 w = 0
    rw [(hf 14 w (by omega) (by omega)).2]
    exact sz w hw hr
theorem xm_append {M : xv_M} {a : RW} (h : xl_OK M) (hS : SB 3 a M) (q : rRQ a) (h60 : a 1 < 60) {l r lb rb : Int} (hl : lb = 0 ∨ lb = 1) (hr : rb = 0 ∨ rb = 1) : ∃ M', D_X5_append 4 l r lb rb M = some (a 1, M') ∧ xl_OK M' ∧ SB 3 (rAddB a l r (if lb = 0 then l + 1 else l) (if rb = 0 then r - 1 else r)) M' ∧ Sm 39 1000 M M' ∧ FQ M M' := by
  have en := q.1.en
  have hr60 : rn a < 60 := by omega
  have hz : xv_I M 4 0 = a 1 := hS.2.1.1
  have in1 : (a 1).toNat = rn a := rfl
  obtain ⟨f, hf⟩ : ∃ f : Int, f = if lb = 0 then l + 1 else l := ⟨_, rfl⟩
  obtain ⟨g, hg⟩ : ∃ g : Int, g = if rb = 0 then r - 1 else r := ⟨_, rfl⟩
  rw [← hf, ← hg]
  obtain ⟨J, hJ⟩ : ∃ J : Int64, J = xv_J M 4 1 ||| ((1 : Int64) <<< ((Int32.ofInt (a 1)).toInt64 &&& 63)) := ⟨_, rfl⟩
  have hM' : ∀ f g : Int, ∃ M', M' = xv_sI (xv_sI (xv_sI (xv_sI (xv_sJ (xv_sI M 4 0 (a 1 + 1)) 4 1 J) 5 (rn a) l) 6 (rn a) r) 7 (rn a) f) 8 (rn a) g := fun f g => ⟨_, rfl⟩
  obtain ⟨M', hM'⟩ := hM' f g
  have hd : D_X5_append 4 l r lb rb M = some (a 1, M') := by
    have hO : ∀ r j v, xl_OK (xv_sI M r j v) := fun _ _ _ => h
    unfold D_X5_append
    rw [xg_4_0 h, hz, xe_cmp (by omega) (by omega) (by decide) (by decide), if_pos h60, xg_4_0 h, hz, xg_4_0 h, hz, xu_4_0 h]
    obtain ⟨M1, hM1⟩ : ∃ M1 : xv_M, M1 = xv_sI M 4 0 (a 1 + 1) := ⟨_, rfl⟩
    have o1 : xl_OK M1 := by rw [hM1]; exact h
    rw [← hM1, xg_4_1 o1, xu_4_1 o1]
    have hj1 : xv_J M1 4 1 = xv_J M 4 1 := by rw [hM1]; rfl
    rw [hj1, ← hJ]
    obtain ⟨M2, hM2⟩ : ∃ M2 : xv_M, M2 = xv_sJ M1 4 1 J := ⟨_, rfl⟩
    have o2 : xl_OK M2 := by rw [hM2]; exact o1
    rw [← hM2, xg_4_2 o2, xw_5 o2 (by omega) (by omega), in1]
    obtain ⟨M3, hM3⟩ : ∃ M3 : xv_M, M3 = xv_sI M2 5 (rn a) l := ⟨_, rfl⟩
    have o3 : xl_OK M3 := by rw [hM3]; exact o2
    rw [← hM3, xg_4_3 o3, xw_6 o3 (by omega) (by omega), in1]
    obtain ⟨M4, hM4⟩ : ∃ M4 : xv_M, M4 = xv_sI M3 6 (rn a) r := ⟨_, rfl⟩
    have o4 : xl_OK M4 := by rw [hM4]; exact o3
    rw [← hM4, xg_4_4 o4]
    refine xe_letp (fun j => j (7, a 1, f) = some (a 1, M')) ?_ (fun j hj => ?_)
    · dsimp only
      rw [xw_7 o4 (by omega) (by omega), in1]
      obtain ⟨M5, hM5⟩ : ∃ M5 : xv_M, M5 = xv_sI M4 7 (rn a) f := ⟨_, rfl⟩
      have o5 : xl_OK M5 := by rw [hM5]; exact o4
      have eM : ∀ g', xv_sI M5 8 (rn a) g' = xv_sI (xv_sI (xv_sI (xv_sI (xv_sJ (xv_sI M 4 0 (a 1 + 1)) 4 1 J) 5 (rn a) l) 6 (rn a) r) 7 (rn a) f) 8 (rn a) g' := fun g' => by rw [hM5, hM4, hM3, hM2, hM1]
      rw [← hM5, xg_4_5 o5, xe_cmp (by omega) (by omega) (by decide) (by decide)]
      rcases hr with rfl | rfl
      · rw [if_pos rfl, xw_8 o5 (by omega) (by omega), in1, eM, hM', hg, if_pos rfl]
      · rw [if_neg (by decide), xw_8 o5 (by omega) (by omega), in1, eM, hM', hg, if_neg (by decide)]
    · rw [xe_cmp (by omega) (by omega) (by decide) (by decide)]
      rcases hl with rfl | rfl
      · rw [if_pos rfl, ← hj, hf, if_pos rfl]
      · rw [if_neg (by decide), ← hj, hf, if_neg (by decide)]
  have sI : ∀ r j, (∀ i, 4 ≤ i → i ≤ 8 → r ≠ i) → xv_I M' r j = xv_I M r j ∧ xv_J M' r j = xv_J M r j := fun r j hr => by
    rw [hM']
    constructor
    · rw [xe_I_sI, if_neg (fun z => hr 8 (by omega) (by omega) z.1), xe_I_sI, if_neg (fun z => hr 7 (by omega) (by omega) z.1), xe_I_sI, if_neg (fun z => hr 6 (by omega) (by omega) z.1), xe_I_sI, if_neg (fun z => hr 5 (by omega) (by omega) z.1), xe_I_sJ, xe_I_sI, if_neg (fun z => hr 4 (by omega) (by omega) z.1)]
    · rw [xe_J_sI, xe_J_sI, xe_J_sI, xe_J_sI, xe_J_sJ, if_neg (fun z => hr 4 (by omega) (by omega) z.1), xe_J_sI]
  have sm : ∀ x y, 9 ≤ x → Sm x y M M' := fun x y hx r j q1 q2 => sI r j (fun i h1 h2 => by omega)
  refine ⟨M', hd, by rw [hM']; exact h, ?_, sm _ _ (by omega), PS_X5_append (fq0 h) _ _ hd⟩
  refine SB_add hS q h60 (sm _ _ (by omega)) (sI 3 0 (fun i h1 h2 => by omega)).1 ?_ (fun s hs => ?_) (fun j => ?_) (fun j => ?_) (fun j => ?_) (fun j => ?_) (fun j => (sI 9 j (fun i h1 h2 => by omega)).1) (fun j => (sI 10 j (fun i h1 h2 => by omega)).1)
  · rw [hM', xe_I_sI, if_neg (by omega), xe_I_sI, if_neg (by omega), xe_I_sI, if_neg (by omega), xe_I_sI, if_neg (by omega), xe_I_sJ, xe_I_sI, if_pos ⟨rfl, rfl⟩]
  · have ej : xv_J M' 4 1 = J := by rw [hM', xe_J_sI, xe_J_sI, xe_J_sI, xe_J_sI, xe_J_sJ, if_pos ⟨rfl, rfl⟩]
    rw [ej, hJ, xb_or, ← en, xb_shl (by omega)]
  · rw [hM', xe_I_sI, if_neg (by omega), xe_I_sI, if_neg (by omega), xe_I_sI, if_neg (by omega), xe_I_sI]
    by_cases e : j = rn a
    · rw [if_pos ⟨rfl, e⟩, if_pos e]
    · rw [if_neg (fun z => e z.2), if_neg e, xe_I_sJ, xe_I_sI, if_neg (by omega)]
  · rw [hM', xe_I_sI, if_neg (by omega), xe_I_sI, if_neg (by omega), xe_I_sI]
    by_cases e : j = rn a
    · rw [if_pos ⟨rfl, e⟩, if_pos e]
    · rw [if_neg (fun z => e z.2), if_neg e, xe_I_sI, if_neg (by omega), xe_I_sJ, xe_I_sI, if_neg (by omega)]
  · rw [hM', xe_I_sI, if_neg (by omega), xe_I_sI]
    by_cases e : j = rn a
    · rw [if_pos ⟨rfl, e⟩, if_pos e]
    · rw [if_neg (fun z => e z.2), if_neg e, xe_I_sI, if_neg (by omega), xe_I_sI, if_neg (by omega), xe_I_sJ, xe_I_sI, if_neg (by omega)]
  · rw [hM', xe_I_sI]
    by_cases e : j = rn a
    · rw [if_pos ⟨rfl, e⟩, if_pos e]
    · rw [if_neg (fun z => e z.2), if_neg e, xe_I_sI, if_neg (by omega), xe_I_sI, if_neg (by omega), xe_I_sI, if_neg (by omega), xe_I_sJ, xe_I_sI, if_neg (by omega)]
theorem xm_addSpan (hbc : BC) {M : xv_M} {a : RW} (h : LN a M) (q : rRQ a) (h60 : a 1 < 60) {l r lb rb : Int} (hl : lb = 0 ∨ lb = 1) (hr : rb = 0 ∨ rb = 1) (hb : 0 ≤ l ∧ l ≤ (if lb = 0 then l + 1 else l) ∧ (if lb = 0 then l + 1 else l) ≤ (if rb = 0 then r - 1 else r) ∧ (if rb = 0 then r - 1 else r) ≤ r ∧ r ≤ 1000) : ∃ M', D_X2_addSpan 2 l r lb rb M = some (a 1, M') ∧ LN (rAdds a l r (if lb = 0 then l + 1 else l) (if rb = 0 then r - 1 else r)) M' ∧ Sm 39 1000 M M' ∧ FQ M M' := by
  have hO := h.1.1
  have qb := rRQ_add q h60 hb
  obtain ⟨M1, d1, o1, s1, f1, p1⟩ := xm_append hO (h.1.sb h.2.1) q h60 hl hr
  obtain ⟨M2, d2, l2, f2, p2⟩ := xm_again o1 s1 qb
  obtain ⟨M3, d3, l3, f3, p3⟩ := xm_tellAll2 hbc l2 qb
  refine ⟨M3, ?_, l3, (f1.tr f2).tr f3, (p1.tr p2).tr p3⟩
  unfold D_X2_addSpan
  rw [xg_2_0 hO, xg_3_1 hO, xr_4 hO, d1, xe_call, xr_2 o1, d2, xe_call, xr_2 l2.1.1, d3, xe_call]
