/-! ## the class's ticks -/
theorem xm_turnsNext {p v : Int} (h : iR (p + v)) {M : xv_M} : D_X11_turnsNext p v M = some (if 0 ≤ p + v ∧ p + v ≤ 1000 then 0 else 1, M) := by
  unfold D_X11_turnsNext
  rw [xm_isPlace h, xe_call, xe_b1]
  by_cases c : 0 ≤ p + v ∧ p + v ≤ 1000
  · rw [if_pos c, if_pos c, xe_g0]
  · rw [if_neg c, if_neg c, xe_g1]
theorem xm_nextPlace {p v : Int} (h : iR (p + v)) {M : xv_M} : D_X11_nextPlace p v M = some (rTrn (p + v), M) := by
  unfold D_X11_nextPlace rTrn
  rw [xe_cmp h.1 h.2 (by decide) (by decide), xe_cmp h.1 h.2 (by decide) (by decide)]
  by_cases h1 : p + v < 0
  · rw [if_neg (by omega), if_pos h1]
  · rw [if_pos (by omega), if_neg h1]
    by_cases h2 : 1000 < p + v
    · rw [if_neg (by omega), if_pos h2]
    · rw [if_pos (by omega), if_neg h2]
theorem xm_nextSpeed {p v : Int} (h : iR (p + v)) {M : xv_M} : D_X11_nextSpeed p v M = some (if 0 ≤ p + v ∧ p + v ≤ 1000 then v else -v, M) := by
  unfold D_X11_nextSpeed
  rw [xm_turnsNext h, xe_call]
  by_cases c : 0 ≤ p + v ∧ p + v ≤ 1000
  · rw [if_pos c, if_pos c, xe_cmp (by decide) (by decide) (by decide) (by decide), if_pos rfl]
  · rw [if_neg c, if_neg c, xe_cmp (by decide) (by decide) (by decide) (by decide), if_neg (by decide)]
theorem rTrn_eq {x : Int} : rTrn x = x ↔ (0 ≤ x ∧ x ≤ 1000) := by
  unfold rTrn
  by_cases h1 : x < 0
  · rw [if_pos h1]; omega
  · rw [if_neg h1]
    by_cases h2 : 1000 < x
    · rw [if_pos h2]; omega
    · rw [if_neg h2]; omega
theorem xm_stepTurns {M : xv_M} {a : RW} (h : xl_OK M) (hS : SB 3 a M) (q : rRQ a) {w : Nat} (hw : w < rm a) : ∃ M', D_X9_stepTurns 11 (w : Int) M = some (if rTrn (rTo a w) = rTo a w then 0 else 1, M') ∧ xl_OK M' ∧ SB 3 (if rTrn (rTo a w) = rTo a w then rGo1 a w else rGo2 a w) M' ∧ Sm 19 1000 M M' ∧ FQ M M' := by
  have hm := q.1.m
  have hw6 : w < 6 := by omega
  obtain ⟨b1, b2⟩ := q.1.2.2.2.2.2.2 w hw
  have b1' : 0 ≤ a (426 + 6 * w + 0) ∧ a (426 + 6 * w + 0) ≤ 1000 := b1
  have htr : iR (rTo a w) := by unfold rTo iR; omega
  have eT : a (426 + 6 * w + 0) + a (426 + 6 * w + 1) = rTo a w := rfl
  have ht := rTrn_b (x := rTo a w) (by unfold rTo; omega)
  have hte := rTrn_eq (x := rTo a w)
  obtain ⟨r1, r2, r3, r4, r5, r6⟩ := hS.2.2.1.2.1 w hw
  have r1' : xv_I M 12 w = a (426 + 6 * w + 0) := r1
  have r2' : xv_I M 13 w = a (426 + 6 * w + 1) := r2
  have r5' : xv_I M 17 w = a (426 + 6 * w + 4) := r5
  have r6' : xv_I M 18 w = a (426 + 6 * w + 5) := r6
  obtain ⟨v, hv⟩ : ∃ v : Int, v = if 0 ≤ rTo a w ∧ rTo a w ≤ 1000 then a (426 + 6 * w + 1) else -(a (426 + 6 * w + 1)) := ⟨_, rfl⟩
  obtain ⟨M1, hM1⟩ : ∃ M1 : xv_M, M1 = xv_sI M 12 w (rTrn (rTo a w)) := ⟨_, rfl⟩
  obtain ⟨M2, hM2⟩ : ∃ M2 : xv_M, M2 = xv_sI M1 13 w v := ⟨_, rfl⟩
  obtain ⟨M3, hM3⟩ : ∃ M3 : xv_M, M3 = xv_sI M2 17 w (a (426 + 6 * w + 4) + rAb (a (426 + 6 * w + 1))) := ⟨_, rfl⟩
  obtain ⟨M4, hM4⟩ : ∃ M4 : xv_M, M4 = xv_sI M3 18 w (a (426 + 6 * w + 5) + 1) := ⟨_, rfl⟩
  have o1 : xl_OK M1 := by rw [hM1]; exact h
  have o2 : xl_OK M2 := by rw [hM2]; exact o1
  have o3 : xl_OK M3 := by rw [hM3]; exact o2
  have o4 : xl_OK M4 := by rw [hM4]; exact o3
  have e17 : xv_I M2 17 w = a (426 + 6 * w + 4) := by rw [hM2, xe_I_sI, if_neg (by omega), hM1, xe_I_sI, if_neg (by omega), r5']
  have e18 : xv_I M3 18 w = a (426 + 6 * w + 5) := by rw [hM3, xe_I_sI, if_neg (by omega), hM2, xe_I_sI, if_neg (by omega), hM1, xe_I_sI, if_neg (by omega), r6']
  have eab : (if 0 ≤ a (426 + 6 * w + 1) then a (426 + 6 * w + 1) else 0 - a (426 + 6 * w + 1)) = rAb (a (426 + 6 * w + 1)) := by
    unfold rAb
    split <;> omega
  have fr : ∀ r j, ¬ ((r = 12 ∨ r = 13 ∨ r = 17) ∧ j = w) → xv_I M3 r j = xv_I M r j := fun r j hr => by
    rw [hM3, xe_I_sI, if_neg (by omega), hM2, xe_I_sI, if_neg (by omega), hM1, xe_I_sI, if_neg (by omega)]
  have d0 : ∀ X : Option (Int × xv_M), D_X9_stepTurns 11 (w : Int) M = X ↔ (xv_cmp (if 0 ≤ rTo a w ∧ rTo a w ≤ 1000 then 0 else 1) 0 ((if 0 ≤ rTo a w ∧ rTo a w ≤ 1000 then (0 : Int) else 1) = 0) (xv_g ((if 0 ≤ rTo a w ∧ rTo a w ≤ 1000 then (0 : Int) else 1) = 0 ∨ (if 0 ≤ rTo a w ∧ rTo a w ≤ 1000 then (0 : Int) else 1) = 1) (some ((if 0 ≤ rTo a w ∧ rTo a w ≤ 1000 then (0 : Int) else 1), M3))) (xv_g ((if 0 ≤ rTo a w ∧ rTo a w ≤ 1000 then (0 : Int) else 1) = 0 ∨ (if 0 ≤ rTo a w ∧ rTo a w ≤ 1000 then (0 : Int) else 1) = 1) (some ((if 0 ≤ rTo a w ∧ rTo a w ≤ 1000 then (0 : Int) else 1), M4)))) = X := fun X => by
    unfold D_X9_stepTurns
    rw [xg_11_1 h, xa_12 h (by omega) (by omega), Int.toNat_natCast, r1', xg_11_2 h, xa_13 h (by omega) (by omega), Int.toNat_natCast, r2', xm_turnsNext htr, xe_call, eT, xg_11_1 h, xm_nextPlace htr, xe_call, eT, xw_12 h (by omega) (by omega), Int.toNat_natCast, ← hM1]
    rw [xg_11_2 o1, xm_nextSpeed htr, xe_call, eT, ← hv, xw_13 o1 (by omega) (by omega), Int.toNat_natCast, ← hM2]
    rw [xg_11_6 o2, xa_17 o2 (by omega) (by omega), Int.toNat_natCast, e17]
    unfold xv_abs
    rw [if_pos (xe_inb (by omega) (by omega)), eab]
    dsimp only
    rw [xw_17 o2 (by omega) (by omega), Int.toNat_natCast, ← hM3]
    rw [xg_11_7 o3, xa_18 o3 (by omega) (by omega), Int.toNat_natCast, e18, xw_18 o3 (by omega) (by omega), Int.toNat_natCast, ← hM4]
  by_cases c : rTrn (rTo a w) = rTo a w
  · have c2 := hte.mp c
    rw [if_pos c, if_pos c]
    rw [if_pos c2] at hv
    have d : D_X9_stepTurns 11 (w : Int) M = some (0, M3) := by
      rw [d0, if_pos c2, xe_cmp (by decide) (by decide) (by decide) (by decide), if_pos rfl, xe_g0]
    refine ⟨M3, d, o3, ?_, fun r j q1 q2 => ⟨fr r j (by omega), by rw [hM3, hM2, hM1]; rfl⟩, PS_X9_stepTurns (fq0 h) _ _ d⟩
    refine SB_wk hS q hw (fun i hi => ?_) (fun r j hr => fr r j (by omega)) (fun r j => by rw [hM3, hM2, hM1]; rfl) ?_ ?_ ?_ ?_
    · unfold rGo1; rw [up1_n (by omega), up1_n (by omega)]
    · unfold rGo1; rw [up1_n (by omega), up1_s, hM3, xe_I_sI, if_neg (by omega), hM2, xe_I_sI, if_neg (by omega), hM1, xe_I_sI, if_pos ⟨rfl, rfl⟩]
    · unfold rGo1; rw [up1_n (by omega), up1_n (by omega), hM3, xe_I_sI, if_neg (by omega), hM2, xe_I_sI, if_pos ⟨rfl, rfl⟩, hv]
    · unfold rGo1; rw [up1_s, hM3, xe_I_sI, if_pos ⟨rfl, rfl⟩]
    · unfold rGo1; rw [up1_n (by omega), up1_n (by omega), e18]
  · have c2 : ¬ (0 ≤ rTo a w ∧ rTo a w ≤ 1000) := fun z => c (hte.mpr z)
    rw [if_neg c, if_neg c]
    rw [if_neg c2] at hv
    have d : D_X9_stepTurns 11 (w : Int) M = some (1, M4) := by
      rw [d0, if_neg c2, xe_cmp (by decide) (by decide) (by decide) (by decide), if_neg (by decide), xe_g1]
    have fr4 : ∀ r j, ¬ ((r = 12 ∨ r = 13 ∨ r = 17 ∨ r = 18) ∧ j = w) → xv_I M4 r j = xv_I M r j := fun r j hr => by
      rw [hM4, xe_I_sI, if_neg (by omega)]
      exact fr r j (by omega)
    refine ⟨M4, d, o4, ?_, fun r j q1 q2 => ⟨fr4 r j (by omega), by rw [hM4, hM3, hM2, hM1]; rfl⟩, PS_X9_stepTurns (fq0 h) _ _ d⟩
    refine SB_wk hS q hw (fun i hi => ?_) (fun r j hr => fr4 r j (by omega)) (fun r j => by rw [hM4, hM3, hM2, hM1]; rfl) ?_ ?_ ?_ ?_
    · unfold rGo2 rGo1; rw [up1_n (by omega), up1_n (by omega), up1_n (by omega), up1_n (by omega)]
    · unfold rGo2 rGo1; rw [up1_n (by omega), up1_n (by omega), up1_n (by omega), up1_s, hM4, xe_I_sI, if_neg (by omega), hM3, xe_I_sI, if_neg (by omega), hM2, xe_I_sI, if_neg (by omega), hM1, xe_I_sI, if_pos ⟨rfl, rfl⟩]
    · unfold rGo2; rw [up1_n (by omega), up1_s, hM4, xe_I_sI, if_neg (by omega), hM3, xe_I_sI, if_neg (by omega), hM2, xe_I_sI, if_pos ⟨rfl, rfl⟩, hv]
    · unfold rGo2 rGo1; rw [up1_n (by omega), up1_n (by omega), up1_s, hM4, xe_I_sI, if_neg (by omega), hM3, xe_I_sI, if_pos ⟨rfl, rfl⟩]
    · unfold rGo2; rw [up1_s, hM4, xe_I_sI, if_pos ⟨rfl, rfl⟩]
/-- an event more, in the whole state -/
theorem SB_tells {M : xv_M} {c : RW} (h : xl_OK M) (hS : SB 3 c M) (q : rRQ c) {k w x : Int} : ∃ M', D_X3_write 26 k w x (c 0) M = some ((), M') ∧ SB 3 (rTells c k w x) M' ∧ xl_OK M' ∧ Sm 31 1000 M M' ∧ FQ M M' := by
  have hm := q.1.m
  have hn := q.1.n
  obtain ⟨t, ss, sw, sl, se, si, sz⟩ := hS
  obtain ⟨M', d, l', s1, s2, o'⟩ := xm_write h sl q.1.2.2.2.1.2.2.2.1 (k := k) (w := w) (x := x)
  have o : ∀ i, i ≠ 5 → i < 822 → rTells c k w x i = c i := fun i h1 h2 => rTells_lo h1 h2
  have en : rn (rTells c k w x) = rn c := by show (rTells c k w x 1).toNat = (c 1).toNat; rw [o 1 (by omega) (by omega)]
  have em : rm (rTells c k w x) = rm c := by show (rTells c k w x 2).toNat = (c 2).toNat; rw [o 2 (by omega) (by omega)]
  refine ⟨M', d, ⟨?_, ?_, ?_, l', ?_, fun v hv s hs => ?_, fun v hv hr => ?_⟩, o', s2, PS_X3_write (fq0 h) _ _ d⟩
  · rw [(s1 3 0 (by omega) (by omega)).1, o 0 (by omega) (by omega)]; exact t
  · exact (SBs.row ss (o 1 (by omega) (by omega)) (fun s j q1 q2 => o _ (by omega) (by omega)) hn).sm (s1.sub (by omega) (by omega))
  · exact (SBw.row sw (o 2 (by omega) (by omega)) (fun v j q1 q2 => o _ (by omega) (by omega)) hm).sm (s1.sub (by omega) (by omega))
  · exact (SBe.row se (o 1 (by omega) (by omega)) (o 2 (by omega) (by omega)) (fun v s q1 q2 q3 => o _ (by omega) (by omega))).sm (s1.sub (by omega) (by omega)) (by rw [em]; exact hm)
  · rw [em] at hv
    rw [(s1 (3 + 11) v (by omega) (by omega)).2, si v hv s hs, en]
    by_cases hl : s < rn c
    · rw [o _ (by omega) (by omega)]
    · simp [hl]
  · rw [em] at hr
    rw [(s1 (3 + 11) v (by omega) (by omega)).2]
    exact sz v hv hr
/-- the memory, but the ticks inside are those of the row c -/
def mk9 (M : xv_M) (n : Nat) (c : RW) : xv_M := xv_rI M 9 (fun s => if s < n then c (6 + 7 * s + 5) else xv_I M 9 s)
theorem mk9_sI {M : xv_M} {n : Nat} {c : RW} {s : Nat} {v : Int} (hs : s < n) : xv_sI (mk9 M n c) 9 s v = mk9 M n (up1 c (6 + 7 * s + 5) v) := by
  unfold mk9 xv_sI xv_rI
  simp only [Prod.mk.injEq, true_and, and_true]
  funext r j
  by_cases h1 : r = 9
  · subst h1
    by_cases e : j = s
    · subst e
      simp [xv_up, xv_rw, up1, hs]
    · have : ¬ 7 * j = 7 * s := by omega
      simp [xv_up, xv_rw, up1, e, this]
  · simp [xv_up, xv_rw, h1]
theorem mk9_I {M : xv_M} {n : Nat} {c : RW} {s : Nat} (hs : s < n) : xv_I (mk9 M n c) 9 s = c (6 + 7 * s + 5) := by
  simp [mk9, xv_I, xv_rI, xv_rw, hs]
theorem mk9_In {M : xv_M} {n : Nat} {c : RW} {r s : Nat} (hr : r ≠ 9) : xv_I (mk9 M n c) r s = xv_I M r s := by
  simp [mk9, xv_I, xv_rI, xv_rw, hr]
theorem mk9_I2 {M : xv_M} {n : Nat} {c : RW} {s : Nat} (hs : ¬ s < n) : xv_I (mk9 M n c) 9 s = xv_I M 9 s := by
  simp [mk9, xv_I, xv_rI, xv_rw, hs]
theorem mk9_self {M : xv_M} {n : Nat} {c : RW} (h : ∀ s, s < n → xv_I M 9 s = c (6 + 7 * s + 5)) : mk9 M n c = M := by
  unfold mk9 xv_rI
  obtain ⟨K, I, J, P⟩ := M
  simp only [Prod.mk.injEq, true_and, and_true]
  funext r j
  by_cases h1 : r = 9
  · subst h1
    by_cases e : j < n
    · simp [xv_rw, e]
      exact (h j e).symm
    · simp [xv_rw, e, xv_I]
  · simp [xv_rw, h1]
theorem SB_9 {M : xv_M} {a b : RW} (hS : SB 3 a M) (g : rGd a) (e : rE5 a b) : SB 3 b (mk9 M (rn a) b) := by
  have hm := g.m
  have hn := g.n
  obtain ⟨t, ⟨s1, s2, s3, s4⟩, sw, sl, se, si, sz⟩ := hS
  have o1 := e 1 (fun s hs => by omega)
  have o2 := e 2 (fun s hs => by omega)
  have en : rn b = rn a := by show (b 1).toNat = (a 1).toNat; rw [o1]
  have em : rm b = rm a := by show (b 2).toNat = (a 2).toNat; rw [o2]
  have sm : ∀ x y, (y < 9 ∨ 10 ≤ x) → Sm x y M (mk9 M (rn a) b) := fun x y hx r j q1 q2 => ⟨mk9_In (by omega), rfl⟩
  refine ⟨?_, ⟨?_, fun x hx => ?_, fun x hx => ?_, fun x hx hr => ?_⟩, ?_, ?_, ?_, fun w hw x hx => ?_, fun w hw hr => ?_⟩
  · rw [(sm 3 3 (by omega) 3 0 (by omega) (by omega)).1, e 0 (fun s hs => by omega)]; exact t
  · rw [(sm 4 4 (by omega) (3 + 1) 0 (by omega) (by omega)).1, o1]; exact s1
  · rw [(sm 4 4 (by omega) (3 + 1) 1 (by omega) (by omega)).2, s2 x hx, en]
    by_cases hl : x < rn a
    · rw [e _ (fun s hs => by omega)]
    · simp [hl]
  · rw [en] at hx
    obtain ⟨r1, r2, r3, r4, r5, r6⟩ := s3 x hx
    rw [(sm 5 8 (by omega) (3 + 2) x (by omega) (by omega)).1, (sm 5 8 (by omega) (3 + 3) x (by omega) (by omega)).1, (sm 5 8 (by omega) (3 + 4) x (by omega) (by omega)).1, (sm 5 8 (by omega) (3 + 5) x (by omega) (by omega)).1, (sm 10 10 (by omega) (3 + 7) x (by omega) (by omega)).1]
    rw [e (6 + 7 * x + 0) (fun s hs => by omega), e (6 + 7 * x + 1) (fun s hs => by omega), e (6 + 7 * x + 2) (fun s hs => by omega), e (6 + 7 * x + 3) (fun s hs => by omega), e (6 + 7 * x + 6) (fun s hs => by omega)]
    exact ⟨r1, r2, r3, r4, mk9_I hx, r6⟩
  · rw [en] at hr
    rw [(sm 10 10 (by omega) (3 + 7) x (by omega) (by omega)).1]
    obtain ⟨z1, z2⟩ := s4 x hx hr
    exact ⟨(mk9_I2 (by omega)).trans z1, z2⟩
  · exact (SBw.row sw o2 (fun w j q1 q2 => e _ (fun s hs => by omega)) hm).sm (sm _ _ (by omega))
  · exact (SBl.row sl (e 5 (fun s hs => by omega)) (fun i hi => e _ (fun s hs => by omega))).sm (sm _ _ (by omega))
  · exact (SBe.row se o1 o2 (fun w x q1 q2 q3 => e _ (fun s hs => by omega))).sm (sm _ _ (by omega)) (by rw [em]; exact hm)
  · rw [em] at hw
    rw [(sm 14 14 (by omega) (3 + 11) w (by omega) (by omega)).2, si w hw x hx, en]
    by_cases hl : x < rn a
    · rw [e _ (fun s hs => by omega)]
    · simp [hl]
  · rw [em] at hr
    rw [(sm 14 14 (by omega) (3 + 11) w (by omega) (by omega)).2]
    exact sz w hw hr
theorem up1_same {a : RW} {i : Nat} {v : Int} (h : v = a i) : up1 a i v = a := by
  funext j
  by_cases e : j = i
  · subst e; rw [up1_s, h]
  · rw [up1_n e]
theorem xm_countTick {M : xv_M} {p : RW} (h : LN p M) (g : rRW p) : ∃ M', D_X2_countTickInside 2 M = some ((), M') ∧ LN (rCtA p (rm p)) M' ∧ Sm 39 1000 M M' ∧ FQ M M' := by
  have hm := g.1.1.m
  have hn := g.1.1.n
  have en := g.1.1.en
  have em := g.1.1.em
  have hO : ∀ c, xl_OK (mk9 M (rn p) c) := fun _ => h.1.1
  have E5 : ∀ k, rE5 p (rCtA p k) := fun k => rE5_ctA hn k
  have hS := h.1.sb h.2.1
  have c2 : ∀ c, xv_I (mk9 M (rn p) c) 11 0 = p 2 := fun c => (mk9_In (by decide)).trans hS.2.2.1.1
  have c1 : ∀ c, xv_I (mk9 M (rn p) c) 4 0 = p 1 := fun c => (mk9_In (by decide)).trans hS.2.1.1
  have d : D_X2_countTickInside 2 M = some ((), mk9 M (rn p) (rCtA p (rm p))) := by
    unfold D_X2_countTickInside
    refine xe_loop (n := rm p) (fun k => ((k : Int), mk9 M (rn p) (rCtA p k))) ?_ (by omega) ?_ ?_
    · refine congrArg (fun q => ((0 : Int), q)) ?_
      exact (mk9_self (fun s hs => (hS.2.1.2.2.1 s hs).2.2.2.2.1)).symm
    · intro w hw f
      have ek : ((w : Int) + 1) = ((w + 1 : Nat) : Int) := by omega
      dsimp only
      rw [xg_2_0 (hO _), xg_3_2 (hO _), xg_11_0 (hO _), c2, xe_cmp (by omega) (by omega) (by omega) (by omega), if_neg (by omega)]
      refine xe_loop (n := rn p) (fun s => ((s : Int), mk9 M (rn p) (rCt (rCtA p w) w s))) rfl (by omega) ?_ ?_
      · intro s hs f'
        have es : ((s : Int) + 1) = ((s + 1 : Nat) : Int) := by omega
        have E6 := rE5_ct (w := w) (E5 w) s (by omega)
        have ei : rCt (rCtA p w) w s (462 + 60 * w + s) = p (462 + 60 * w + s) := E6 _ (fun t ht => by omega)
        have eb : xv_J M 14 w = xv_J (mk9 M (rn p) (rCt (rCtA p w) w s)) 14 w := rfl
        have hb := hS.2.2.2.2.2.1 w hw s (by omega)
        have hb' : xb (xv_J (mk9 M (rn p) (rCt (rCtA p w) w s)) 14 w) s = decide (s < rn p ∧ 0 < p (462 + 60 * w + s)) := hb
        dsimp only
        rw [xg_2_0 (hO _), xg_3_1 (hO _), xg_4_0 (hO _), c1, xe_cmp (by omega) (by omega) (by omega) (by omega), if_neg (by omega)]
        rw [xg_2_0 (hO _), xg_3_2 (hO _), xg_11_3 (hO _), xa_14 (hO _) (by omega) (by omega), Int.toNat_natCast, xm_isMember (by omega), xe_call, xe_let, xe_b0, hb']
        by_cases c : 0 < p (462 + 60 * w + s)
        · rw [if_pos (decide_eq_true ⟨hs, c⟩), xg_2_0 (hO _), xg_3_1 (hO _), xg_4_6 (hO _), xa_9 (hO _) (by omega) (by omega), Int.toNat_natCast, mk9_I hs, xw_9 (hO _) (by omega) (by omega), Int.toNat_natCast, mk9_sI hs]
          have e9 : rCt (rCtA p w) w (s + 1) = up1 (rCt (rCtA p w) w s) (6 + 7 * s + 5) (rCt (rCtA p w) w s (6 + 7 * s + 5) + 1) := by
            show up1 _ _ (_ + (if rIn (rCt (rCtA p w) w s) w s then 1 else 0)) = _
            rw [if_pos (show rIn _ w s by unfold rIn; rw [ei]; exact c)]
          rw [e9, es]
        · have e9 : rCt (rCtA p w) w (s + 1) = rCt (rCtA p w) w s := by
            show up1 _ _ (_ + (if rIn (rCt (rCtA p w) w s) w s then 1 else 0)) = _
            rw [if_neg (show ¬ rIn _ w s by unfold rIn; rw [ei]; exact c)]
            exact up1_same (by omega)
          rw [if_neg (fun z => c (of_decide_eq_true z).2), e9, es]
      · intro f'
        dsimp only
        rw [xg_2_0 (hO _), xg_3_1 (hO _), xg_4_0 (hO _), c1, xe_cmp (by omega) (by omega) (by omega) (by omega), if_pos (by omega), ek]
        rfl
    · intro f
      dsimp only
      rw [xg_2_0 (hO _), xg_3_2 (hO _), xg_11_0 (hO _), c2, xe_cmp (by omega) (by omega) (by omega) (by omega), if_pos (by omega)]
  have sm : ∀ x y, 10 ≤ x → Sm x y M (mk9 M (rn p) (rCtA p (rm p))) := fun x y hx r j q1 q2 => ⟨mk9_In (by omega), rfl⟩
  exact ⟨_, d, h.st ⟨E5 _ 1 (fun s hs => by omega), fun s j q1 q2 q3 => E5 _ _ (fun t ht => by omega)⟩ hn (hO _) (SB_9 hS g.1.1 (E5 _)) (sm _ _ (by omega)), sm _ _ (by omega), PS_X2_countTickInside (fq0 h.1.1) _ _ d⟩
/-- a walker steps, is told -/
theorem rGo_cs {a : RW} {w : Nat} : rCs a (rGo a w) := ⟨rGo_o (by omega) (by omega) (by omega), fun s j q1 q2 q3 => rGo_o (by omega) (by omega) (by omega)⟩
theorem xm_passTick (hbc : BC) {M : xv_M} {a : RW} (h : LN a M) (g : rRW a) (h0 : a 0 < 9999) : ∃ M', D_X2_passTick 2 M = some ((rTick a).1, M') ∧ LN (rTick a).2 M' ∧ Sm 39 1000 M M' ∧ FQ M M' := by
  have hm := g.1.1.m
  have hn := g.1.1.n
  have em := g.1.1.em
  have hO := h.1.1
  have gt := rRW_tk0 g h0
  have t2 : rTk0 a 2 = a 2 := up1_n (by omega)
  have emt : rm (rTk0 a) = rm a := by show (rTk0 a 2).toNat = (a 2).toNat; rw [t2]
  have ht : xv_I M 3 0 = a 0 := h.1.2.1
  obtain ⟨M0, hM0⟩ : ∃ M0 : xv_M, M0 = xv_sI M 3 0 (a 0 + 1) := ⟨_, rfl⟩
  have o0 : xl_OK M0 := by rw [hM0]; exact hO
  have f0 : ∀ x y, 4 ≤ x → Sm x y M M0 := fun x y hx => by rw [hM0]; exact Sm.sI (by omega)
  have l0 : LN (rTk0 a) M0 := by
    refine h.st ⟨up1_n (by omega), fun s j q1 q2 q3 => up1_n (by omega)⟩ hn o0 ?_ (f0 _ _ (by omega))
    obtain ⟨t, ss, sw, sl, se, si, sz⟩ := h.1.sb h.2.1
    have o : ∀ i, i ≠ 0 → rTk0 a i = a i := fun i hi => up1_n hi
    have en : rn (rTk0 a) = rn a := by show (rTk0 a 1).toNat = (a 1).toNat; rw [o 1 (by omega)]
    refine ⟨?_, ?_, ?_, ?_, ?_, fun w hw x hx => ?_, fun w hw hr => ?_⟩
    · rw [hM0, xe_I_sI, if_pos ⟨rfl, rfl⟩]; exact up1_s.symm
    · exact (SBs.row ss (o 1 (by omega)) (fun s j q1 q2 => o _ (by omega)) hn).sm (f0 _ _ (by omega))
    · exact (SBw.row sw (o 2 (by omega)) (fun s j q1 q2 => o _ (by omega)) hm).sm (f0 _ _ (by omega))
    · exact (SBl.row sl (o 5 (by omega)) (fun i hi => o _ (by omega))).sm (f0 _ _ (by omega))
    · exact (SBe.row se (o 1 (by omega)) (o 2 (by omega)) (fun w x q1 q2 q3 => o _ (by omega))).sm (f0 _ _ (by omega)) (by rw [emt]; exact hm)
    · rw [emt] at hw
      rw [(f0 14 14 (by omega) (3 + 11) w (by omega) (by omega)).2, si w hw x hx, en, o _ (by omega)]
    · rw [emt] at hr
      rw [(f0 14 14 (by omega) (3 + 11) w (by omega) (by omega)).2]
      exact sz w hw hr
  unfold D_X2_passTick
  rw [xg_2_0 hO, xg_3_0 hO, ht, xu_3_0 hO, ← hM0]
  refine xe_inv0 (I := fun (k : Nat) (s : Int × Int × xv_M) => s.1 = (rGoN (rTk0 a) k).1 ∧ s.2.1 = (k : Int) ∧ LN (rGoN (rTk0 a) k).2 s.2.2 ∧ Sm 39 1000 M s.2.2 ∧ FQ M s.2.2) (n := rm a) (P := fun z => ∃ M', z = some ((rTick a).1, M') ∧ LN (rTick a).2 M' ∧ Sm 39 1000 M M' ∧ FQ M M') (by omega) ⟨rfl, rfl, l0, f0 _ _ (by omega), by rw [hM0]; exact (fq0 hO).sI (by decide)⟩ ?_ ?_
  · rintro w ⟨n, i, M1⟩ hw ⟨hn1, hi, l1, s1, p1⟩
    dsimp only at hn1 hi l1 s1 p1 ⊢
    subst hn1 hi
    obtain ⟨ok, _, _, k2⟩ := rGoN_ok gt w (by omega)
    have ek : ((w : Int) + 1) = ((w + 1 : Nat) : Int) := by omega
    obtain ⟨p, hp⟩ : ∃ p : RW, p = (rGoN (rTk0 a) w).2 := ⟨_, rfl⟩
    rw [← hp] at l1 ok k2
    have hwp : w < rm p := by show w < (p 2).toNat; rw [k2, t2]; exact hw
    have pm := ok.1.1.m
    have o1 := l1.1.1
    have q1 := rRQ_go ok.1 hwp
    obtain ⟨M2, d2, o2, S2, f2, fq2⟩ := xm_stepTurns o1 (l1.1.sb l1.2.1) ok.1 hwp
    -- behind the step
    have aft : ∃ M3, (xv_I M2 3 0 = p 0) ∧ LN (rGo p w) M3 ∧ Sm 39 1000 M2 M3 ∧ FQ M2 M3 ∧ ((rTrn (rTo p w) = rTo p w ∧ M3 = M2) ∨ (rTrn (rTo p w) ≠ rTo p w ∧ D_X3_write 26 2 (w : Int) (xv_I M2 12 w) (xv_I M2 3 0) M2 = some ((), M3))) := by
      by_cases c : rTrn (rTo p w) = rTo p w
      · rw [if_pos c] at S2
        have eg : rGo p w = rGo1 p w := if_pos c
        have e0 : rGo1 p w 0 = p 0 := by unfold rGo1; rw [up1_n (by omega), up1_n (by omega)]
        refine ⟨M2, S2.1.trans e0, l1.st rGo_cs ok.1.1.n o2 (by rw [eg]; exact S2) (f2.sub (by omega) (by omega)), Sm.rf, fq0 o2, Or.inl ⟨c, rfl⟩⟩
      · rw [if_neg c] at S2
        have eg : rGo p w = rTells (rGo2 p w) 2 w (rTrn (rTo p w)) := if_neg c
        have og : ∀ i, ¬ (i = 426 + 6 * w + 0 ∨ i = 426 + 6 * w + 1 ∨ i = 426 + 6 * w + 4 ∨ i = 426 + 6 * w + 5) → rGo2 p w i = p i := fun i hi => by
          unfold rGo2 rGo1
          rw [up1_n (by omega), up1_n (by omega), up1_n (by omega), up1_n (by omega)]
        have e0 : rGo2 p w 0 = p 0 := og 0 (by omega)
        have pb := (ok.1.1.2.2.2.2.2.2 w hwp)
        have ep : rGo2 p w (426 + 6 * w + 0) = rTrn (rTo p w) := by
          unfold rGo2 rGo1
          rw [up1_n (by omega), up1_n (by omega), up1_n (by omega), up1_s]
        have ev : rGo2 p w (426 + 6 * w + 1) = -(p (426 + 6 * w + 1)) := by
          unfold rGo2
          rw [up1_n (by omega), up1_s]
        have htr := rTrn_b (x := rTo p w) (by unfold rTo; rw [Nat.add_zero]; omega)
        have q2 : rRQ (rGo2 p w) := by
          refine ok.1.cgx (by rw [e0]; exact ⟨ok.1.1.1, Int.le_refl _⟩) (og 1 (by omega)) (og 2 (by omega)) (og 3 (by omega)) (og 4 (by omega)) (by rw [og 5 (by omega)]; exact ok.1.1.2.2.2.1.2.2.2.1) (fun s j z1 z2 => og _ (by omega)) (fun v hv => ?_) (fun v j z1 z2 => og _ (by omega)) (fun v s z1 z2 => og _ (by omega))
          by_cases e : v = w
          · subst e
            rw [Nat.add_zero] at ep
            rw [ep, ev]
            omega
          · rw [og _ (by omega), og _ (by omega)]
            exact ok.1.1.2.2.2.2.2.2 v hv
        obtain ⟨M3, d3, S3, o3, f3, fq3⟩ := SB_tells o2 S2 q2 (k := 2) (w := (w : Int)) (x := rTrn (rTo p w))
        have em2 : rm (rGo2 p w) = rm p := by show (rGo2 p w 2).toNat = (p 2).toNat; rw [og 2 (by omega)]
        have e12 : xv_I M2 12 w = rTrn (rTo p w) := (S2.2.2.1.2.1 w (by rw [em2]; exact hwp)).1.trans ep
        refine ⟨M3, S2.1.trans e0, l1.st rGo_cs ok.1.1.n o3 (by rw [eg]; exact S3) ((f2.sub (by omega) (by omega)).tr (f3.sub (by omega) (by omega))), f3.sub (by omega) (by omega), fq3, Or.inr ⟨c, ?_⟩⟩
        rw [e12, show xv_I M2 3 0 = rGo2 p w 0 from S2.1]
        exact d3
    obtain ⟨M3, e30, l3, f3, fq3, hc⟩ := aft
    obtain ⟨M4, d4, l4, f4, fq4⟩ := xm_tell2 hbc l3 q1 (w := w) (by rw [rGo_m.1]; exact hwp)
    refine ⟨((rGoN (rTk0 a) (w + 1)).1, ((w + 1 : Nat) : Int), M4), ⟨rfl, rfl, ?_, ((s1.tr (f2.sub (by omega) (by omega))).tr f3).tr f4, ((p1.tr fq2).tr fq3).tr fq4⟩, fun f => ?_⟩
    · show LN (rChg (rGo (rGoN (rTk0 a) w).2 w) w).2 M4
      rw [← hp]
      exact l4
    · have c2 : xv_I M1 11 0 = a 2 := l1.1.2.2.2.1.1.trans (k2.trans t2)
      rw [xg_2_0 o1, xg_3_2 o1, xg_11_0 o1, c2, xe_cmp (by omega) (by omega) (by omega) (by omega), if_neg (by omega), xg_2_0 o1, xg_3_2 o1, xr_11 o1, d2, xe_call]
      have hres : ((rGoN (rTk0 a) w).1 + (rChg (rGo p w) w).1) = (rGoN (rTk0 a) (w + 1)).1 := by rw [hp]; rfl
      refine xe_letp (fun j => j M3 = f ((rGoN (rTk0 a) (w + 1)).1, ((w + 1 : Nat) : Int), M4)) ?_ (fun j hj => ?_)
      · rw [xr_2 l3.1.1, d4, xe_call, hres, ek]
      · rcases hc with ⟨c, e3⟩ | ⟨c, d3⟩
        · rw [if_pos c, xe_cmp (by decide) (by decide) (by decide) (by decide), if_pos rfl, ← e3, hj]
        · rw [if_neg c, xe_cmp (by decide) (by decide) (by decide) (by decide), if_neg (by decide)]
          rw [xg_2_0 o2, xg_3_3 o2, xg_2_0 o2, xg_3_2 o2, xg_11_1 o2, xa_12 o2 (by omega) (by omega), Int.toNat_natCast, xg_2_0 o2, xg_3_0 o2, xr_26 o2, d3, xe_call, hj]
  · rintro ⟨n, i, M1⟩ ⟨hn1, hi, l1, s1, p1⟩ f
    dsimp only at hn1 hi l1 s1 p1 ⊢
    subst hn1 hi
    obtain ⟨ok, _, _, k2⟩ := rGoN_ok gt (rm a) (by omega)
    have o1 := l1.1.1
    have c2 : xv_I M1 11 0 = a 2 := l1.1.2.2.2.1.1.trans (k2.trans t2)
    obtain ⟨M2, d2, l2, f2, p2⟩ := xm_countTick l1 ok
    have er : rm (rGoN (rTk0 a) (rm a)).2 = rm a := by show ((rGoN (rTk0 a) (rm a)).2 2).toNat = (a 2).toNat; rw [k2, t2]
    rw [er] at l2
    rw [xg_2_0 o1, xg_3_2 o1, xg_11_0 o1, c2, xe_cmp (by omega) (by omega) (by omega) (by omega), if_pos (by omega), xr_2 o1, d2, xe_call]
    exact ⟨M2, rfl, l2, s1.tr f2, p1.tr p2⟩
theorem xc_pass (hbc : BC) {a H : RW} {k : Nat} {M : xv_M} (h : CLh a H k M) {n : Int} (hn : iR n) : ∃ M', D_X11_pass 1 n M = some ((rPasA a n).1, M') ∧ CAct a H k M M' (rPasA a n).2 := by
  have hO := h.1.1.1
  have g := h.2.1
  have g0 := g.1.1.1
  have ht : xv_I M 3 0 = a 0 := h.1.1.2.1
  unfold D_X11_pass rPasA
  rw [xe_cmp hn.1 hn.2 (by decide) (by decide), xe_cmp hn.1 hn.2 (by decide) (by decide)]
  by_cases c : 1 ≤ n ∧ n ≤ 100
  · rw [if_pos c, if_neg (by omega), if_pos c.2, xg_1_0 hO, xg_2_0 hO, xg_3_0 hO, ht, xe_cmp (by omega) (by omega) (by decide) (by decide)]
    by_cases c2 : a 0 + n ≤ 9999
    · rw [if_pos c2, if_pos c2]
      obtain ⟨M1, d1, rc, f1, _⟩ := xc_rec h
      have o1 := rc.1.1.1
      rw [xg_1_1 hO, xg_1_0 hO, xg_2_0 hO, xr_39 hO, d1, xe_call]
      obtain ⟨m, rfl⟩ : ∃ m : Nat, n = (m : Int) := ⟨n.toNat, by omega⟩
      rw [Int.toNat_natCast]
      refine xe_inv0 (I := fun (i : Nat) (s : Int × Int × xv_M) => s.1 = (rPassN a i).1 ∧ s.2.1 = (i : Int) ∧ LN (rPassN a i).2 s.2.2 ∧ Sm 39 1000 M1 s.2.2 ∧ FQ M1 s.2.2) (n := m) (P := fun z => ∃ M', z = some ((rPassN a m).1, M') ∧ CAct a H k M M' (some (rPassN a m).2)) (by omega) ⟨rfl, rfl, rc.1, Sm.rf, fq0 o1⟩ ?_ ?_
      · rintro i ⟨x, j, M2⟩ hi ⟨hx, hj, l2, s2, p2⟩
        dsimp only at hx hj l2 s2 p2 ⊢
        subst hx hj
        have ek : ((i : Int) + 1) = ((i + 1 : Nat) : Int) := by omega
        obtain ⟨ok, k0⟩ := rPassN_ok g i (by omega)
        obtain ⟨M3, d3, l3, s3, p3⟩ := xm_passTick hbc l2 ok (by omega)
        refine ⟨((rPassN a (i + 1)).1, ((i + 1 : Nat) : Int), M3), ⟨rfl, rfl, l3, s2.tr s3, p2.tr p3⟩, fun f => ?_⟩
        rw [xe_cmp (by omega) (by omega) (by omega) (by omega), if_neg (by omega), xg_1_0 l2.1.1, xr_2 l2.1.1, d3, xe_call, ek]
        rfl
      · rintro ⟨x, j, M2⟩ ⟨hx, hj, l2, s2, p2⟩ f
        dsimp only at hx hj l2 s2 p2 ⊢
        subst hx hj
        obtain ⟨ok, k0⟩ := rPassN_ok g m (by omega)
        obtain ⟨cl, fr⟩ := xc_fin rc h.2.2.2.1 l2 ok s2 p2
        rw [xe_cmp (by omega) (by omega) (by omega) (by omega), if_pos (by omega)]
        exact ⟨M2, rfl, cl, f1.tr fr⟩
    · rw [if_neg c2, if_neg c2]
      exact ⟨M, rfl, rfl⟩
  · rw [if_neg c]
    by_cases c1 : n < 1
    · rw [if_pos c1]
      exact ⟨M, rfl, rfl⟩
    · rw [if_neg c1, if_neg (by omega)]
      exact ⟨M, rfl, rfl⟩
