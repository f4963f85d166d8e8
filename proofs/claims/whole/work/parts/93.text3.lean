/-! ## the class: the row, its spans, all added -/
section TXR
variable {M : xv_M} {t : Nat → Int} {n : Nat}
/-- the first k spans as they were read -/
def RCs (t : Nat → Int) (n k : Nat) (M : xv_M) : Prop := ∀ i, i < k → RC4 t n (tPk t n i) i M
theorem RC4.mv {p i : Nat} {M' : xv_M} (h : RC4 t n p i M) (e : ∀ r, 184 ≤ r → r ≤ 187 → xv_I M' r i = xv_I M r i) : RC4 t n p i M' := ⟨(e 184 (by decide) (by decide)).trans h.1, (e 185 (by decide) (by decide)).trans h.2.1, (e 186 (by decide) (by decide)).trans h.2.2.1, (e 187 (by decide) (by decide)).trans h.2.2.2⟩
abbrev tFine (t : Nat → Int) (n N : Nat) : Prop := tGood t n (tPk t n N) ∧ tEnd t n (tPk t n N) = n
theorem xm_readRow (h : xl_OK M) (tc : TC t n M) (tk : tOK t n) {N : Nat} (hN : N ≤ 10) (hg : ∀ i, i < N → tGo t n i) (hx : ¬ tGo t n N) : ∃ M', D_X4_readRow 183 181 M = some (if tFine t n N then -1 else (tEnd t n (tPk t n N) : Int), M') ∧ RdF M M' ∧ (tFine t n N → xv_I M' 183 0 = ((N + 1 : Nat) : Int) ∧ RCs t n (N + 1) M') := by
  have hn := tk.1
  unfold D_X4_readRow
  rw [xu_183_0 h]
  obtain ⟨M1, hM1⟩ : ∃ M1, M1 = xv_sI M 183 0 0 := ⟨_, rfl⟩
  rw [← hM1]
  have r1 : RdF M M1 := by rw [hM1]; exact RdF.sI (by decide)
  have o1 := r1.ok h
  rw [xu_183_5 o1]
  obtain ⟨M2, hM2⟩ : ∃ M2, M2 = xv_sI M1 183 5 0 := ⟨_, rfl⟩
  rw [← hM2]
  have r2 : RdF M M2 := by rw [hM2]; exact r1.tr (RdF.sI (by decide))
  have z2 : xv_I M2 183 0 = 0 := by rw [hM2, xe_I_sI, if_neg (by decide), hM1, xe_I_sI, if_pos ⟨rfl, rfl⟩]
  have p2 : xv_I M2 183 5 = 0 := by rw [hM2, xe_I_sI, if_pos ⟨rfl, rfl⟩]
  refine xe_inv0 (I := fun (k : Nat) (s : Int × xv_M) => s.1 = (k : Int) ∧ RdF M s.2 ∧ xv_I s.2 183 5 = (tPk t n k : Int) ∧ xv_I s.2 183 0 = (k : Int) ∧ RCs t n k s.2) (n := N) (P := fun d => ∃ M', d = some (if tFine t n N then -1 else (tEnd t n (tPk t n N) : Int), M') ∧ RdF M M' ∧ (tFine t n N → xv_I M' 183 0 = ((N + 1 : Nat) : Int) ∧ RCs t n (N + 1) M')) (by omega) ⟨rfl, r2, p2, z2, fun i hi => absurd hi (Nat.not_lt_zero _)⟩ ?_ ?_
  · rintro k ⟨i, X⟩ hk ⟨hi, rx, px, sx, cx⟩
    dsimp only at hi rx px sx cx ⊢
    subst hi
    have ox := rx.ok h
    obtain ⟨_, b2⟩ := tPk_le k (fun i hi => hg i (by omega))
    obtain ⟨g1, g2⟩ := hg k hk
    obtain ⟨M6, d6, rs, p6, c6⟩ := xm_readOne ox (tc.rd rx) tk b2 (i := k) (by omega) px
    have r6 := rx.tr rs.1
    have o6 := r6.ok h
    have s6 : xv_I M6 183 0 = (k : Int) := rs.2.1.trans sx
    obtain ⟨M9, hM9⟩ : ∃ M9, M9 = xv_sI M6 183 0 ((k : Int) + 1) := ⟨_, rfl⟩
    have r9 : RdF M M9 := by rw [hM9]; exact r6.tr (RdF.sI (by decide))
    have o9 := r9.ok h
    have p9 : xv_I M9 183 5 = (tEnd t n (tPk t n k) : Int) := by rw [hM9, xe_I_sI, if_neg (by decide)]; exact p6
    have s9 : xv_I M9 183 0 = ((k + 1 : Nat) : Int) := by rw [hM9, xe_I_sI, if_pos ⟨rfl, rfl⟩]; omega
    have c9 : RCs t n (k + 1) M9 := fun i hi => by
      have e9 : ∀ r, 184 ≤ r → r ≤ 187 → xv_I M9 r i = xv_I M6 r i := fun r h1 h2 => by rw [hM9, xe_I_sI, if_neg (by omega)]
      by_cases e : i = k
      · subst e
        exact (c6 g1).mv e9
      · exact ((cx i (by omega)).mv (fun r h1 h2 => rs.2.2 r i h1 h2 e)).mv e9
    have t9 : xv_I M9 181 0 = (n : Int) := (tc.rd r9).1
    have hlt := g2.1
    refine ⟨(((k : Int) + 1), xv_sI M9 183 5 ((tEnd t n (tPk t n k) : Int) + 1)), ⟨by show (k : Int) + 1 = ((k + 1 : Nat) : Int); omega, r9.tr (RdF.sI (by decide)), ?_, ?_, fun i hi => ?_⟩, fun f => ?_⟩
    · show xv_I (xv_sI M9 183 5 ((tEnd t n (tPk t n k) : Int) + 1)) 183 5 = ((tEnd t n (tPk t n k) + 1 : Nat) : Int)
      rw [xe_I_sI, if_pos ⟨rfl, rfl⟩]
      omega
    · show xv_I (xv_sI M9 183 5 ((tEnd t n (tPk t n k) : Int) + 1)) 183 0 = _
      rw [xe_I_sI, if_neg (by decide)]
      exact s9
    · exact (c9 i hi).mv (fun r h1 h2 => by
        show xv_I (xv_sI M9 183 5 ((tEnd t n (tPk t n k) : Int) + 1)) r i = _
        rw [xe_I_sI, if_neg (by omega)])
    · rw [xe_cmp (by omega) (by omega) (by decide) (by decide), if_neg (by omega), xr_183 ox, d6, xe_call, if_pos g1, xe_cmp (by decide) (by decide) (by decide) (by decide), if_pos (by decide), xg_183_0 o6, s6, xu_183_0 o6, ← hM9, xg_183_5 o9, p9, xg_181_0 o9, t9, xe_cmp (by omega) (by omega) (by omega) (by omega), if_pos (by omega), xr_183 o9, xm_readSign o9 (tc.rd r9) tk (by omega) p9 (by decide), xe_call, if_pos g2, if_pos g2, xe_cmp (by decide) (by decide) (by decide) (by decide), if_pos (by decide)]
  · rintro ⟨i, X⟩ ⟨hi, rx, px, sx, cx⟩ f
    dsimp only at hi rx px sx cx ⊢
    subst hi
    have ox := rx.ok h
    obtain ⟨_, b2⟩ := tPk_le N hg
    have b3 := tEnd_le (t := t) b2
    obtain ⟨M6, d6, rs, p6, c6⟩ := xm_readOne ox (tc.rd rx) tk b2 (i := N) (by omega) px
    have r6 := rx.tr rs.1
    have o6 := r6.ok h
    rw [xe_cmp (by omega) (by omega) (by decide) (by decide), if_neg (by omega), xr_183 ox, d6, xe_call]
    by_cases g1 : tGood t n (tPk t n N)
    · have s6 : xv_I M6 183 0 = (N : Int) := rs.2.1.trans sx
      obtain ⟨M9, hM9⟩ : ∃ M9, M9 = xv_sI M6 183 0 ((N : Int) + 1) := ⟨_, rfl⟩
      have r9 : RdF M M9 := by rw [hM9]; exact r6.tr (RdF.sI (by decide))
      have o9 := r9.ok h
      have p9 : xv_I M9 183 5 = (tEnd t n (tPk t n N) : Int) := by rw [hM9, xe_I_sI, if_neg (by decide)]; exact p6
      have s9 : xv_I M9 183 0 = ((N + 1 : Nat) : Int) := by rw [hM9, xe_I_sI, if_pos ⟨rfl, rfl⟩]; omega
      have c9 : RCs t n (N + 1) M9 := fun i hi => by
        have e9 : ∀ r, 184 ≤ r → r ≤ 187 → xv_I M9 r i = xv_I M6 r i := fun r h1 h2 => by rw [hM9, xe_I_sI, if_neg (by omega)]
        by_cases e : i = N
        · subst e
          exact (c6 g1).mv e9
        · exact ((cx i (by omega)).mv (fun r h1 h2 => rs.2.2 r i h1 h2 e)).mv e9
      have t9 : xv_I M9 181 0 = (n : Int) := (tc.rd r9).1
      rw [if_pos g1, xe_cmp (by decide) (by decide) (by decide) (by decide), if_pos (by decide), xg_183_0 o6, s6, xu_183_0 o6, ← hM9, xg_183_5 o9, p9, xg_181_0 o9, t9, xe_cmp (by omega) (by omega) (by omega) (by omega)]
      by_cases e : tEnd t n (tPk t n N) = n
      · rw [if_neg (by omega), if_pos ⟨g1, e⟩]
        exact ⟨M9, rfl, r9, fun _ => ⟨s9, c9⟩⟩
      · have g2 : ¬ tCh t n (tEnd t n (tPk t n N)) 59 := fun z => hx ⟨g1, z⟩
        rw [if_pos (by omega), xr_183 o9, xm_readSign o9 (tc.rd r9) tk (by omega) p9 (by decide), xe_call, if_neg g2, if_neg g2, xe_cmp (by decide) (by decide) (by decide) (by decide), if_neg (by decide), xg_183_5 o9, p9, if_neg (fun z => e z.2)]
        exact ⟨M9, rfl, r9, fun z => absurd z.2 e⟩
    · rw [if_neg g1, xe_cmp (by decide) (by decide) (by decide) (by decide), if_neg (by decide), xg_183_5 o6, p6, if_neg (fun z => g1 z.1)]
      exact ⟨M6, rfl, r6, fun z => absurd z.1 g1⟩
/-- a span may lie so -/
abbrev tVok (t : Nat → Int) (n p : Nat) : Prop := tL t n p ≤ 1000 ∧ tR t n p ≤ 1000 ∧ tL t n p ≤ tR t n p ∧ tF t n p ≤ tG t n p
theorem tLR_b (t : Nat → Int) (n p : Nat) : (-1 ≤ tL t n p ∧ tL t n p ≤ 9999) ∧ (-1 ≤ tR t n p ∧ tR t n p ≤ 9999) ∧ (-2 ≤ tF t n p ∧ tF t n p ≤ 10000) ∧ (-2 ≤ tG t n p ∧ tG t n p ≤ 10000) := by
  have b1 := tNum_b t n (p + 1)
  have b2 := tNum_b t n (tB t n p + 1)
  have e1 : tNum t n (p + 1) = tL t n p := rfl
  have e2 : tNum t n (tB t n p + 1) = tR t n p := rfl
  rw [e1] at b1
  rw [e2] at b2
  refine ⟨by omega, by omega, ?_, ?_⟩
  · unfold tF
    by_cases c : tCh t n p 91
    · rw [if_pos c]; omega
    · rw [if_neg c]; omega
  · unfold tG
    by_cases c : tCh t n (tE t n p) 93
    · rw [if_pos c]; omega
    · rw [if_neg c]; omega
/-- one span is asked for -/
theorem xm_ask1 {N : Nat} (h : xl_OK M) (hN : N ≤ 10) (hs : xv_I M 183 0 = ((N + 1 : Nat) : Int)) (hc : RCs t n (N + 1) M) {k : Nat} (hk : k < N + 1) {T : Type} {d0 d1 : Option T} {f : Int → Option T} (F : Option T)
    (hF : F = (xv_gI M 4 183 0 (fun v3 => (xv_cmp (k : Int) v3 (v3 ≤ (k : Int)) d1 (xv_gP M 4 183 3 (fun v4 => (xv_aI M 16 v4 (k : Int) (fun v5 => (xv_let (fun x6 : Int => (xv_gP M 4 183 4 (fun v8 => (xv_aI M 16 v8 (k : Int) (fun v9 => (xv_let (fun x10 : Int => (xv_gP M 4 183 1 (fun v12 => (xv_aI M 14 v12 (k : Int) (fun v13 => (xv_cmp v13 (1000 : Int) ((1000 : Int) < v13) d0 (xv_gP M 4 183 2 (fun v14 => (xv_aI M 14 v14 (k : Int) (fun v15 => (xv_cmp v15 (1000 : Int) ((1000 : Int) < v15) d0 (xv_gP M 4 183 2 (fun v16 => (xv_aI M 14 v16 (k : Int) (fun v17 => (xv_gP M 4 183 1 (fun v18 => (xv_aI M 14 v18 (k : Int) (fun v19 => (xv_cmp v17 v19 (v17 < v19) d0 (xv_cmp x6 x10 (x6 ≤ x10) (f ((k : Int) + 1)) d0))))))))))))))))))))) (fun j11 => (xv_cmp v9 (0 : Int) (v9 = (0 : Int)) (xv_gP M 4 183 2 (fun v20 => (xv_aI M 14 v20 (k : Int) (fun v21 => (j11 (v21 - (1 : Int))))))) (xv_gP M 4 183 2 (fun v22 => (xv_aI M 14 v22 (k : Int) (fun v23 => (j11 v23))))))))))))) (fun j7 => (xv_cmp v5 (0 : Int) (v5 = (0 : Int)) (xv_gP M 4 183 1 (fun v24 => (xv_aI M 14 v24 (k : Int) (fun v25 => (j7 (v25 + (1 : Int))))))) (xv_gP M 4 183 1 (fun v26 => (xv_aI M 14 v26 (k : Int) (fun v27 => (j7 v27)))))))))))))))) : F = if tVok t n (tPk t n k) then f ((k : Int) + 1) else d0 := by
  subst hF
  obtain ⟨c1, c2, c3, c4⟩ := hc k hk
  obtain ⟨b1, b2, b3, b4⟩ := tLR_b t n (tPk t n k)
  have ek : ((k : Int)).toNat = k := Int.toNat_natCast k
  have eF : tF t n (tPk t n k) = if tCh t n (tPk t n k) 91 then tL t n (tPk t n k) else tL t n (tPk t n k) + 1 := rfl
  have eG : tG t n (tPk t n k) = if tCh t n (tE t n (tPk t n k)) 93 then tR t n (tPk t n k) else tR t n (tPk t n k) - 1 := rfl
  rw [xg_183_0 h, hs, xe_cmp (by omega) (by omega) (by omega) (by omega), if_neg (by omega), xg_183_3 h, xa_186 h (by omega) (by omega), ek, c3]
  refine xe_letp (fun j => j (tF t n (tPk t n k)) = if tVok t n (tPk t n k) then f ((k : Int) + 1) else d0) ?_ (fun j7 hj => ?_)
  · try dsimp only
    rw [xg_183_4 h, xa_187 h (by omega) (by omega), ek, c4]
    refine xe_letp (fun j => j (tG t n (tPk t n k)) = if tVok t n (tPk t n k) then f ((k : Int) + 1) else d0) ?_ (fun j11 hj => ?_)
    · try dsimp only
      rw [xg_183_1 h, xa_184 h (by omega) (by omega), ek, c1, xe_cmp (by omega) (by omega) (by decide) (by decide)]
      by_cases q1 : 1000 < tL t n (tPk t n k)
      · rw [if_pos q1, if_neg (fun z => by omega)]
      · rw [if_neg q1, xg_183_2 h, xa_185 h (by omega) (by omega), ek, c2, xe_cmp (by omega) (by omega) (by decide) (by decide)]
        by_cases q2 : 1000 < tR t n (tPk t n k)
        · rw [if_pos q2, if_neg (fun z => by omega)]
        · rw [if_neg q2, xg_183_2 h, xa_185 h (by omega) (by omega), ek, c2, xg_183_1 h, xa_184 h (by omega) (by omega), ek, c1, xe_cmp (by omega) (by omega) (by omega) (by omega)]
          by_cases q3 : tR t n (tPk t n k) < tL t n (tPk t n k)
          · rw [if_pos q3, if_neg (fun z => by omega)]
          · rw [if_neg q3, xe_cmp (by omega) (by omega) (by omega) (by omega)]
            by_cases q4 : tF t n (tPk t n k) ≤ tG t n (tPk t n k)
            · rw [if_pos q4, if_pos ⟨by omega, by omega, by omega, q4⟩]
            · rw [if_neg q4, if_neg (fun z => q4 z.2.2.2)]
    · by_cases q : tCh t n (tE t n (tPk t n k)) 93
      · rw [if_pos q, xe_cmp (by decide) (by decide) (by decide) (by decide), if_neg (by decide), xg_183_2 h, xa_185 h (by omega) (by omega), ek, c2]
        have e9 : tG t n (tPk t n k) = tR t n (tPk t n k) := by rw [eG, if_pos q]
        exact (congrArg j11 e9.symm).trans hj
      · rw [if_neg q, xe_cmp (by decide) (by decide) (by decide) (by decide), if_pos rfl, xg_183_2 h, xa_185 h (by omega) (by omega), ek, c2]
        have e9 : tG t n (tPk t n k) = tR t n (tPk t n k) - 1 := by rw [eG, if_neg q]
        exact (congrArg j11 e9.symm).trans hj
  · by_cases q : tCh t n (tPk t n k) 91
    · rw [if_pos q, xe_cmp (by decide) (by decide) (by decide) (by decide), if_neg (by decide), xg_183_1 h, xa_184 h (by omega) (by omega), ek, c1]
      have e9 : tF t n (tPk t n k) = tL t n (tPk t n k) := by rw [eF, if_pos q]
      exact (congrArg j7 e9.symm).trans hj
    · rw [if_neg q, xe_cmp (by decide) (by decide) (by decide) (by decide), if_pos rfl, xg_183_1 h, xa_184 h (by omega) (by omega), ek, c1]
      have e9 : tF t n (tPk t n k) = tL t n (tPk t n k) + 1 := by rw [eF, if_neg q]
      exact (congrArg j7 e9.symm).trans hj
theorem xm_allAre {N : Nat} (h : xl_OK M) (hN : N ≤ 10) (hs : xv_I M 183 0 = ((N + 1 : Nat) : Int)) (hc : RCs t n (N + 1) M) (hv : ∀ k, k < N + 1 → tVok t n (tPk t n k)) : D_X4_allAreSpans 183 M = some (1, M) := by
  unfold D_X4_allAreSpans
  refine xe_loop (n := N + 1) (fun k => (k : Int)) rfl (by omega) ?_ ?_
  · intro k hk f
    try dsimp only
    refine (xm_ask1 h hN hs hc hk (f := f) _ rfl).trans ?_
    rw [if_pos (hv k hk)]
    exact congrArg f (by omega)
  · intro f
    try dsimp only
    rw [xg_183_0 h, hs, xe_cmp (by omega) (by omega) (by omega) (by omega), if_pos (by omega), xe_g1]
theorem xm_allAre0 {N b : Nat} (h : xl_OK M) (hN : N ≤ 10) (hs : xv_I M 183 0 = ((N + 1 : Nat) : Int)) (hc : RCs t n (N + 1) M) (hb : b < N + 1) (hv : ∀ k, k < b → tVok t n (tPk t n k)) (hx : ¬ tVok t n (tPk t n b)) : D_X4_allAreSpans 183 M = some (0, M) := by
  unfold D_X4_allAreSpans
  refine xe_loop (n := b) (fun k => (k : Int)) rfl (by omega) ?_ ?_
  · intro k hk f
    try dsimp only
    refine (xm_ask1 h hN hs hc (by omega) (f := f) _ rfl).trans ?_
    rw [if_pos (hv k hk)]
    exact congrArg f (by omega)
  · intro f
    try dsimp only
    refine (xm_ask1 h hN hs hc hb (f := f) _ rfl).trans ?_
    rw [if_neg hx, xe_g0]
end TXR
/-- the first k spans of the row, added -/
def rRow (a : RW) (t : Nat → Int) (n : Nat) : Nat → RW
  | 0 => a
  | k + 1 => rAdds (rRow a t n k) (tL t n (tPk t n k)) (tR t n (tPk t n k)) (tF t n (tPk t n k)) (tG t n (tPk t n k))
theorem rAdds_1 {a : RW} (q : rRQ a) (h60 : a 1 < 60) {l r f g : Int} (hb : 0 ≤ l ∧ l ≤ f ∧ f ≤ g ∧ g ≤ r ∧ r ≤ 1000) : rAdds a l r f g 1 = a 1 + 1 := by
  have qb := rRQ_add q h60 hb
  have kp := rAllN_keep qb.1.2.2.2.1 qb.1.1.1 qb.1.2.1.2 (rm (rAddB a l r f g)) qb.1.m
  exact kp.2.1.trans (rAddB_n (a := a) (l := l) (r := r) (f := f) (g := g)).1
theorem tVok_b {t : Nat → Int} {n p : Nat} (g : tGood t n p) (v : tVok t n p) : 0 ≤ tL t n p ∧ tL t n p ≤ tF t n p ∧ tF t n p ≤ tG t n p ∧ tG t n p ≤ tR t n p ∧ tR t n p ≤ 1000 := by
  obtain ⟨_, g2, g3⟩ := g
  obtain ⟨b1, b2, b3⟩ := tNum_b t n (p + 1)
  have e1 : tNum t n (p + 1) = tL t n p := rfl
  rw [e1] at b1 b2 b3
  have hl : tL t n p ≠ -1 := fun z => g2.1 (b3.mp z)
  refine ⟨by omega, ?_, v.2.2.2, ?_, v.2.1⟩
  · unfold tF
    by_cases c : tCh t n p 91
    · rw [if_pos c]; omega
    · rw [if_neg c]; omega
  · unfold tG
    by_cases c : tCh t n (tE t n p) 93
    · rw [if_pos c]; omega
    · rw [if_neg c]; omega
theorem rRow_ok {a : RW} {t : Nat → Int} {n N : Nat} (q : rRW a) (hr : a 1 + ((N : Nat) : Int) ≤ 60) (hg : ∀ k, k < N → tGood t n (tPk t n k) ∧ tVok t n (tPk t n k)) : ∀ k, k ≤ N → rRW (rRow a t n k) ∧ rRow a t n k 1 = a 1 + (k : Int)
  | 0, _ => ⟨q, by show a 1 = a 1 + ((0 : Nat) : Int); omega⟩
  | k + 1, hk => by
    obtain ⟨i1, i2⟩ := rRow_ok q hr hg k (by omega)
    obtain ⟨g, v⟩ := hg k (by omega)
    have hb := tVok_b g v
    refine ⟨rRW_adds i1.1 (by omega) hb, ?_⟩
    show rAdds _ _ _ _ _ 1 = _
    rw [rAdds_1 i1.1 (by omega) hb, i2]
    omega
