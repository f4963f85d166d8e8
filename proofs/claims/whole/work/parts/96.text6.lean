/-! ## the reference: the row, all its spans added; readSpans of both -/
section TXN
variable {M : xv_M} {t : Nat → Int} {n : Nat}
theorem md_spansA (h : xl_OK M) (tm : TM t n M) (tk : tOK t n) {N : Nat} (hN : N ≤ 10) (hg : ∀ i, i < N → tGo t n i) (hx : ¬ tGo t n N) (hf : ¬ tFine t n N) : ∃ M', D_X12_spansOfText 188 M = some (-5, M') ∧ MdF M M' ∧ xv_I M' 188 7 = (tEnd t n (tPk t n N) : Int) := by
  have hn := tk.1
  unfold D_X12_spansOfText
  rw [xu_188_7 h]
  refine xe_inv0 (I := fun (k : Nat) (s : Int × Int × xv_M) => s.1 = (k : Int) ∧ s.2.1 = 1 ∧ MdF M s.2.2 ∧ xv_I s.2.2 188 7 = (tPk t n k : Int)) (n := N) (P := fun d => ∃ M', d = some (-5, M') ∧ MdF M M' ∧ xv_I M' 188 7 = (tEnd t n (tPk t n N) : Int)) (by omega) ⟨rfl, rfl, MdF.sI (by decide), by show xv_I (xv_sI M 188 7 0) 188 7 = _; rw [xe_I_sI, if_pos ⟨rfl, rfl⟩]; rfl⟩ ?_ ?_
  · rintro k ⟨i, b, X⟩ hk ⟨hi, hb, rx, px⟩
    dsimp only at hi hb rx px ⊢
    subst hi hb
    have ox := rx.ok h
    obtain ⟨_, b2⟩ := tPk_le k (fun i hi => hg i (by omega))
    obtain ⟨g1, g2⟩ := hg k hk
    obtain ⟨M4, d4, r4, p4, _⟩ := md_takesSpan ox (tm.md rx) tk b2 px
    have r4 := rx.tr r4
    have o4 := r4.ok h
    have t4 : xv_I M4 188 5 = (n : Int) := (tm.md r4).1
    have hlt := g2.1
    refine ⟨((k : Int) + 1, 1, xv_sI M4 188 7 ((tEnd t n (tPk t n k) : Int) + 1)), ⟨by show (k : Int) + 1 = ((k + 1 : Nat) : Int); omega, rfl, r4.tr (MdF.sI (by decide)), ?_⟩, fun f => ?_⟩
    · show xv_I (xv_sI M4 188 7 ((tEnd t n (tPk t n k) : Int) + 1)) 188 7 = ((tEnd t n (tPk t n k) + 1 : Nat) : Int)
      rw [xe_I_sI, if_pos ⟨rfl, rfl⟩]
      omega
    · rw [xe_cmp (by decide) (by decide) (by decide) (by decide), if_neg (by decide), xr_188 ox, d4, xe_call, if_pos g1, xe_cmp (by decide) (by decide) (by decide) (by decide), if_pos (by decide), xg_188_7 o4, p4, xg_188_5 o4, t4]
      refine xe_letp (fun j => j 1 = f ((k : Int) + 1, 1, xv_sI M4 188 7 ((tEnd t n (tPk t n k) : Int) + 1))) ?_ (fun j9 hj => ?_)
      · try dsimp only
        rw [xe_cmp (by decide) (by decide) (by decide) (by decide), if_neg (by decide), xr_188 o4, md_takes o4 (tm.md r4) tk (by omega) p4 (by decide), xe_call, if_pos g2, if_pos g2, xe_cmp (by decide) (by decide) (by decide) (by decide), if_pos (by decide)]
      · rw [xe_cmp (by omega) (by omega) (by omega) (by omega), if_neg (by omega), hj]
  · rintro ⟨i, b, X⟩ ⟨hi, hb, rx, px⟩ f
    dsimp only at hi hb rx px ⊢
    subst hi hb
    have ox := rx.ok h
    obtain ⟨_, b2⟩ := tPk_le N hg
    have b3 := tEnd_le (t := t) b2
    obtain ⟨M4, d4, r4, p4, _⟩ := md_takesSpan ox (tm.md rx) tk b2 px
    have r4 := rx.tr r4
    have o4 := r4.ok h
    have t4 : xv_I M4 188 5 = (n : Int) := (tm.md r4).1
    rw [xe_cmp (by decide) (by decide) (by decide) (by decide), if_neg (by decide), xr_188 ox, d4, xe_call]
    by_cases g1 : tGood t n (tPk t n N)
    · have e : tEnd t n (tPk t n N) ≠ n := fun z => hf ⟨g1, z⟩
      have g2 : ¬ tCh t n (tEnd t n (tPk t n N)) 59 := fun z => hx ⟨g1, z⟩
      rw [if_pos g1, xe_cmp (by decide) (by decide) (by decide) (by decide), if_pos (by decide), xg_188_7 o4, p4, xg_188_5 o4, t4]
      refine xe_letR (fun d => ∃ M', d = some (-5, M') ∧ MdF M M' ∧ xv_I M' 188 7 = (tEnd t n (tPk t n N) : Int)) (fun j => ∃ M', j 1 = some (-5, M') ∧ MdF M M' ∧ xv_I M' 188 7 = (tEnd t n (tPk t n N) : Int)) ?_ (fun j9 hj => ?_)
      · try dsimp only
        rw [xe_cmp (by decide) (by decide) (by decide) (by decide), if_neg (by decide), xr_188 o4, md_takes o4 (tm.md r4) tk (by omega) p4 (by decide), xe_call, if_neg g2, if_neg g2, xe_cmp (by decide) (by decide) (by decide) (by decide), if_neg (by decide)]
        exact ⟨M4, rfl, r4, p4⟩
      · rw [xe_cmp (by omega) (by omega) (by omega) (by omega), if_neg (by omega)]
        exact hj
    · rw [if_neg g1, xe_cmp (by decide) (by decide) (by decide) (by decide), if_neg (by decide)]
      exact ⟨M4, rfl, r4, p4⟩
theorem md_spansB (h : xl_OK M) (tm : TM t n M) (tk : tOK t n) {N : Nat} (hN : N ≤ 10) (hg : ∀ i, i < N → tGo t n i) (hf : tFine t n N) : ∃ M', D_X12_spansOfText 188 M = some (((N + 1 : Nat) : Int), M') ∧ MdF M M' := by
  have hn := tk.1
  unfold D_X12_spansOfText
  rw [xu_188_7 h]
  refine xe_inv0 (I := fun (k : Nat) (s : Int × Int × xv_M) => s.1 = (k : Int) ∧ s.2.1 = (if k ≤ N then 1 else 0) ∧ MdF M s.2.2 ∧ (k ≤ N → xv_I s.2.2 188 7 = (tPk t n k : Int))) (n := N + 1) (P := fun d => ∃ M', d = some (((N + 1 : Nat) : Int), M') ∧ MdF M M') (by omega) ⟨rfl, by show (1 : Int) = _; rw [if_pos (Nat.zero_le N)], MdF.sI (by decide), fun _ => by show xv_I (xv_sI M 188 7 0) 188 7 = _; rw [xe_I_sI, if_pos ⟨rfl, rfl⟩]; rfl⟩ ?_ ?_
  · rintro k ⟨i, b, X⟩ hk ⟨hi, hb, rx, px⟩
    dsimp only at hi hb rx px ⊢
    have hkN : k ≤ N := by omega
    rw [if_pos hkN] at hb
    subst hi hb
    have px := px hkN
    have ox := rx.ok h
    obtain ⟨_, b2⟩ := tPk_le k (fun i hi => hg i (by omega))
    have b3 := tEnd_le (t := t) b2
    obtain ⟨M4, d4, r4, p4, _⟩ := md_takesSpan ox (tm.md rx) tk b2 px
    have r4 := rx.tr r4
    have o4 := r4.ok h
    have t4 : xv_I M4 188 5 = (n : Int) := (tm.md r4).1
    by_cases eN : k = N
    · have g1 : tGood t n (tPk t n k) := by rw [eN]; exact hf.1
      have e2 : tEnd t n (tPk t n k) = n := by rw [eN]; exact hf.2
      refine ⟨((k : Int) + 1, 0, M4), ⟨by show (k : Int) + 1 = ((k + 1 : Nat) : Int); omega, by show (0 : Int) = _; rw [if_neg (by omega)], r4, fun z => absurd z (by omega)⟩, fun f => ?_⟩
      rw [xe_cmp (by decide) (by decide) (by decide) (by decide), if_neg (by decide), xr_188 ox, d4, xe_call, if_pos g1, xe_cmp (by decide) (by decide) (by decide) (by decide), if_pos (by decide), xg_188_7 o4, p4, xg_188_5 o4, t4]
      refine xe_letp (fun j => j 0 = f ((k : Int) + 1, 0, M4)) ?_ (fun j9 hj => ?_)
      · try dsimp only
        rw [xe_cmp (by decide) (by decide) (by decide) (by decide), if_pos rfl]
      · rw [xe_cmp (by omega) (by omega) (by omega) (by omega), if_pos (by omega), hj]
    · obtain ⟨g1, g2⟩ := hg k (by omega)
      have hlt := g2.1
      refine ⟨((k : Int) + 1, 1, xv_sI M4 188 7 ((tEnd t n (tPk t n k) : Int) + 1)), ⟨by show (k : Int) + 1 = ((k + 1 : Nat) : Int); omega, by show (1 : Int) = _; rw [if_pos (by omega)], r4.tr (MdF.sI (by decide)), fun _ => ?_⟩, fun f => ?_⟩
      · show xv_I (xv_sI M4 188 7 ((tEnd t n (tPk t n k) : Int) + 1)) 188 7 = ((tEnd t n (tPk t n k) + 1 : Nat) : Int)
        rw [xe_I_sI, if_pos ⟨rfl, rfl⟩]
        omega
      · rw [xe_cmp (by decide) (by decide) (by decide) (by decide), if_neg (by decide), xr_188 ox, d4, xe_call, if_pos g1, xe_cmp (by decide) (by decide) (by decide) (by decide), if_pos (by decide), xg_188_7 o4, p4, xg_188_5 o4, t4]
        refine xe_letp (fun j => j 1 = f ((k : Int) + 1, 1, xv_sI M4 188 7 ((tEnd t n (tPk t n k) : Int) + 1))) ?_ (fun j9 hj => ?_)
        · try dsimp only
          rw [xe_cmp (by decide) (by decide) (by decide) (by decide), if_neg (by decide), xr_188 o4, md_takes o4 (tm.md r4) tk (by omega) p4 (by decide), xe_call, if_pos g2, if_pos g2, xe_cmp (by decide) (by decide) (by decide) (by decide), if_pos (by decide)]
        · rw [xe_cmp (by omega) (by omega) (by omega) (by omega), if_neg (by omega), hj]
  · rintro ⟨i, b, X⟩ ⟨hi, hb, rx, px⟩ f
    dsimp only at hi hb rx px ⊢
    rw [if_neg (by omega)] at hb
    subst hi hb
    rw [xe_cmp (by decide) (by decide) (by decide) (by decide), if_pos rfl]
    exact ⟨X, rfl, rx⟩
/-- one span is taken again -/
theorem md_next (h : xl_OK M) (tm : TM t n M) (tk : tOK t n) {p : Nat} (hp : p ≤ n) (hpos : xv_I M 188 7 = (p : Int)) (hg : tGood t n p) : ∃ M1 M2, D_X12_takesSpan 188 M = some (1, M1) ∧ xl_OK M1 ∧ xv_I M1 188 7 = (tEnd t n p : Int) ∧ M2 = xv_sI M1 188 7 ((tEnd t n p : Int) + 1) ∧ xl_OK M2 ∧ MdF M M2 ∧ xv_I M2 188 7 = ((tEnd t n p + 1 : Nat) : Int) ∧ MC4 t n p M2 := by
  obtain ⟨M1, d1, r1, p1, c1⟩ := md_takesSpan h tm tk hp hpos
  rw [if_pos hg] at d1
  obtain ⟨c9, c10, c11, c12⟩ := c1 hg
  refine ⟨M1, _, d1, r1.ok h, p1, rfl, r1.ok h, r1.tr (MdF.sI (by decide)), ?_, ?_, ?_, ?_, ?_⟩
  · rw [xe_I_sI, if_pos ⟨rfl, rfl⟩]; omega
  · rw [xe_I_sI, if_neg (by decide)]; exact c9
  · rw [xe_I_sI, if_neg (by decide)]; exact c10
  · rw [xe_I_sI, if_neg (by decide)]; exact c11
  · rw [xe_I_sI, if_neg (by decide)]; exact c12
theorem md_rdA (h : xl_OK M) (tm : TM t n M) (tk : tOK t n) {N : Nat} (hN : N ≤ 10) (hg : ∀ i, i < N → tGo t n i) (hx : ¬ tGo t n N) (hf : ¬ tFine t n N) : ∃ M', D_X12_readSpans 188 M = some (-100 - (tEnd t n (tPk t n N) : Int), M') ∧ MdF M M' := by
  obtain ⟨M1, d1, r1, p1⟩ := md_spansA h tm tk hN hg hx hf
  have o1 := r1.ok h
  unfold D_X12_readSpans
  rw [xr_188 h, d1, xe_call, xe_cmp (by decide) (by decide) (by decide) (by decide), if_neg (by decide), xg_188_7 o1, p1]
  exact ⟨M1, rfl, r1⟩
/-- a span is asked for -/
theorem md_ask1 (h : xl_OK M) (tm : TM t n M) (tk : tOK t n) {p : Nat} (hp : p ≤ n) (hpos : xv_I M 188 7 = (p : Int)) (hg : tGood t n p) : ∃ M2, xl_OK M2 ∧ MdF M M2 ∧ xv_I M2 188 7 = ((tEnd t n p + 1 : Nat) : Int) ∧ ∀ (f : xv_M → Option (Int × xv_M)), (xv_call (xv_rc M 12 188 (D_X12_takesSpan 188 M)) (fun z23 M22 => (xv_gI M22 12 188 7 (fun v24 => (xv_pI M22 12 188 7 (v24 + (1 : Int)) (fun M25 => (xv_gI M25 12 188 9 (fun v26 => (xv_cmp v26 (1000 : Int) ((1000 : Int) < v26) (some ((-2 : Int), M25)) (xv_gI M25 12 188 10 (fun v27 => (xv_cmp v27 (1000 : Int) ((1000 : Int) < v27) (some ((-2 : Int), M25)) (xv_gI M25 12 188 10 (fun v28 => (xv_gI M25 12 188 9 (fun v29 => (xv_cmp v28 v29 (v28 < v29) (some ((-2 : Int), M25)) (xv_gI M25 12 188 11 (fun v30 => (xv_gI M25 12 188 12 (fun v31 => (xv_cmp v30 v31 (v30 ≤ v31) (f M25) (some ((-2 : Int), M25)))))))))))))))))))))))) = if tVok t n p then f M2 else some (-2, M2) := by
  obtain ⟨M1, M2, d1, o1, p1, e2, o2, r2, p2, c9, c10, c11, c12⟩ := md_next h tm tk hp hpos hg
  obtain ⟨b1, b2, b3, b4⟩ := tLR_b t n p
  refine ⟨M2, o2, r2, p2, fun f => ?_⟩
  rw [xr_188 h, d1, xe_call, xg_188_7 o1, p1, xu_188_7 o1, ← e2, xg_188_9 o2, c9, xe_cmp (by omega) (by omega) (by decide) (by decide)]
  by_cases q1 : 1000 < tL t n p
  · rw [if_pos q1, if_neg (fun z => by omega)]
  · rw [if_neg q1, xg_188_10 o2, c10, xe_cmp (by omega) (by omega) (by decide) (by decide)]
    by_cases q2 : 1000 < tR t n p
    · rw [if_pos q2, if_neg (fun z => by omega)]
    · rw [if_neg q2, xg_188_10 o2, c10, xg_188_9 o2, c9, xe_cmp (by omega) (by omega) (by omega) (by omega)]
      by_cases q3 : tR t n p < tL t n p
      · rw [if_pos q3, if_neg (fun z => by omega)]
      · rw [if_neg q3, xg_188_11 o2, c11, xg_188_12 o2, c12, xe_cmp (by omega) (by omega) (by omega) (by omega)]
        by_cases q4 : tF t n p ≤ tG t n p
        · rw [if_pos q4, if_pos ⟨by omega, by omega, by omega, q4⟩]
        · rw [if_neg q4, if_neg (fun z => q4 z.2.2.2)]
theorem tFine_good {N : Nat} (hg : ∀ i, i < N → tGo t n i) (hf : tFine t n N) : ∀ k, k < N + 1 → tGood t n (tPk t n k) ∧ tPk t n k ≤ n := fun k hk => by
  refine ⟨?_, (tPk_le k (fun i hi => hg i (by omega))).2⟩
  by_cases e : k = N
  · rw [e]; exact hf.1
  · exact (hg k (by omega)).1
theorem md_rdB (h : xl_OK M) (tm : TM t n M) (tk : tOK t n) {N : Nat} (hN : N ≤ 10) (hg : ∀ i, i < N → tGo t n i) (hf : tFine t n N) {b : Nat} (hb : b < N + 1) (hv : ∀ k, k < b → tVok t n (tPk t n k)) (hbx : ¬ tVok t n (tPk t n b)) : ∃ M', D_X12_readSpans 188 M = some (-2, M') ∧ MdF M M' := by
  obtain ⟨M1, d1, r1⟩ := md_spansB h tm tk hN hg hf
  have o1 := r1.ok h
  have gd := tFine_good hg hf
  unfold D_X12_readSpans
  rw [xr_188 h, d1, xe_call, xe_cmp (by omega) (by omega) (by decide) (by decide), if_pos (by omega), xu_188_7 o1]
  refine xe_inv0 (I := fun (k : Nat) (s : Int × xv_M) => s.1 = (k : Int) ∧ MdF M s.2 ∧ xv_I s.2 188 7 = (tPk t n k : Int)) (n := b) (P := fun d => ∃ M', d = some (-2, M') ∧ MdF M M') (by omega) ⟨rfl, r1.tr (MdF.sI (by decide)), by show xv_I (xv_sI M1 188 7 0) 188 7 = _; rw [xe_I_sI, if_pos ⟨rfl, rfl⟩]; rfl⟩ ?_ ?_
  · rintro k ⟨i, X⟩ hk ⟨hi, rx, px⟩
    dsimp only at hi rx px ⊢
    subst hi
    have ox := rx.ok h
    obtain ⟨g1, b2⟩ := gd k (by omega)
    obtain ⟨X2, o2, r2, p2, e2⟩ := md_ask1 ox (tm.md rx) tk b2 px g1
    refine ⟨((k : Int) + 1, X2), ⟨by show (k : Int) + 1 = ((k + 1 : Nat) : Int); omega, rx.tr r2, p2⟩, fun f => ?_⟩
    have e3 := e2 (fun M25 => f ((k : Int) + 1, M25))
    rw [if_pos (hv k hk)] at e3
    rw [xe_cmp (by omega) (by omega) (by omega) (by omega), if_neg (by omega)]
    exact e3
  · rintro ⟨i, X⟩ ⟨hi, rx, px⟩ f
    dsimp only at hi rx px ⊢
    subst hi
    have ox := rx.ok h
    obtain ⟨g1, b2⟩ := gd b hb
    obtain ⟨X2, o2, r2, p2, e2⟩ := md_ask1 ox (tm.md rx) tk b2 px g1
    have e3 := e2 (fun M25 => f ((b : Int) + 1, M25))
    rw [if_neg hbx] at e3
    rw [xe_cmp (by omega) (by omega) (by omega) (by omega), if_neg (by omega)]
    exact ⟨X2, e3, rx.tr r2⟩
theorem md_rdC (h : xl_OK M) (tm : TM t n M) (tk : tOK t n) {a : RW} (ea : xv_I M 189 = a) (g1 : 0 ≤ a 1 ∧ a 1 ≤ 60) {N : Nat} (hN : N ≤ 10) (hg : ∀ i, i < N → tGo t n i) (hf : tFine t n N) (hv : ∀ k, k < N + 1 → tVok t n (tPk t n k)) (hr : ¬ a 1 + ((N + 1 : Nat) : Int) ≤ 60) : ∃ M', D_X12_readSpans 188 M = some (-3, M') ∧ MdF M M' := by
  obtain ⟨M1, d1, r1⟩ := md_spansB h tm tk hN hg hf
  have o1 := r1.ok h
  have gd := tFine_good hg hf
  have i1 : (1 : Int).toNat = 1 := rfl
  unfold D_X12_readSpans
  rw [xr_188 h, d1, xe_call, xe_cmp (by omega) (by omega) (by decide) (by decide), if_pos (by omega), xu_188_7 o1]
  refine xe_inv0 (I := fun (k : Nat) (s : Int × xv_M) => s.1 = (k : Int) ∧ MdF M s.2 ∧ xv_I s.2 188 7 = (tPk t n k : Int)) (n := N + 1) (P := fun d => ∃ M', d = some (-3, M') ∧ MdF M M') (by omega) ⟨rfl, r1.tr (MdF.sI (by decide)), by show xv_I (xv_sI M1 188 7 0) 188 7 = _; rw [xe_I_sI, if_pos ⟨rfl, rfl⟩]; rfl⟩ ?_ ?_
  · rintro k ⟨i, X⟩ hk ⟨hi, rx, px⟩
    dsimp only at hi rx px ⊢
    subst hi
    have ox := rx.ok h
    obtain ⟨g1, b2⟩ := gd k (by omega)
    obtain ⟨X2, o2, r2, p2, e2⟩ := md_ask1 ox (tm.md rx) tk b2 px g1
    refine ⟨((k : Int) + 1, X2), ⟨by show (k : Int) + 1 = ((k + 1 : Nat) : Int); omega, rx.tr r2, p2⟩, fun f => ?_⟩
    have e3 := e2 (fun M25 => f ((k : Int) + 1, M25))
    rw [if_pos (hv k hk)] at e3
    rw [xe_cmp (by omega) (by omega) (by omega) (by omega), if_neg (by omega)]
    exact e3
  · rintro ⟨i, X⟩ ⟨hi, rx, px⟩ f
    dsimp only at hi rx px ⊢
    subst hi
    have ox := rx.ok h
    have ex : xv_I X 189 1 = a 1 := by rw [rx.2.2 189 1 (by omega), ea]
    rw [xe_cmp (by omega) (by omega) (by omega) (by omega), if_pos (by omega), xg_188_0 ox, xa_189 ox (by decide) (by decide), i1, ex, xe_cmp (by omega) (by omega) (by decide) (by decide), if_neg hr]
    exact ⟨X, rfl, rx⟩
/-- alike but for the row and what taking touches -/
def AF (M M' : xv_M) : Prop := M'.1 = M.1 ∧ M'.2.2 = M.2.2 ∧ ∀ r j, r ≠ 189 → ¬ (r = 188 ∧ 7 ≤ j ∧ j ≤ 12) → xv_I M' r j = xv_I M r j
theorem AF.tr {M M' M'' : xv_M} (h : AF M M') (g : AF M' M'') : AF M M'' := ⟨g.1.trans h.1, g.2.1.trans h.2.1, fun r j q1 q2 => (g.2.2 r j q1 q2).trans (h.2.2 r j q1 q2)⟩
theorem MdF.af {M M' : xv_M} (h : MdF M M') : AF M M' := ⟨h.1, h.2.1, fun r j _ q => h.2.2 r j q⟩
theorem AF.mk {M : xv_M} {a : RW} : AF M (mk M a) := ⟨rfl, rfl, fun r j q _ => mk_In q⟩
theorem AF.ok {M M' : xv_M} (h : AF M M') (hO : xl_OK M) : xl_OK M' := ⟨h.1.trans hO.1, fun r j hr => by
  show M'.2.2.2 r j = _
  rw [h.2.1]
  exact hO.2 r j hr⟩
theorem TM.af {M M' : xv_M} (h : TM t n M) (g : AF M M') : TM t n M' := ⟨(g.2.2 188 5 (by decide) (by omega)).trans h.1, fun i hi => (g.2.2 192 i (by decide) (by omega)).trans (h.2 i hi)⟩
theorem md_rdD (h : xl_OK M) (tm : TM t n M) (tk : tOK t n) {a H : RW} {k : Nat} (ea : xv_I M 189 = a) (eH : xv_I M 190 = H) (ek : xv_I M 188 2 = (k : Int)) (hk4 : k ≤ 4) (q : rRW a) {N : Nat} (hN : N ≤ 10) (hg : ∀ i, i < N → tGo t n i) (hf : tFine t n N) (hv : ∀ k, k < N + 1 → tVok t n (tPk t n k)) (hr : a 1 + ((N + 1 : Nat) : Int) ≤ 60) : ∃ X, D_X12_readSpans 188 M = some (((N + 1 : Nat) : Int), X) ∧ Scr (mAct M H a k (some (rRow a t n (N + 1)))) X := by
  obtain ⟨M1, d1, r1⟩ := md_spansB h tm tk hN hg hf
  have o1 := r1.ok h
  have gd := tFine_good hg hf
  have g1 := q.1.1.2.1
  have i1 : (1 : Int).toNat = 1 := rfl
  have gv : ∀ i, i < N + 1 → tGood t n (tPk t n i) ∧ tVok t n (tPk t n i) := fun i hi => ⟨(gd i hi).1, hv i hi⟩
  have ro := rRow_ok q hr gv
  unfold D_X12_readSpans
  rw [xr_188 h, d1, xe_call, xe_cmp (by omega) (by omega) (by decide) (by decide), if_pos (by omega), xu_188_7 o1]
  refine xe_inv0 (I := fun (k : Nat) (s : Int × xv_M) => s.1 = (k : Int) ∧ MdF M s.2 ∧ xv_I s.2 188 7 = (tPk t n k : Int)) (n := N + 1) (P := fun d => ∃ X, d = some (((N + 1 : Nat) : Int), X) ∧ Scr (mAct M H a k (some (rRow a t n (N + 1)))) X) (by omega) ⟨rfl, r1.tr (MdF.sI (by decide)), by show xv_I (xv_sI M1 188 7 0) 188 7 = _; rw [xe_I_sI, if_pos ⟨rfl, rfl⟩]; rfl⟩ ?_ ?_
  · rintro i ⟨z, X⟩ hi ⟨hz, rx, px⟩
    dsimp only at hz rx px ⊢
    subst hz
    have ox := rx.ok h
    obtain ⟨g1, b2⟩ := gd i (by omega)
    obtain ⟨X2, o2, r2, p2, e2⟩ := md_ask1 ox (tm.md rx) tk b2 px g1
    refine ⟨((i : Int) + 1, X2), ⟨by show (i : Int) + 1 = ((i + 1 : Nat) : Int); omega, rx.tr r2, p2⟩, fun f => ?_⟩
    have e3 := e2 (fun M25 => f ((i : Int) + 1, M25))
    rw [if_pos (hv i hi)] at e3
    rw [xe_cmp (by omega) (by omega) (by omega) (by omega), if_neg (by omega)]
    exact e3
  · rintro ⟨z, X⟩ ⟨hz, rx, px⟩ f
    dsimp only at hz rx px ⊢
    subst hz
    have ox := rx.ok h
    have ex : xv_I X 189 = a := by
      rw [← ea]
      exact funext fun j => rx.2.2 189 j (by omega)
    have eX : xv_I X 190 = H := by
      rw [← eH]
      exact funext fun j => rx.2.2 190 j (by omega)
    have eK : xv_I X 188 2 = (k : Int) := (rx.2.2 188 2 (by omega)).trans ek
    have en : mk (mkh X H (k : Int)) a = X := by rw [← ex, ← eX]; exact mk_norm eK
    have dr := md_record (M := X) (h := H) (a := a) ox hk4
    rw [en] at dr
    obtain ⟨X2, hX2⟩ : ∃ X2, X2 = mk (mkh X (hRec H k a) (hCnt k : Int)) a := ⟨_, rfl⟩
    rw [← hX2] at dr
    have o2 : xl_OK X2 := by rw [hX2]; exact ox
    have a2 : xv_I X2 189 = a := by rw [hX2]; exact funext fun j => mk_I
    have t2 : TM t n X2 := by
      refine ⟨?_, fun i hi => ?_⟩
      · rw [hX2, mk_In (by decide), mkh_In (by decide) (by decide)]; exact (tm.md rx).1
      · rw [hX2, mk_In (by decide), mkh_In (by decide) (by omega)]; exact (tm.md rx).2 i hi
    rw [xe_cmp (by omega) (by omega) (by omega) (by omega), if_pos (by omega), xg_188_0 ox, xa_189 ox (by decide) (by decide), i1, ex, xe_cmp (by omega) (by omega) (by decide) (by decide), if_pos hr, xr_188 ox, dr, xe_call, xu_188_7 o2]
    refine xe_inv0 (I := fun (i : Nat) (s : Int × xv_M) => s.1 = (i : Int) ∧ AF X2 s.2 ∧ xv_I s.2 189 = rRow a t n i ∧ xv_I s.2 188 7 = (tPk t n i : Int)) (n := N + 1) (P := fun d => ∃ X, d = some (((N + 1 : Nat) : Int), X) ∧ Scr (mAct M H a k (some (rRow a t n (N + 1)))) X) (by omega) ⟨rfl, (MdF.sI (by decide)).af, ?_, by show xv_I (xv_sI X2 188 7 0) 188 7 = _; rw [xe_I_sI, if_pos ⟨rfl, rfl⟩]; rfl⟩ ?_ ?_
    · show xv_I (xv_sI X2 188 7 0) 189 = a
      rw [← a2]
      exact funext fun j => by rw [xe_I_sI, if_neg (by omega)]
    · rintro i ⟨z, Y⟩ hi ⟨hz, ry, wy, py⟩
      dsimp only at hz ry wy py ⊢
      subst hz
      have oy := ry.ok o2
      obtain ⟨g1, b2⟩ := gd i (by omega)
      obtain ⟨Y1, Y2, e1, p1, p2, e3, p3, s3, p4, c9, c10, c11, c12⟩ := md_next oy (t2.af ry) tk b2 py g1
      obtain ⟨w1, w2⟩ := ro i (by omega)
      have hb := tVok_b g1 (hv i hi)
      have wy2 : xv_I Y2 189 = rRow a t n i := by
        rw [← wy]
        exact funext fun j => s3.2.2 189 j (by omega)
      have da := md_adds (M := Y2) (a := rRow a t n i) p3 w1.1.1 (by omega) (l := tL t n (tPk t n i)) (r := tR t n (tPk t n i)) (f := tF t n (tPk t n i)) (g' := tG t n (tPk t n i)) (rRQ_add w1.1 (by omega) hb).1
      rw [mk_at wy2] at da
      refine ⟨((i : Int) + 1, mk Y2 (rRow a t n (i + 1))), ⟨by show (i : Int) + 1 = ((i + 1 : Nat) : Int); omega, (ry.tr s3.af).tr AF.mk, funext fun j => mk_I, ?_⟩, fun f => ?_⟩
      · show xv_I (mk Y2 _) 188 7 = ((tEnd t n (tPk t n i) + 1 : Nat) : Int)
        rw [mk_In (by decide)]
        exact p4
      · rw [xe_cmp (by omega) (by omega) (by omega) (by omega), if_neg (by omega), xr_188 oy, e1, xe_call, xg_188_7 p1, p2, xu_188_7 p1, ← e3, xg_188_9 p3, c9, xg_188_10 p3, c10, xg_188_11 p3, c11, xg_188_12 p3, c12, xr_188 p3, da, xe_call]
        rfl
    · rintro ⟨z, Y⟩ ⟨hz, ry, wy, py⟩ f
      dsimp only at hz ry wy py ⊢
      subst hz
      rw [xe_cmp (by omega) (by omega) (by omega) (by omega), if_pos (by omega)]
      refine ⟨Y, rfl, ?_, ?_, fun r j hs => ?_⟩
      · rw [ry.1, hX2]
        exact rx.1
      · rw [ry.2.1, hX2]
        exact rx.2.1
      · show xv_I Y r j = xv_I (mk (mkh M (hRec H k a) (hCnt k : Int)) (rRow a t n (N + 1))) r j
        by_cases e : r = 189
        · subst e
          rw [wy, mk_I]
        · rw [mk_In e]
          by_cases e7 : r = 188 ∧ 7 ≤ j ∧ j ≤ 12
          · exfalso
            exact hs (Or.inr (Or.inr (Or.inr (Or.inr ⟨e7.1, by omega⟩))))
          · rw [ry.2.2 r j e e7, hX2, mk_In e]
            by_cases e2 : r = 190
            · subst e2
              rw [mkh_I190, mkh_I190]
            · by_cases e3 : r = 188 ∧ j = 2
              · obtain ⟨rfl, rfl⟩ := e3
                rw [mkh_Ik, mkh_Ik]
              · rw [mkh_In e2 e3, mkh_In e2 e3]
                exact rx.2.2 r j e7
end TXN
theorem tV_ex {t : Nat → Int} {n : Nat} : ∀ m, (∃ b, b < m ∧ (∀ k, k < b → tVok t n (tPk t n k)) ∧ ¬ tVok t n (tPk t n b)) ∨ ∀ k, k < m → tVok t n (tPk t n k)
  | 0 => Or.inr (fun i hi => absurd hi (Nat.not_lt_zero _))
  | m + 1 => by
    rcases tV_ex (t := t) (n := n) m with ⟨N, h1, h2, h3⟩ | h
    · exact Or.inl ⟨N, by omega, h2, h3⟩
    · by_cases c : tVok t n (tPk t n m)
      · refine Or.inr (fun i hi => ?_)
        by_cases e : i = m
        · subst e; exact c
        · exact h i (by omega)
      · exact Or.inl ⟨m, by omega, h, c⟩
theorem ok_readSpans (hbc : BC) {M : xv_M} (hi : INV M) : ok2 (D_X11_readSpans 1) (D_X12_readSpans 188) M := by
  have hi' := hi
  obtain ⟨k, hk, cl, sl, n, hn, h1, h2, h3⟩ := hi'
  have hO := hi.ok
  obtain ⟨t, ht⟩ : ∃ t : Nat → Int, t = xv_I M 192 := ⟨_, rfl⟩
  have tk : tOK t n := ⟨hn, fun i hi => by rw [ht]; exact (h3 i hi).2⟩
  have tc : TC t n M := ⟨h1, fun i hi => by rw [ht]; exact (h3 i hi).1⟩
  have tm : TM t n M := ⟨h2, fun i hi => by rw [ht]⟩
  have tmr : ∀ M', RdF M M' → TM t n M' := fun M' r => ⟨(r.2.2 188 5 (by omega)).trans tm.1, fun i hi => (r.2.2 192 i (by omega)).trans (tm.2 i hi)⟩
  have g1 := cl.2.1.1.1.2.1
  obtain ⟨N, hN, hg, hx⟩ := tN_ex (t := t) hn
  by_cases hf : tFine t n N
  · rcases tV_ex (t := t) (n := n) (N + 1) with ⟨b, hb, hv, hbx⟩ | hv
    · obtain ⟨M1, e1, r1⟩ := xc_rdB cl tc tk hN hg hx hf hb hv hbx
      obtain ⟨M2, e2, r2⟩ := md_rdB (r1.ok hO) (tmr M1 r1) tk hN hg hf hb hv hbx
      exact ⟨_, M1, M2, r1.ok hO, e1, e2, hi.scr (r1.scr.tr r2.scr)⟩
    · by_cases hr : xv_I M 189 1 + ((N + 1 : Nat) : Int) ≤ 60
      · obtain ⟨M0, M1, s0, e1, c⟩ := xc_rdD hbc cl tc tk hN hg hx hf hv hr
        have i0 : INV M0 := hi.scr s0
        have e189 : xv_I M0 189 = xv_I M 189 := funext fun j => s0.2.2 189 j (by omega)
        have e190 : xv_I M0 190 = xv_I M 190 := funext fun j => s0.2.2 190 j (by omega)
        have ek0 : xv_I M0 188 2 = (k : Int) := (s0.2.2 188 2 (by omega)).trans hk
        rw [← e189, ← e190] at c
        obtain ⟨en, o1, i2⟩ := i0.act ek0 c
        have fr : Fr M0 M1 := (show CLh _ _ _ M1 ∧ Fr M0 M1 from c).2
        have f189 : xv_I M1 189 = xv_I M0 189 := funext fun j => (fr.1 189 j (by omega) (by omega)).1
        have f190 : xv_I M1 190 = xv_I M0 190 := funext fun j => (fr.1 190 j (by omega) (by omega)).1
        have ek1 : xv_I M1 188 2 = (k : Int) := (fr.1 188 2 (by omega) (by omega)).1.trans ek0
        have tm1 : TM t n M1 := ⟨((fr.1 188 5 (by omega) (by omega)).1.trans (s0.2.2 188 5 (by omega))).trans tm.1, fun i hi => ((fr.1 192 i (by omega) (by omega)).1.trans (s0.2.2 192 i (by omega))).trans (tm.2 i hi)⟩
        obtain ⟨X, e2, s2⟩ := md_rdD o1 tm1 tk (a := xv_I M0 189) (H := xv_I M0 190) f189 f190 ek1 cl.2.2.2.1 (by rw [e189]; exact cl.2.1) hN hg hf hv (by rw [e189]; exact hr)
        exact ⟨_, M1, X, o1, e1, e2, i2.scr s2⟩
      · obtain ⟨M1, e1, r1⟩ := xc_rdC cl tc tk hN hg hx hf hv hr
        obtain ⟨M2, e2, r2⟩ := md_rdC (r1.ok hO) (tmr M1 r1) tk (a := xv_I M 189) (funext fun j => r1.2.2 189 j (by omega)) g1 hN hg hf hv hr
        exact ⟨_, M1, M2, r1.ok hO, e1, e2, hi.scr (r1.scr.tr r2.scr)⟩
  · obtain ⟨M1, e1, r1⟩ := xc_rdA cl tc tk hN hg hx hf
    obtain ⟨M2, e2, r2⟩ := md_rdA (r1.ok hO) (tmr M1 r1) tk hN hg hx hf
    exact ⟨_, M1, M2, r1.ok hO, e1, e2, hi.scr (r1.scr.tr r2.scr)⟩
