/-! ## the reference reads a row of spans -/
section TXM
variable {M : xv_M} {t : Nat → Int} {n : Nat}
theorem md_isDigit (h : xl_OK M) (tm : TM t n M) (tk : tOK t n) {p : Nat} (hp : p ≤ n) (hpos : xv_I M 188 7 = (p : Int)) : D_X12_isDigit 188 M = some (if tDig t n p then 1 else 0, M) := by
  have hn := tk.1
  unfold D_X12_isDigit
  rw [xg_188_7 h, hpos, xg_188_5 h, tm.1, xe_cmp (by omega) (by omega) (by omega) (by omega)]
  by_cases h1 : p < n
  · have ht := tk.2 p h1
    rw [if_neg (by omega), xg_188_6 h, xg_188_7 h, hpos, xa_192 h (by omega) (by omega), Int.toNat_natCast, tm.2 p h1, md_in (by omega) (by omega) (by omega), xe_call, xe_b0]
    by_cases h2 : 48 ≤ t p ∧ t p ≤ 57
    · rw [if_pos h2, if_pos ⟨h1, h2⟩, xe_g1]
    · rw [if_neg h2, if_neg (fun z => h2 z.2), xe_g0]
  · rw [if_pos (by omega), if_neg (fun z => h1 z.1), xe_g0]
theorem md_takes (h : xl_OK M) (tm : TM t n M) (tk : tOK t n) {p : Nat} (hp : p ≤ n) (hpos : xv_I M 188 7 = (p : Int)) {c : Int} (hc : 0 ≤ c ∧ c ≤ 65535) : D_X12_takes 188 c M = some (if tCh t n p c then 1 else 0, if tCh t n p c then xv_sI M 188 7 ((p : Int) + 1) else M) := by
  have hn := tk.1
  unfold D_X12_takes
  rw [xg_188_7 h, hpos, xg_188_5 h, tm.1, xe_cmp (by omega) (by omega) (by omega) (by omega)]
  by_cases h1 : p < n
  · have ht := tk.2 p h1
    rw [if_neg (by omega), xg_188_6 h, xg_188_7 h, hpos, xa_192 h (by omega) (by omega), Int.toNat_natCast, tm.2 p h1, xe_cmp (by omega) (by omega) (by omega) (by omega)]
    by_cases h2 : t p = c
    · have h3 : tCh t n p c := ⟨h1, h2⟩
      rw [if_pos h2, if_pos h3, if_pos h3, xg_188_7 h, hpos, xu_188_7 h, xe_g1]
    · have h3 : ¬ tCh t n p c := fun z => h2 z.2
      rw [if_neg h2, if_neg h3, if_neg h3, xe_g0]
  · have h3 : ¬ tCh t n p c := fun z => h1 z.1
    rw [if_pos (by omega), if_neg h3, if_neg h3, xe_g0]
/-- behind k digits -/
def mNum (M : xv_M) (t : Nat → Int) (p k : Nat) : xv_M := xv_sI (xv_sI M 188 8 (tNv t p k)) 188 7 ((p + k : Nat) : Int)
theorem mNum_md {p k : Nat} : MdF M (mNum M t p k) := (MdF.sI (by decide)).tr (MdF.sI (by decide))
theorem mNum_8 {p k : Nat} : xv_I (mNum M t p k) 188 8 = tNv t p k := by
  unfold mNum
  rw [xe_I_sI, if_neg (by decide), xe_I_sI, if_pos ⟨rfl, rfl⟩]
theorem mNum_7 {p k : Nat} : xv_I (mNum M t p k) 188 7 = ((p + k : Nat) : Int) := by
  unfold mNum
  rw [xe_I_sI, if_pos ⟨rfl, rfl⟩]
theorem md_takesNumber0 (h : xl_OK M) (tm : TM t n M) (tk : tOK t n) {p : Nat} (hp : p ≤ n) (hpos : xv_I M 188 7 = (p : Int)) (hL : tNl t n p = 0) : D_X12_takesNumber 188 M = some (0, M) := by
  obtain ⟨s1, s2, s3⟩ := tNl_spec t n p
  rw [hL] at s2
  have hd : ¬ tDig t n p := fun z => s2 ⟨by decide, z, Or.inl rfl⟩
  unfold D_X12_takesNumber
  rw [xr_188 h, md_isDigit h tm tk hp hpos, xe_call, if_neg hd, xe_cmp (by decide) (by decide) (by decide) (by decide), if_neg (by decide), xe_g0]
theorem md_takesNumber1 (h : xl_OK M) (tm : TM t n M) (tk : tOK t n) {p : Nat} (hp : p ≤ n) (hpos : xv_I M 188 7 = (p : Int)) (hL : tNl t n p ≠ 0) : D_X12_takesNumber 188 M = some (1, mNum M t p (tNl t n p)) := by
  have hn := tk.1
  obtain ⟨s1, s2, s3⟩ := tNl_spec t n p
  have hle := tNl_le (t := t) hp
  have bb : ∀ k, k ≤ tNl t n p → 0 ≤ tNv t p k ∧ tNv t p k ≤ 9999 := fun k hk => tNv_bb hk
  generalize tNl t n p = L at *
  have hd : tDig t n p := (s1 0 (by omega)).2.1
  have hpn := hd.1
  have hO : ∀ k, xl_OK (mNum M t p k) := fun _ => h
  have hT : ∀ k, TM t n (mNum M t p k) := fun k => tm.md mNum_md
  have e1 : t p - 48 = tNv t p 1 := by
    show t p - 48 = 10 * 0 + (t (p + 0) - 48)
    rw [Nat.add_zero]
    omega
  have i8 : xv_I (xv_sI M 188 8 (tNv t p 1)) 188 7 = (p : Int) := by rw [xe_I_sI, if_neg (by decide)]; exact hpos
  have eM : xv_sI (xv_sI M 188 8 (tNv t p 1)) 188 7 ((p : Int) + 1) = mNum M t p 1 := by
    unfold mNum
    rw [show ((p : Int) + 1) = ((p + 1 : Nat) : Int) by omega]
  unfold D_X12_takesNumber
  rw [xr_188 h, md_isDigit h tm tk hp hpos, xe_call, if_pos hd, xe_cmp (by decide) (by decide) (by decide) (by decide), if_pos (by decide), xg_188_6 h, xg_188_7 h, hpos, xa_192 h (by omega) (by omega), Int.toNat_natCast, tm.2 p hd.1, xu_188_8 h, e1, xg_188_7 (M := xv_sI M 188 8 (tNv t p 1)) h, i8, xu_188_7 (M := xv_sI M 188 8 (tNv t p 1)) h, eM]
  refine xe_loop (n := L - 1) (fun k => (((k + 1 : Nat) : Int), mNum M t p (k + 1))) rfl (by omega) ?_ ?_
  · intro k hk f
    obtain ⟨c1, c2, c3⟩ := s1 (k + 1) (by omega)
    have b := bb (k + 1) (by omega)
    have hc2 := c2.1
    try dsimp only
    have eN : xv_sI (xv_sI (mNum M t p (k + 1)) 188 8 (tNv t p (k + 1 + 1))) 188 7 (((p + (k + 1) : Nat) : Int) + 1) = mNum M t p (k + 1 + 1) := by
      rw [show (((p + (k + 1) : Nat) : Int) + 1) = ((p + (k + 1 + 1) : Nat) : Int) by omega]
      unfold mNum
      rw [tx_78]
    have ev : 10 * tNv t p (k + 1) + t (p + (k + 1)) - 48 = tNv t p (k + 1 + 1) := by
      show _ = 10 * tNv t p (k + 1) + (t (p + (k + 1)) - 48)
      omega
    have j8 : xv_I (xv_sI (mNum M t p (k + 1)) 188 8 (tNv t p (k + 1 + 1))) 188 7 = ((p + (k + 1) : Nat) : Int) := by rw [xe_I_sI, if_neg (by decide)]; exact mNum_7
    rw [xe_cmp (by omega) (by omega) (by decide) (by decide), if_neg (by omega), xg_188_8 (hO _), mNum_8, xe_cmp (by omega) (by omega) (by decide) (by decide), if_neg (by omega), xr_188 (hO _), md_isDigit (hO _) (hT _) tk (by omega) mNum_7, xe_call, if_pos c2, xe_cmp (by decide) (by decide) (by decide) (by decide), if_neg (by decide), xg_188_8 (hO _), mNum_8, xg_188_6 (hO _), xg_188_7 (hO _), mNum_7, xa_192 (hO _) (by omega) (by omega), Int.toNat_natCast, (hT _).2 _ c2.1, ev, xu_188_8 (hO _), xg_188_7 (M := xv_sI (mNum M t p (k + 1)) 188 8 (tNv t p (k + 1 + 1))) h, j8, xu_188_7 (M := xv_sI (mNum M t p (k + 1)) 188 8 (tNv t p (k + 1 + 1))) h, eN]
    exact congrArg f (Prod.ext (by show ((k + 1 : Nat) : Int) + 1 = ((k + 1 + 1 : Nat) : Int); omega) rfl)
  · intro f
    have eL : L - 1 + 1 = L := by omega
    have b := bb L (Nat.le_refl _)
    try dsimp only
    rw [eL, xe_cmp (by omega) (by omega) (by decide) (by decide)]
    by_cases c1 : (4 : Int) ≤ (L : Int)
    · rw [if_pos c1, xe_g1]
    · rw [if_neg c1, xg_188_8 (hO _), mNum_8, xe_cmp (by omega) (by omega) (by decide) (by decide)]
      by_cases c2 : tNv t p L ≤ 0
      · rw [if_pos c2, xe_g1]
      · have c3 : ¬ tDig t n (p + L) := fun z => s2 ⟨by omega, z, Or.inr (by omega)⟩
        rw [if_neg c2, xr_188 (hO _), md_isDigit (hO _) (hT _) tk hle mNum_7, xe_call, if_neg c3, xe_cmp (by decide) (by decide) (by decide) (by decide), if_pos rfl, xe_g1]
/-- the span that begins at p, as the reference has it -/
def MC4 (t : Nat → Int) (n p : Nat) (M : xv_M) : Prop := xv_I M 188 9 = tL t n p ∧ xv_I M 188 10 = tR t n p ∧ xv_I M 188 11 = tF t n p ∧ xv_I M 188 12 = tG t n p
theorem md_takesSpan (h : xl_OK M) (tm : TM t n M) (tk : tOK t n) {p : Nat} (hp : p ≤ n) (hpos : xv_I M 188 7 = (p : Int)) : ∃ M', D_X12_takesSpan 188 M = some (if tGood t n p then 1 else 0, M') ∧ MdF M M' ∧ xv_I M' 188 7 = (tEnd t n p : Int) ∧ (tGood t n p → MC4 t n p M') := by
  have hn := tk.1
  unfold D_X12_takesSpan
  rw [xr_188 h, md_takes h tm tk hp hpos (by decide), xe_call]
  obtain ⟨M1, hM1⟩ : ∃ M1, M1 = xv_sI M 188 7 ((p : Int) + 1) := ⟨_, rfl⟩
  have r1 : MdF M M1 := by rw [hM1]; exact MdF.sI (by decide)
  have o1 : xl_OK M1 := r1.ok h
  have t1 : TM t n M1 := tm.md r1
  have p1 : xv_I M1 188 7 = ((p + 1 : Nat) : Int) := by rw [hM1, xe_I_sI, if_pos ⟨rfl, rfl⟩]; omega
  refine xe_letR (fun d => ∃ M', d = some (if tGood t n p then 1 else 0, M') ∧ MdF M M' ∧ xv_I M' 188 7 = (tEnd t n p : Int) ∧ (tGood t n p → MC4 t n p M')) (fun j => tOpn t n p → ∃ M', j M1 = some (if tGood t n p then 1 else 0, M') ∧ MdF M M' ∧ xv_I M' 188 7 = (tEnd t n p : Int) ∧ (tGood t n p → MC4 t n p M')) ?_ (fun j4 hj => ?_)
  · intro hop
    have bB := tB_le hop
    try dsimp only
    rw [xr_188 o1]
    have eB : p + 1 + tNl t n (p + 1) = tB t n p := rfl
    by_cases c0 : tNl t n (p + 1) = 0
    · have hng : ¬ tGood t n p := fun z => z.2.1.1 c0
      have ee : tEnd t n p = p + 1 := by
        unfold tEnd
        rw [if_pos hop, if_neg (fun z => z.1 c0), ← eB, c0]
      rw [md_takesNumber0 o1 t1 tk (by omega) p1 c0, xe_call, xe_cmp (by decide) (by decide) (by decide) (by decide), if_neg (by decide), xe_g0, if_neg hng, ee]
      exact ⟨M1, rfl, r1, p1, fun z => absurd z hng⟩
    · have eL : tL t n p = tNv t (p + 1) (tNl t n (p + 1)) := by
        unfold tL tNum
        rw [if_neg c0]
      rw [md_takesNumber1 o1 t1 tk (by omega) p1 c0, xe_call, xe_cmp (by decide) (by decide) (by decide) (by decide), if_pos (by decide)]
      obtain ⟨M5, hM5⟩ : ∃ M5, M5 = mNum M1 t (p + 1) (tNl t n (p + 1)) := ⟨_, rfl⟩
      rw [← hM5]
      have r5 : MdF M M5 := by rw [hM5]; exact r1.tr mNum_md
      have o5 : xl_OK M5 := r5.ok h
      have p5 : xv_I M5 188 7 = (tB t n p : Int) := by rw [hM5, mNum_7, eB]
      have v5 : xv_I M5 188 8 = tL t n p := by rw [hM5, mNum_8, eL]
      rw [xg_188_8 o5, v5, xu_188_9 o5]
      obtain ⟨M8, hM8⟩ : ∃ M8, M8 = xv_sI M5 188 9 (tL t n p) := ⟨_, rfl⟩
      rw [← hM8]
      have r8 : MdF M M8 := by rw [hM8]; exact r5.tr (MdF.sI (by decide))
      have o8 : xl_OK M8 := r8.ok h
      have v8 : xv_I M8 188 9 = tL t n p := by rw [hM8, xe_I_sI, if_pos ⟨rfl, rfl⟩]
      have p8 : xv_I M8 188 7 = (tB t n p : Int) := by rw [hM8, xe_I_sI, if_neg (by decide)]; exact p5
      have eF : tF t n p = if tCh t n p 40 then tL t n p + 1 else tL t n p := by
        unfold tF
        by_cases c1 : tCh t n p 91
        · have c2 : ¬ tCh t n p 40 := fun z => by have := z.2; have := c1.2; omega
          rw [if_pos c1, if_neg c2]
        · rcases hop with z | z
          · exact absurd z c1
          · rw [if_neg c1, if_pos z]
      refine xe_letR (fun d => ∃ M', d = some (if tGood t n p then 1 else 0, M') ∧ MdF M M' ∧ xv_I M' 188 7 = (tEnd t n p : Int) ∧ (tGood t n p → MC4 t n p M')) (fun j => ∃ M', j (188, tF t n p) = some (if tGood t n p then 1 else 0, M') ∧ MdF M M' ∧ xv_I M' 188 7 = (tEnd t n p : Int) ∧ (tGood t n p → MC4 t n p M')) ?_ (fun j10 hj => ?_)
      · try dsimp only
        rw [xu_188_11 o8]
        obtain ⟨M11, hM11⟩ : ∃ M11, M11 = xv_sI M8 188 11 (tF t n p) := ⟨_, rfl⟩
        rw [← hM11]
        have r11 : MdF M M11 := by rw [hM11]; exact r8.tr (MdF.sI (by decide))
        have o11 : xl_OK M11 := r11.ok h
        have t11 : TM t n M11 := tm.md r11
        have p11 : xv_I M11 188 7 = (tB t n p : Int) := by rw [hM11, xe_I_sI, if_neg (by decide)]; exact p8
        have v11 : xv_I M11 188 9 = tL t n p := by rw [hM11, xe_I_sI, if_neg (by decide)]; exact v8
        have w11 : xv_I M11 188 11 = tF t n p := by rw [hM11, xe_I_sI, if_pos ⟨rfl, rfl⟩]
        rw [xr_188 o11, md_takes o11 t11 tk bB.2 p11 (by decide), xe_call]
        by_cases c1 : tCh t n (tB t n p) 44
        · have hmid : tMid t n p := ⟨c0, c1⟩
          have bE := tE_le hmid
          rw [if_pos c1, if_pos c1, xe_cmp (by decide) (by decide) (by decide) (by decide), if_neg (by decide)]
          obtain ⟨M12, hM12⟩ : ∃ M12, M12 = xv_sI M11 188 7 ((tB t n p : Int) + 1) := ⟨_, rfl⟩
          rw [← hM12]
          have r12 : MdF M M12 := by rw [hM12]; exact r11.tr (MdF.sI (by decide))
          have o12 : xl_OK M12 := r12.ok h
          have t12 : TM t n M12 := tm.md r12
          have p12 : xv_I M12 188 7 = ((tB t n p + 1 : Nat) : Int) := by rw [hM12, xe_I_sI, if_pos ⟨rfl, rfl⟩]; omega
          have eE : tB t n p + 1 + tNl t n (tB t n p + 1) = tE t n p := rfl
          rw [xr_188 o12]
          by_cases c2 : tNl t n (tB t n p + 1) = 0
          · have hng : ¬ tGood t n p := fun z => z.2.2.1 c2
            have ee : tEnd t n p = tB t n p + 1 := by
              unfold tEnd
              rw [if_pos hop, if_pos hmid, if_neg (fun z => z.1 c2), ← eE, c2]
            rw [md_takesNumber0 o12 t12 tk c1.1 p12 c2, xe_call, xe_cmp (by decide) (by decide) (by decide) (by decide), if_neg (by decide), xe_g0, if_neg hng, ee]
            exact ⟨M12, rfl, r12, p12, fun z => absurd z hng⟩
          · have eR : tR t n p = tNv t (tB t n p + 1) (tNl t n (tB t n p + 1)) := by
              unfold tR tNum
              rw [if_neg c2]
            rw [md_takesNumber1 o12 t12 tk c1.1 p12 c2, xe_call, xe_cmp (by decide) (by decide) (by decide) (by decide), if_pos (by decide)]
            obtain ⟨M14, hM14⟩ : ∃ M14, M14 = mNum M12 t (tB t n p + 1) (tNl t n (tB t n p + 1)) := ⟨_, rfl⟩
            rw [← hM14]
            have r14 : MdF M M14 := by rw [hM14]; exact r12.tr mNum_md
            have o14 : xl_OK M14 := r14.ok h
            have p14 : xv_I M14 188 7 = (tE t n p : Int) := by rw [hM14, mNum_7, eE]
            have v14 : xv_I M14 188 8 = tR t n p := by rw [hM14, mNum_8, eR]
            have k14 : ∀ j, (j = 9 ∨ j = 11) → xv_I M14 188 j = xv_I M11 188 j := fun j hj => by
              rw [hM14]
              unfold mNum
              rw [xe_I_sI, if_neg (by omega), xe_I_sI, if_neg (by omega), hM12, xe_I_sI, if_neg (by omega)]
            rw [xg_188_8 o14, v14, xu_188_10 o14]
            obtain ⟨M17, hM17⟩ : ∃ M17, M17 = xv_sI M14 188 10 (tR t n p) := ⟨_, rfl⟩
            rw [← hM17]
            have r17 : MdF M M17 := by rw [hM17]; exact r14.tr (MdF.sI (by decide))
            have o17 : xl_OK M17 := r17.ok h
            have t17 : TM t n M17 := tm.md r17
            have p17 : xv_I M17 188 7 = (tE t n p : Int) := by rw [hM17, xe_I_sI, if_neg (by decide)]; exact p14
            have a17 : xv_I M17 188 9 = tL t n p := by rw [hM17, xe_I_sI, if_neg (by decide), k14 9 (Or.inl rfl)]; exact v11
            have b17 : xv_I M17 188 11 = tF t n p := by rw [hM17, xe_I_sI, if_neg (by decide), k14 11 (Or.inr rfl)]; exact w11
            have c17 : xv_I M17 188 10 = tR t n p := by rw [hM17, xe_I_sI, if_pos ⟨rfl, rfl⟩]
            rw [xr_188 o17, md_takes o17 t17 tk bE.2 p17 (by decide), xe_call]
            by_cases c3 : tCh t n (tE t n p) 41
            · have n3 : ¬ tCh t n (tE t n p) 93 := fun z => by have := z.2; have := c3.2; omega
              have hcl : tCls t n p := ⟨c2, Or.inr c3⟩
              have hg : tGood t n p := ⟨hop, hmid, hcl⟩
              have ee : tEnd t n p = tE t n p + 1 := (tEnd_good hg).1
              have eG : tG t n p = tR t n p - 1 := by unfold tG; rw [if_neg n3]
              rw [if_pos c3, if_pos c3]
              obtain ⟨M18, hM18⟩ : ∃ M18, M18 = xv_sI M17 188 7 ((tE t n p : Int) + 1) := ⟨_, rfl⟩
              rw [← hM18]
              have r18 : MdF M M18 := by rw [hM18]; exact r17.tr (MdF.sI (by decide))
              have o18 : xl_OK M18 := r18.ok h
              have c18 : xv_I M18 188 10 = tR t n p := by rw [hM18, xe_I_sI, if_neg (by decide)]; exact c17
              refine xe_letR (fun d => ∃ M', d = some (if tGood t n p then 1 else 0, M') ∧ MdF M M' ∧ xv_I M' 188 7 = (tEnd t n p : Int) ∧ (tGood t n p → MC4 t n p M')) (fun j => ∃ M', j (188, tG t n p) = some (if tGood t n p then 1 else 0, M') ∧ MdF M M' ∧ xv_I M' 188 7 = (tEnd t n p : Int) ∧ (tGood t n p → MC4 t n p M')) ?_ (fun j21 hj => ?_)
              · try dsimp only
                rw [xu_188_12 o18, xe_cmp (by decide) (by decide) (by decide) (by decide), if_pos (by decide), xe_g1, if_pos hg, ee]
                refine ⟨_, rfl, r18.tr (MdF.sI (by decide)), ?_, fun _ => ⟨?_, ?_, ?_, ?_⟩⟩
                · rw [xe_I_sI, if_neg (by decide), hM18, xe_I_sI, if_pos ⟨rfl, rfl⟩]; omega
                · rw [xe_I_sI, if_neg (by decide), hM18, xe_I_sI, if_neg (by decide)]; exact a17
                · rw [xe_I_sI, if_neg (by decide)]; exact c18
                · rw [xe_I_sI, if_neg (by decide), hM18, xe_I_sI, if_neg (by decide)]; exact b17
                · rw [xe_I_sI, if_pos ⟨rfl, rfl⟩]
              · rw [xe_cmp (by decide) (by decide) (by decide) (by decide), if_neg (by decide), xg_188_10 o18, c18, ← eG]
                exact hj
            · have eG : tCls t n p → tG t n p = tR t n p := fun z => by
                rcases z.2 with y | y
                · unfold tG
                  rw [if_pos y]
                · exact absurd y c3
              rw [if_neg c3, if_neg c3]
              refine xe_letR (fun d => ∃ M', d = some (if tGood t n p then 1 else 0, M') ∧ MdF M M' ∧ xv_I M' 188 7 = (tEnd t n p : Int) ∧ (tGood t n p → MC4 t n p M')) (fun j => ∃ M', j (188, tR t n p) = some (if tGood t n p then 1 else 0, M') ∧ MdF M M' ∧ xv_I M' 188 7 = (tEnd t n p : Int) ∧ (tGood t n p → MC4 t n p M')) ?_ (fun j21 hj => ?_)
              · try dsimp only
                rw [xu_188_12 o17, xe_cmp (by decide) (by decide) (by decide) (by decide), if_neg (by decide)]
                obtain ⟨M22, hM22⟩ : ∃ M22, M22 = xv_sI M17 188 12 (tR t n p) := ⟨_, rfl⟩
                rw [← hM22]
                have r22 : MdF M M22 := by rw [hM22]; exact r17.tr (MdF.sI (by decide))
                have o22 : xl_OK M22 := r22.ok h
                have t22 : TM t n M22 := tm.md r22
                have p22 : xv_I M22 188 7 = (tE t n p : Int) := by rw [hM22, xe_I_sI, if_neg (by decide)]; exact p17
                rw [xr_188 o22, md_takes o22 t22 tk bE.2 p22 (by decide), xe_call]
                by_cases c4 : tCh t n (tE t n p) 93
                · have hcl : tCls t n p := ⟨c2, Or.inl c4⟩
                  have hg : tGood t n p := ⟨hop, hmid, hcl⟩
                  have ee : tEnd t n p = tE t n p + 1 := (tEnd_good hg).1
                  rw [if_pos c4, if_pos c4, xe_cmp (by decide) (by decide) (by decide) (by decide), if_neg (by decide), xe_g1, if_pos hg, ee]
                  refine ⟨_, rfl, r22.tr (MdF.sI (by decide)), ?_, fun _ => ⟨?_, ?_, ?_, ?_⟩⟩
                  · rw [xe_I_sI, if_pos ⟨rfl, rfl⟩]; omega
                  · rw [xe_I_sI, if_neg (by decide), hM22, xe_I_sI, if_neg (by decide)]; exact a17
                  · rw [xe_I_sI, if_neg (by decide), hM22, xe_I_sI, if_neg (by decide)]; exact c17
                  · rw [xe_I_sI, if_neg (by decide), hM22, xe_I_sI, if_neg (by decide)]; exact b17
                  · rw [xe_I_sI, if_neg (by decide), hM22, xe_I_sI, if_pos ⟨rfl, rfl⟩, eG hcl]
                · have hnc : ¬ tCls t n p := fun z => by
                    rcases z.2 with y | y
                    · exact c4 y
                    · exact c3 y
                  have hng : ¬ tGood t n p := fun z => hnc z.2.2
                  have ee : tEnd t n p = tE t n p := by
                    unfold tEnd
                    rw [if_pos hop, if_pos hmid, if_neg hnc]
                  rw [if_neg c4, if_neg c4, xe_cmp (by decide) (by decide) (by decide) (by decide), if_pos rfl, xe_g0, if_neg hng, ee]
                  exact ⟨M22, rfl, r22, p22, fun z => absurd z hng⟩
              · rw [xe_cmp (by decide) (by decide) (by decide) (by decide), if_pos rfl, xg_188_10 o17, c17]
                exact hj
        · have hnm : ¬ tMid t n p := fun z => c1 z.2
          have hng : ¬ tGood t n p := fun z => hnm z.2.1
          have ee : tEnd t n p = tB t n p := by
            unfold tEnd
            rw [if_pos hop, if_neg hnm]
          rw [if_neg c1, if_neg c1, xe_cmp (by decide) (by decide) (by decide) (by decide), if_pos rfl, xe_g0, if_neg hng, ee]
          exact ⟨M11, rfl, r11, p11, fun z => absurd z hng⟩
      · by_cases c4 : tCh t n p 40
        · rw [if_pos c4, xe_cmp (by decide) (by decide) (by decide) (by decide), if_neg (by decide), xg_188_9 o8, v8]
          rw [eF, if_pos c4] at hj
          exact hj
        · rw [if_neg c4, xe_cmp (by decide) (by decide) (by decide) (by decide), if_pos rfl, xg_188_9 o8, v8]
          rw [eF, if_neg c4] at hj
          exact hj
  · by_cases c1 : tCh t n p 40
    · rw [if_pos c1, if_pos c1, ← hM1, xe_cmp (by decide) (by decide) (by decide) (by decide), if_pos (by decide)]
      exact hj (Or.inr c1)
    · rw [if_neg c1, if_neg c1, xe_cmp (by decide) (by decide) (by decide) (by decide), if_neg (by decide), xr_188 h, md_takes h tm tk hp hpos (by decide), xe_call]
      by_cases c2 : tCh t n p 91
      · rw [if_pos c2, if_pos c2, ← hM1, xe_cmp (by decide) (by decide) (by decide) (by decide), if_pos (by decide)]
        exact hj (Or.inl c2)
      · have hno : ¬ tOpn t n p := fun z => by
          rcases z with y | y
          · exact c2 y
          · exact c1 y
        have hng : ¬ tGood t n p := fun z => hno z.1
        have ee : tEnd t n p = p := by
          unfold tEnd
          rw [if_neg hno]
        rw [if_neg c2, if_neg c2, xe_cmp (by decide) (by decide) (by decide) (by decide), if_neg (by decide), xe_g0, if_neg hng, ee]
        exact ⟨M, rfl, MdF.rf, hpos, fun z => absurd z hng⟩
end TXM
