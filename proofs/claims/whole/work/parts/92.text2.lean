/-! ## the class reads a row of spans -/
section TXC
variable {M : xv_M} {t : Nat → Int} {n : Nat}
theorem xm_hasAt (h : xl_OK M) (tc : TC t n M) (tk : tOK t n) {p : Nat} (hp : p ≤ 100) {c : Int} (hc : 0 ≤ c ∧ c ≤ 65535) : D_X7_hasAt 181 (p : Int) c M = some (if tCh t n p c then 1 else 0, M) := by
  have hn := tk.1
  unfold D_X7_hasAt
  rw [xe_cmp (by omega) (by omega) (by decide) (by decide), if_neg (by omega), xg_181_0 h, tc.1, xe_cmp (by omega) (by omega) (by omega) (by omega)]
  by_cases h1 : p < n
  · have ht := tk.2 p h1
    rw [if_neg (by omega), xg_181_1 h, xa_182 h (by omega) (by omega), Int.toNat_natCast, tc.2 p h1, xe_cmp (by omega) (by omega) (by omega) (by omega)]
    by_cases h2 : t p = c
    · rw [if_neg (fun z => z h2), if_pos ⟨h1, h2⟩, xe_g1]
    · rw [if_pos h2, if_neg (fun z => h2 z.2), xe_g0]
  · rw [if_pos (by omega), if_neg (fun z => h1 z.1), xe_g0]
theorem xm_hasDigitAt (h : xl_OK M) (tc : TC t n M) (tk : tOK t n) {p : Nat} (hp : p ≤ 100) : D_X7_hasDigitAt 181 (p : Int) M = some (if tDig t n p then 1 else 0, M) := by
  have hn := tk.1
  unfold D_X7_hasDigitAt
  rw [xe_cmp (by omega) (by omega) (by decide) (by decide), if_neg (by omega), xg_181_0 h, tc.1, xe_cmp (by omega) (by omega) (by omega) (by omega)]
  by_cases h1 : p < n
  · have ht := tk.2 p h1
    rw [if_neg (by omega), xg_181_1 h, xa_182 h (by omega) (by omega), Int.toNat_natCast, tc.2 p h1, xe_cmp (by omega) (by omega) (by decide) (by decide)]
    by_cases h2 : t p < 48
    · rw [if_pos h2, if_neg (fun z => by omega), xe_g0]
    · rw [if_neg h2, xg_181_1 h, xa_182 h (by omega) (by omega), Int.toNat_natCast, tc.2 p h1, xe_cmp (by omega) (by omega) (by decide) (by decide)]
      by_cases h3 : 57 < t p
      · rw [if_pos h3, if_neg (fun z => by omega), xe_g0]
      · rw [if_neg h3, if_pos ⟨h1, by omega, by omega⟩, xe_g1]
  · rw [if_pos (by omega), if_neg (fun z => h1 z.1), xe_g0]
theorem xm_digitAt (h : xl_OK M) (tc : TC t n M) (tk : tOK t n) {p : Nat} (hp : p ≤ 100) (hd : tDig t n p) : D_X7_digitAt 181 (p : Int) M = some (t p - 48, M) := by
  have hn := tk.1
  unfold D_X7_digitAt
  rw [xr_181 h, xm_hasDigitAt h tc tk hp, xe_call, if_pos hd, xe_cmp (by decide) (by decide) (by decide) (by decide), if_neg (by decide), xg_181_1 h, xa_182 h (by omega) (by have := hd.1; omega), Int.toNat_natCast, tc.2 p hd.1]
theorem xm_readSign (h : xl_OK M) (tc : TC t n M) (tk : tOK t n) {p : Nat} (hp : p ≤ 100) (hpos : xv_I M 183 5 = (p : Int)) {c : Int} (hc : 0 ≤ c ∧ c ≤ 65535) : D_X4_readSign 183 181 c M = some (if tCh t n p c then 1 else 0, if tCh t n p c then xv_sI M 183 5 ((p : Int) + 1) else M) := by
  unfold D_X4_readSign
  rw [xg_183_5 h, hpos, xr_181 h, xm_hasAt h tc tk hp hc, xe_call, xe_b1]
  by_cases h1 : tCh t n p c
  · rw [if_pos h1, if_pos h1, if_pos h1, xg_183_5 h, hpos, xu_183_5 h, xe_g1]
  · rw [if_neg h1, if_neg h1, if_neg h1, xe_g0]
theorem xm_readNumber (h : xl_OK M) (tc : TC t n M) (tk : tOK t n) {p : Nat} (hp : p ≤ n) (hpos : xv_I M 183 5 = (p : Int)) : D_X4_readNumber 183 181 M = some (tNum t n p, xv_sI M 183 5 ((p + tNl t n p : Nat) : Int)) := by
  have hn := tk.1
  obtain ⟨s1, s2, s3⟩ := tNl_spec t n p
  have hle := tNl_le (t := t) hp
  have bb : ∀ k, k ≤ tNl t n p → 0 ≤ tNv t p k ∧ tNv t p k ≤ 9999 := fun k hk => tNv_bb hk
  have hnum : tNum t n p = if tNl t n p = 0 then -1 else tNv t p (tNl t n p) := rfl
  rw [hnum]
  generalize tNl t n p = L at *
  have hO : ∀ v, xl_OK (xv_sI M 183 5 v) := fun _ => h
  have hT : ∀ v, TC t n (xv_sI M 183 5 v) := fun v => tc.rd (RdF.sI (by decide))
  have hI : ∀ v, xv_I (xv_sI M 183 5 v) 183 5 = v := fun v => by rw [xe_I_sI, if_pos ⟨rfl, rfl⟩]
  unfold D_X4_readNumber
  refine xe_loop (n := L) (fun k => (tNv t p k, (k : Int), xv_sI M 183 5 ((p + k : Nat) : Int))) ?_ (by omega) ?_ ?_
  · exact Prod.ext rfl (Prod.ext rfl (tx_self hpos).symm)
  · intro k hk f
    obtain ⟨c1, c2, c3⟩ := s1 k hk
    have b := bb k (by omega)
    try dsimp only
    refine xe_letp (fun _ => True) trivial (fun j4 _ => ?_)
    rw [xe_cmp (by omega) (by omega) (by decide) (by decide), if_neg (by omega), xg_183_5 (hO _), hI, xr_181 (hO _), xm_hasDigitAt (hO _) (hT _) tk (by omega), xe_call, xe_b0, if_pos c2]
    refine xe_letp (fun j => j () = f (tNv t p (k + 1), ((k + 1 : Nat) : Int), xv_sI M 183 5 ((p + (k + 1) : Nat) : Int))) ?_ (fun j9 hj => ?_)
    · try dsimp only
      rw [xg_183_5 (hO _), hI, xr_181 (hO _), xm_digitAt (hO _) (hT _) tk (by omega) c2, xe_call, xg_183_5 (hO _), hI, xu_183_5 (hO _), tx_ss]
      refine congrArg f (Prod.ext rfl (Prod.ext ?_ ?_))
      · show (k : Int) + 1 = ((k + 1 : Nat) : Int)
        omega
      · show xv_sI M 183 5 (((p + k : Nat) : Int) + 1) = xv_sI M 183 5 ((p + (k + 1) : Nat) : Int)
        rw [show (((p + k : Nat) : Int) + 1) = ((p + (k + 1) : Nat) : Int) by omega]
    · rw [xe_cmp (by omega) (by omega) (by decide) (by decide)]
      by_cases e : (k : Int) = 0
      · rw [if_pos e, hj]
      · rw [if_neg e, xe_cmp (by omega) (by omega) (by decide) (by decide), if_neg (by omega), hj]
  · intro f
    have b := bb L (Nat.le_refl _)
    try dsimp only
    refine xe_letp (fun j => ∀ M', j M' = some (if L = 0 then -1 else tNv t p L, M')) ?_ (fun j4 hj => ?_)
    · intro M'
      try dsimp only
      rw [xe_cmp (by omega) (by omega) (by decide) (by decide)]
      by_cases e : L = 0
      · rw [if_neg (by omega), if_pos e]
      · rw [if_pos (by omega), if_neg e]
    · rw [xe_cmp (by omega) (by omega) (by decide) (by decide)]
      by_cases c1 : (4 : Int) ≤ (L : Int)
      · rw [if_pos c1, hj]
      · rw [if_neg c1, xg_183_5 (hO _), hI, xr_181 (hO _), xm_hasDigitAt (hO _) (hT _) tk (by omega), xe_call, xe_b0]
        by_cases c2 : tDig t n (p + L)
        · rw [if_pos c2]
          refine xe_letp (fun _ => True) trivial (fun j9 _ => ?_)
          have c3 : ¬ (L = 0 ∨ 0 < tNv t p L) := fun z => s2 ⟨by omega, c2, z⟩
          rw [xe_cmp (by omega) (by omega) (by decide) (by decide), if_neg (by omega), xe_cmp (by omega) (by omega) (by decide) (by decide), if_pos (by omega), hj]
        · rw [if_neg c2, hj]
/-- the reader at work on span i: what it leaves alone -/
def RS (i : Nat) (M M' : xv_M) : Prop := RdF M M' ∧ xv_I M' 183 0 = xv_I M 183 0 ∧ ∀ r j, 184 ≤ r → r ≤ 187 → j ≠ i → xv_I M' r j = xv_I M r j
theorem RS.rf {i : Nat} : RS i M M := ⟨RdF.rf, rfl, fun _ _ _ _ _ => rfl⟩
theorem RS.pos {i : Nat} {M' : xv_M} {v : Int} (h : RS i M M') : RS i M (xv_sI M' 183 5 v) := ⟨h.1.tr (RdF.sI (by decide)), by rw [xe_I_sI, if_neg (by decide)]; exact h.2.1, fun r j h1 h2 h3 => by rw [xe_I_sI, if_neg (by omega)]; exact h.2.2 r j h1 h2 h3⟩
theorem RS.arr {i r0 : Nat} {M' : xv_M} {v : Int} (h : RS i M M') (hr : 184 ≤ r0 ∧ r0 ≤ 187) : RS i M (xv_sI M' r0 i v) := ⟨h.1.tr (RdF.sI (by omega)), by rw [xe_I_sI, if_neg (by omega)]; exact h.2.1, fun r j h1 h2 h3 => by rw [xe_I_sI, if_neg (fun z => h3 z.2)]; exact h.2.2 r j h1 h2 h3⟩
theorem RdF.ok {M M' : xv_M} (h : RdF M M') (hO : xl_OK M) : xl_OK M' := h.scr.ok hO
theorem MdF.ok {M M' : xv_M} (h : MdF M M') (hO : xl_OK M) : xl_OK M' := h.scr.ok hO
/-- span i as it was read -/
def RC4 (t : Nat → Int) (n p i : Nat) (M : xv_M) : Prop := xv_I M 184 i = tL t n p ∧ xv_I M 185 i = tR t n p ∧ xv_I M 186 i = (if tCh t n p 91 then 1 else 0) ∧ xv_I M 187 i = (if tCh t n (tE t n p) 93 then 1 else 0)
theorem xm_readOne (h : xl_OK M) (tc : TC t n M) (tk : tOK t n) {p i : Nat} (hp : p ≤ n) (hi : i < 12) (hpos : xv_I M 183 5 = (p : Int)) : ∃ M', D_X4_readOne 183 181 (i : Int) M = some (if tGood t n p then 1 else 0, M') ∧ RS i M M' ∧ xv_I M' 183 5 = (tEnd t n p : Int) ∧ (tGood t n p → RC4 t n p i M') := by
  have hn := tk.1
  have ei : ((i : Int)).toNat = i := Int.toNat_natCast i
  have zb : ∀ (c : Prop) [Decidable c], -2147483648 ≤ (if c then (1 : Int) else 0) ∧ (if c then (1 : Int) else 0) ≤ 2147483647 ∧ ((if c then (1 : Int) else 0) = 0 ∨ (if c then (1 : Int) else 0) = 1) := fun c _ => by
    by_cases hc : c
    · rw [if_pos hc]; decide
    · rw [if_neg hc]; decide
  unfold D_X4_readOne
  rw [xg_183_3 h, xg_183_5 h, hpos, xr_181 h, xm_hasAt h tc tk (by omega) (by decide), xe_call, xw_186 h (by omega) (by omega) (zb (tCh t n p 91)).2.2, ei]
  obtain ⟨M5, hM5⟩ : ∃ M5, M5 = xv_sI M 186 i (if tCh t n p 91 then 1 else 0) := ⟨_, rfl⟩
  rw [← hM5]
  have r5 : RS i M M5 := by rw [hM5]; exact RS.rf.arr (by decide)
  have o5 : xl_OK M5 := r5.1.ok h
  have t5 : TC t n M5 := tc.rd r5.1
  have p5 : xv_I M5 183 5 = (p : Int) := by rw [hM5, xe_I_sI, if_neg (by omega)]; exact hpos
  have v5 : xv_I M5 186 i = if tCh t n p 91 then 1 else 0 := by rw [hM5, xe_I_sI, if_pos ⟨rfl, rfl⟩]
  rw [xg_183_3 o5, xa_186 o5 (by omega) (by omega), ei, v5]
  refine xe_letR (fun d => ∃ M', d = some (if tGood t n p then 1 else 0, M') ∧ RS i M M' ∧ xv_I M' 183 5 = (tEnd t n p : Int) ∧ (tGood t n p → RC4 t n p i M')) (fun j => tOpn t n p → ∃ M', j M5 = some (if tGood t n p then 1 else 0, M') ∧ RS i M M' ∧ xv_I M' 183 5 = (tEnd t n p : Int) ∧ (tGood t n p → RC4 t n p i M')) ?_ (fun j9 hj => ?_)
  · intro hop
    have bB := tB_le hop
    try dsimp only
    rw [xg_183_5 o5, p5, xu_183_5 o5]
    obtain ⟨M11, hM11⟩ : ∃ M11, M11 = xv_sI M5 183 5 ((p : Int) + 1) := ⟨_, rfl⟩
    rw [← hM11]
    have r11 : RS i M M11 := by rw [hM11]; exact r5.pos
    have o11 : xl_OK M11 := r11.1.ok h
    have t11 : TC t n M11 := tc.rd r11.1
    have p11 : xv_I M11 183 5 = ((p + 1 : Nat) : Int) := by rw [hM11, xe_I_sI, if_pos ⟨rfl, rfl⟩]; omega
    rw [xg_183_1 o11, xr_183 o11, xm_readNumber o11 t11 tk (by omega) p11, xe_call]
    have eB : p + 1 + tNl t n (p + 1) = tB t n p := rfl
    rw [eB]
    obtain ⟨M13, hM13⟩ : ∃ M13, M13 = xv_sI M11 183 5 (tB t n p : Int) := ⟨_, rfl⟩
    rw [← hM13]
    have r13 : RS i M M13 := by rw [hM13]; exact r11.pos
    have o13 : xl_OK M13 := r13.1.ok h
    obtain ⟨nb1, nb2, nb3⟩ := tNum_b t n (p + 1)
    have eL : tNum t n (p + 1) = tL t n p := rfl
    rw [eL] at nb1 nb2 nb3 ⊢
    rw [xw_184 o13 (by omega) (by omega), ei]
    obtain ⟨M15, hM15⟩ : ∃ M15, M15 = xv_sI M13 184 i (tL t n p) := ⟨_, rfl⟩
    rw [← hM15]
    have r15 : RS i M M15 := by rw [hM15]; exact r13.arr (by decide)
    have o15 : xl_OK M15 := r15.1.ok h
    have t15 : TC t n M15 := tc.rd r15.1
    have p15 : xv_I M15 183 5 = (tB t n p : Int) := by rw [hM15, xe_I_sI, if_neg (by omega), hM13, xe_I_sI, if_pos ⟨rfl, rfl⟩]
    have v15 : xv_I M15 184 i = tL t n p := by rw [hM15, xe_I_sI, if_pos ⟨rfl, rfl⟩]
    have f15 : xv_I M15 186 i = if tCh t n p 91 then 1 else 0 := by rw [hM15, xe_I_sI, if_neg (by omega), hM13, xe_I_sI, if_neg (by omega), hM11, xe_I_sI, if_neg (by omega)]; exact v5
    rw [xg_183_1 o15, xa_184 o15 (by omega) (by omega), ei, v15, xe_cmp (by omega) (by omega) (by decide) (by decide)]
    by_cases c1 : tMid t n p
    · rw [if_neg (fun z => c1.1 (nb3.mp z)), xr_183 o15, xm_readSign o15 t15 tk (by omega) p15 (by decide), xe_call, if_pos c1.2, if_pos c1.2, xe_cmp (by decide) (by decide) (by decide) (by decide), if_pos (by decide)]
      have bE := tE_le c1
      obtain ⟨M18, hM18⟩ : ∃ M18, M18 = xv_sI M15 183 5 ((tB t n p : Int) + 1) := ⟨_, rfl⟩
      rw [← hM18]
      have r18 : RS i M M18 := by rw [hM18]; exact r15.pos
      have o18 : xl_OK M18 := r18.1.ok h
      have t18 : TC t n M18 := tc.rd r18.1
      have p18 : xv_I M18 183 5 = ((tB t n p + 1 : Nat) : Int) := by rw [hM18, xe_I_sI, if_pos ⟨rfl, rfl⟩]; omega
      rw [xg_183_2 o18, xr_183 o18, xm_readNumber o18 t18 tk c1.2.1 p18, xe_call]
      have eE : tB t n p + 1 + tNl t n (tB t n p + 1) = tE t n p := rfl
      rw [eE]
      obtain ⟨M21, hM21⟩ : ∃ M21, M21 = xv_sI M18 183 5 (tE t n p : Int) := ⟨_, rfl⟩
      rw [← hM21]
      have r21 : RS i M M21 := by rw [hM21]; exact r18.pos
      have o21 : xl_OK M21 := r21.1.ok h
      obtain ⟨nc1, nc2, nc3⟩ := tNum_b t n (tB t n p + 1)
      have eR : tNum t n (tB t n p + 1) = tR t n p := rfl
      rw [eR] at nc1 nc2 nc3 ⊢
      rw [xw_185 o21 (by omega) (by omega), ei]
      obtain ⟨M23, hM23⟩ : ∃ M23, M23 = xv_sI M21 185 i (tR t n p) := ⟨_, rfl⟩
      rw [← hM23]
      have r23 : RS i M M23 := by rw [hM23]; exact r21.arr (by decide)
      have o23 : xl_OK M23 := r23.1.ok h
      have t23 : TC t n M23 := tc.rd r23.1
      have p23 : xv_I M23 183 5 = (tE t n p : Int) := by rw [hM23, xe_I_sI, if_neg (by omega), hM21, xe_I_sI, if_pos ⟨rfl, rfl⟩]
      have v23 : xv_I M23 185 i = tR t n p := by rw [hM23, xe_I_sI, if_pos ⟨rfl, rfl⟩]
      have w23 : xv_I M23 184 i = tL t n p := by rw [hM23, xe_I_sI, if_neg (by omega), hM21, xe_I_sI, if_neg (by omega), hM18, xe_I_sI, if_neg (by omega)]; exact v15
      have f23 : xv_I M23 186 i = if tCh t n p 91 then 1 else 0 := by rw [hM23, xe_I_sI, if_neg (by omega), hM21, xe_I_sI, if_neg (by omega), hM18, xe_I_sI, if_neg (by omega)]; exact f15
      rw [xg_183_2 o23, xa_185 o23 (by omega) (by omega), ei, v23, xe_cmp (by omega) (by omega) (by decide) (by decide)]
      by_cases c2 : tNl t n (tB t n p + 1) = 0
      · have hng : ¬ tGood t n p := fun z => z.2.2.1 c2
        have ee : tEnd t n p = tE t n p := by
          unfold tEnd
          rw [if_pos hop, if_pos c1, if_neg (fun z => z.1 c2)]
        rw [if_neg (fun z => z (nc3.mpr c2)), xe_g0, if_neg hng, ee]
        exact ⟨M23, rfl, r23, p23, fun z => absurd z hng⟩
      · rw [if_pos (fun z => c2 (nc3.mp z)), xg_183_4 o23, xg_183_5 o23, p23, xr_181 o23, xm_hasAt o23 t23 tk (by omega) (by decide), xe_call, xw_187 o23 (by omega) (by omega) (zb (tCh t n (tE t n p) 93)).2.2, ei]
        obtain ⟨M30, hM30⟩ : ∃ M30, M30 = xv_sI M23 187 i (if tCh t n (tE t n p) 93 then 1 else 0) := ⟨_, rfl⟩
        rw [← hM30]
        have r30 : RS i M M30 := by rw [hM30]; exact r23.arr (by decide)
        have o30 : xl_OK M30 := r30.1.ok h
        have t30 : TC t n M30 := tc.rd r30.1
        have p30 : xv_I M30 183 5 = (tE t n p : Int) := by rw [hM30, xe_I_sI, if_neg (by omega)]; exact p23
        have v30 : xv_I M30 187 i = if tCh t n (tE t n p) 93 then 1 else 0 := by rw [hM30, xe_I_sI, if_pos ⟨rfl, rfl⟩]
        have rc : RC4 t n p i M30 := ⟨by rw [hM30, xe_I_sI, if_neg (by omega)]; exact w23, by rw [hM30, xe_I_sI, if_neg (by omega)]; exact v23, by rw [hM30, xe_I_sI, if_neg (by omega)]; exact f23, v30⟩
        have rcs : ∀ v, RC4 t n p i (xv_sI M30 183 5 v) := fun v => ⟨by rw [xe_I_sI, if_neg (by omega)]; exact rc.1, by rw [xe_I_sI, if_neg (by omega)]; exact rc.2.1, by rw [xe_I_sI, if_neg (by omega)]; exact rc.2.2.1, by rw [xe_I_sI, if_neg (by omega)]; exact rc.2.2.2⟩
        have pos9 : tCls t n p → xv_I (xv_sI M30 183 5 ((tE t n p : Int) + 1)) 183 5 = (tEnd t n p : Int) := fun z => by
          have ee : tEnd t n p = tE t n p + 1 := by
            unfold tEnd
            rw [if_pos hop, if_pos c1, if_pos z]
          rw [xe_I_sI, if_pos ⟨rfl, rfl⟩, ee]
          omega
        rw [xg_183_4 o30, xa_187 o30 (by omega) (by omega), ei, v30]
        by_cases c3 : tCh t n (tE t n p) 93
        · have hcl : tCls t n p := ⟨c2, Or.inl c3⟩
          have hg : tGood t n p := ⟨hop, c1, hcl⟩
          rw [if_pos c3, xe_cmp (by decide) (by decide) (by decide) (by decide), if_neg (by decide), xr_183 o30, xm_readSign o30 t30 tk (by omega) p30 (by decide), xe_call, if_pos c3, if_pos c3, xe_g1, if_pos hg]
          exact ⟨_, rfl, r30.pos, pos9 hcl, fun _ => rcs _⟩
        · rw [if_neg c3, xe_cmp (by decide) (by decide) (by decide) (by decide), if_pos rfl, xr_183 o30, xm_readSign o30 t30 tk (by omega) p30 (by decide), xe_call]
          by_cases c4 : tCh t n (tE t n p) 41
          · have hcl : tCls t n p := ⟨c2, Or.inr c4⟩
            have hg : tGood t n p := ⟨hop, c1, hcl⟩
            rw [if_pos c4, if_pos c4, xe_g1, if_pos hg]
            exact ⟨_, rfl, r30.pos, pos9 hcl, fun _ => rcs _⟩
          · have hnc : ¬ tCls t n p := fun z => by
              rcases z.2 with y | y
              · exact c3 y
              · exact c4 y
            have hng : ¬ tGood t n p := fun z => hnc z.2.2
            have ee : tEnd t n p = tE t n p := by
              unfold tEnd
              rw [if_pos hop, if_pos c1, if_neg hnc]
            rw [if_neg c4, if_neg c4, xe_g0, if_neg hng, ee]
            exact ⟨M30, rfl, r30, p30, fun z => absurd z hng⟩
    · have hng : ¬ tGood t n p := fun z => c1 z.2.1
      have ee : tEnd t n p = tB t n p := by
        unfold tEnd
        rw [if_pos hop, if_neg c1]
      rw [if_neg hng, ee]
      by_cases c0 : tNl t n (p + 1) = 0
      · rw [if_pos (nb3.mpr c0), xe_g0]
        exact ⟨M15, rfl, r15, p15, fun z => absurd z hng⟩
      · have c5 : ¬ tCh t n (tB t n p) 44 := fun z => c1 ⟨c0, z⟩
        rw [if_neg (fun z => c0 (nb3.mp z)), xr_183 o15, xm_readSign o15 t15 tk (by omega) p15 (by decide), xe_call, if_neg c5, if_neg c5, xe_cmp (by decide) (by decide) (by decide) (by decide), if_neg (by decide), xe_g0]
        exact ⟨M15, rfl, r15, p15, fun z => absurd z hng⟩
  · rw [xe_cmp (zb (tCh t n p 91)).1 (zb (tCh t n p 91)).2.1 (by decide) (by decide)]
    by_cases c1 : tCh t n p 91
    · rw [if_pos c1, if_pos (by decide)]
      exact hj (Or.inl c1)
    · rw [if_neg c1, if_neg (by decide), xg_183_5 o5, p5, xr_181 o5, xm_hasAt o5 t5 tk (by omega) (by decide), xe_call, xe_b1]
      by_cases c2 : tCh t n p 40
      · rw [if_pos c2]
        exact hj (Or.inr c2)
      · have hno : ¬ tOpn t n p := fun z => by
          rcases z with y | y
          · exact c1 y
          · exact c2 y
        have hng : ¬ tGood t n p := fun z => hno z.1
        have ee : tEnd t n p = p := by
          unfold tEnd
          rw [if_neg hno]
        rw [if_neg c2, xe_g0, if_neg hng, ee]
        exact ⟨M5, rfl, r5, p5, fun z => absurd z hng⟩
end TXC
