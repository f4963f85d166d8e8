/-! ## texts: how a row of spans is read -/
abbrev tDig (t : Nat → Int) (n p : Nat) : Prop := p < n ∧ 48 ≤ t p ∧ t p ≤ 57
abbrev tCh (t : Nat → Int) (n p : Nat) (c : Int) : Prop := p < n ∧ t p = c
def tNv (t : Nat → Int) (p : Nat) : Nat → Int
  | 0 => 0
  | k + 1 => 10 * tNv t p k + (t (p + k) - 48)
abbrev tNc (t : Nat → Int) (n p k : Nat) : Prop := k < 4 ∧ tDig t n (p + k) ∧ (k = 0 ∨ 0 < tNv t p k)
/-- how many digits are read from p on -/
def tNl (t : Nat → Int) (n p : Nat) : Nat := if tNc t n p 0 then (if tNc t n p 1 then (if tNc t n p 2 then (if tNc t n p 3 then 4 else 3) else 2) else 1) else 0
theorem tNl_spec (t : Nat → Int) (n p : Nat) : (∀ i, i < tNl t n p → tNc t n p i) ∧ ¬ tNc t n p (tNl t n p) ∧ tNl t n p ≤ 4 := by
  unfold tNl
  by_cases h0 : tNc t n p 0
  · rw [if_pos h0]
    by_cases h1 : tNc t n p 1
    · rw [if_pos h1]
      by_cases h2 : tNc t n p 2
      · rw [if_pos h2]
        by_cases h3 : tNc t n p 3
        · rw [if_pos h3]
          refine ⟨fun i hi => ?_, fun h => absurd h.1 (by decide), by decide⟩
          have : i = 0 ∨ i = 1 ∨ i = 2 ∨ i = 3 := by omega
          rcases this with rfl | rfl | rfl | rfl
          · exact h0
          · exact h1
          · exact h2
          · exact h3
        · rw [if_neg h3]
          refine ⟨fun i hi => ?_, h3, by decide⟩
          have : i = 0 ∨ i = 1 ∨ i = 2 := by omega
          rcases this with rfl | rfl | rfl
          · exact h0
          · exact h1
          · exact h2
      · rw [if_neg h2]
        refine ⟨fun i hi => ?_, h2, by decide⟩
        have : i = 0 ∨ i = 1 := by omega
        rcases this with rfl | rfl
        · exact h0
        · exact h1
    · rw [if_neg h1]
      refine ⟨fun i hi => ?_, h1, by decide⟩
      have : i = 0 := by omega
      subst this
      exact h0
  · rw [if_neg h0]
    exact ⟨fun i hi => absurd hi (Nat.not_lt_zero _), h0, by decide⟩
theorem tNl_le {t : Nat → Int} {n p : Nat} (hp : p ≤ n) : p + tNl t n p ≤ n := by
  obtain ⟨h1, _, _⟩ := tNl_spec t n p
  by_cases e : tNl t n p = 0
  · omega
  · have h := (h1 (tNl t n p - 1) (by omega)).2.1.1
    omega
theorem tNv_b {t : Nat → Int} {n p : Nat} : ∀ k, k ≤ tNl t n p → 0 ≤ tNv t p k ∧ tNv t p k < ((10 ^ k : Nat) : Int)
  | 0, _ => ⟨by show (0 : Int) ≤ 0; omega, by show (0 : Int) < ((10 ^ 0 : Nat) : Int); decide⟩
  | k + 1, h => by
    obtain ⟨b1, b2⟩ := tNv_b (t := t) (n := n) (p := p) k (by omega)
    have hd := ((tNl_spec t n p).1 k (by omega)).2.1.2
    have e : 10 ^ (k + 1) = 10 ^ k * 10 := by rw [Nat.pow_succ]
    show 0 ≤ 10 * tNv t p k + (t (p + k) - 48) ∧ 10 * tNv t p k + (t (p + k) - 48) < ((10 ^ (k + 1) : Nat) : Int)
    rw [e]
    generalize 10 ^ k = w at b2 ⊢
    omega
theorem tNv_bb {t : Nat → Int} {n p k : Nat} (h : k ≤ tNl t n p) : 0 ≤ tNv t p k ∧ tNv t p k ≤ 9999 := by
  have b := tNv_b k h
  have h4 := (tNl_spec t n p).2.2
  have e : 10 ^ k ≤ 10 ^ 4 := Nat.pow_le_pow_right (by decide) (by omega)
  have e4 : 10 ^ 4 = 10000 := by decide
  rw [e4] at e
  generalize 10 ^ k = w at b e
  omega
def tNum (t : Nat → Int) (n p : Nat) : Int := if tNl t n p = 0 then -1 else tNv t p (tNl t n p)
theorem tNum_b (t : Nat → Int) (n p : Nat) : -1 ≤ tNum t n p ∧ tNum t n p ≤ 9999 ∧ (tNum t n p = -1 ↔ tNl t n p = 0) := by
  have b := tNv_bb (Nat.le_refl (tNl t n p))
  unfold tNum
  by_cases e : tNl t n p = 0
  · rw [if_pos e]
    exact ⟨by decide, by decide, ⟨fun _ => e, fun _ => rfl⟩⟩
  · rw [if_neg e]
    exact ⟨by omega, by omega, ⟨fun h => by omega, fun h => absurd h e⟩⟩
/-- where the comma, the closing sign of a span that begins at p are asked for -/
def tB (t : Nat → Int) (n p : Nat) : Nat := p + 1 + tNl t n (p + 1)
def tE (t : Nat → Int) (n p : Nat) : Nat := tB t n p + 1 + tNl t n (tB t n p + 1)
abbrev tOpn (t : Nat → Int) (n p : Nat) : Prop := tCh t n p 91 ∨ tCh t n p 40
abbrev tMid (t : Nat → Int) (n p : Nat) : Prop := tNl t n (p + 1) ≠ 0 ∧ tCh t n (tB t n p) 44
abbrev tCls (t : Nat → Int) (n p : Nat) : Prop := tNl t n (tB t n p + 1) ≠ 0 ∧ (tCh t n (tE t n p) 93 ∨ tCh t n (tE t n p) 41)
abbrev tGood (t : Nat → Int) (n p : Nat) : Prop := tOpn t n p ∧ tMid t n p ∧ tCls t n p
def tEnd (t : Nat → Int) (n p : Nat) : Nat := if tOpn t n p then (if tMid t n p then (if tCls t n p then tE t n p + 1 else tE t n p) else tB t n p) else p
def tL (t : Nat → Int) (n p : Nat) : Int := tNum t n (p + 1)
def tR (t : Nat → Int) (n p : Nat) : Int := tNum t n (tB t n p + 1)
def tF (t : Nat → Int) (n p : Nat) : Int := if tCh t n p 91 then tL t n p else tL t n p + 1
def tG (t : Nat → Int) (n p : Nat) : Int := if tCh t n (tE t n p) 93 then tR t n p else tR t n p - 1
theorem tB_le {t : Nat → Int} {n p : Nat} (h : tOpn t n p) : p + 1 ≤ tB t n p ∧ tB t n p ≤ n := by
  have hp : p + 1 ≤ n := by rcases h with h | h <;> exact h.1
  have := tNl_le (t := t) hp
  unfold tB
  omega
theorem tE_le {t : Nat → Int} {n p : Nat} (h : tMid t n p) : tB t n p + 1 ≤ tE t n p ∧ tE t n p ≤ n := by
  have := tNl_le (t := t) (n := n) (p := tB t n p + 1) h.2.1
  unfold tE
  omega
theorem tEnd_le {t : Nat → Int} {n p : Nat} (hp : p ≤ n) : tEnd t n p ≤ n := by
  unfold tEnd
  by_cases h1 : tOpn t n p
  · rw [if_pos h1]
    have b1 := tB_le h1
    by_cases h2 : tMid t n p
    · rw [if_pos h2]
      have b2 := tE_le h2
      by_cases h3 : tCls t n p
      · rw [if_pos h3]
        rcases h3.2 with h | h <;> exact h.1
      · rw [if_neg h3]; omega
    · rw [if_neg h2]; omega
  · rw [if_neg h1]; omega
theorem tEnd_good {t : Nat → Int} {n p : Nat} (h : tGood t n p) : tEnd t n p = tE t n p + 1 ∧ p + 5 ≤ tEnd t n p := by
  obtain ⟨h1, h2, h3⟩ := h
  have e : tEnd t n p = tE t n p + 1 := by
    unfold tEnd
    rw [if_pos h1, if_pos h2, if_pos h3]
  have a1 : tNl t n (p + 1) ≠ 0 := h2.1
  have a2 : tNl t n (tB t n p + 1) ≠ 0 := h3.1
  have e2 : tE t n p = tB t n p + 1 + tNl t n (tB t n p + 1) := rfl
  have e3 : tB t n p = p + 1 + tNl t n (p + 1) := rfl
  rw [e]
  exact ⟨rfl, by omega⟩
/-- where the spans begin -/
def tPk (t : Nat → Int) (n : Nat) : Nat → Nat
  | 0 => 0
  | k + 1 => tEnd t n (tPk t n k) + 1
abbrev tGo (t : Nat → Int) (n k : Nat) : Prop := tGood t n (tPk t n k) ∧ tCh t n (tEnd t n (tPk t n k)) 59
theorem tPk_le {t : Nat → Int} {n : Nat} : ∀ k, (∀ i, i < k → tGo t n i) → 6 * k ≤ tPk t n k ∧ tPk t n k ≤ n
  | 0, _ => ⟨Nat.le_refl _, Nat.zero_le _⟩
  | k + 1, h => by
    obtain ⟨b1, b2⟩ := tPk_le k (fun i hi => h i (by omega))
    obtain ⟨g1, g2⟩ := h k (by omega)
    have := (tEnd_good g1).2
    have := g2.1
    show 6 * (k + 1) ≤ tEnd t n (tPk t n k) + 1 ∧ tEnd t n (tPk t n k) + 1 ≤ n
    omega
theorem tN_ex0 {t : Nat → Int} {n : Nat} : ∀ m, (∃ N, N < m ∧ (∀ i, i < N → tGo t n i) ∧ ¬ tGo t n N) ∨ ∀ i, i < m → tGo t n i
  | 0 => Or.inr (fun i hi => absurd hi (Nat.not_lt_zero _))
  | m + 1 => by
    rcases tN_ex0 (t := t) (n := n) m with ⟨N, h1, h2, h3⟩ | h
    · exact Or.inl ⟨N, by omega, h2, h3⟩
    · by_cases c : tGo t n m
      · refine Or.inr (fun i hi => ?_)
        by_cases e : i = m
        · subst e; exact c
        · exact h i (by omega)
      · exact Or.inl ⟨m, by omega, h, c⟩
theorem tN_ex {t : Nat → Int} {n : Nat} (hn : n ≤ 60) : ∃ N, N ≤ 10 ∧ (∀ i, i < N → tGo t n i) ∧ ¬ tGo t n N := by
  rcases tN_ex0 (t := t) (n := n) 11 with ⟨N, h1, h2, h3⟩ | h
  · exact ⟨N, by omega, h2, h3⟩
  · have := tPk_le 11 h
    omega
/-! the class's text and reader; the reference's text -/
def tOK (t : Nat → Int) (n : Nat) : Prop := n ≤ 60 ∧ ∀ i, i < n → 0 ≤ t i ∧ t i ≤ 65535
def TC (t : Nat → Int) (n : Nat) (M : xv_M) : Prop := xv_I M 181 0 = (n : Int) ∧ ∀ i, i < n → xv_I M 182 i = t i
def TM (t : Nat → Int) (n : Nat) (M : xv_M) : Prop := xv_I M 188 5 = (n : Int) ∧ ∀ i, i < n → xv_I M 192 i = t i
def RdF (M M' : xv_M) : Prop := M'.1 = M.1 ∧ M'.2.2 = M.2.2 ∧ ∀ r j, ¬ (183 ≤ r ∧ r ≤ 187) → xv_I M' r j = xv_I M r j
def MdF (M M' : xv_M) : Prop := M'.1 = M.1 ∧ M'.2.2 = M.2.2 ∧ ∀ r j, ¬ (r = 188 ∧ 7 ≤ j ∧ j ≤ 12) → xv_I M' r j = xv_I M r j
theorem RdF.rf {M : xv_M} : RdF M M := ⟨rfl, rfl, fun _ _ _ => rfl⟩
theorem MdF.rf {M : xv_M} : MdF M M := ⟨rfl, rfl, fun _ _ _ => rfl⟩
theorem RdF.tr {M M' M'' : xv_M} (h : RdF M M') (g : RdF M' M'') : RdF M M'' := ⟨g.1.trans h.1, g.2.1.trans h.2.1, fun r j q => (g.2.2 r j q).trans (h.2.2 r j q)⟩
theorem MdF.tr {M M' M'' : xv_M} (h : MdF M M') (g : MdF M' M'') : MdF M M'' := ⟨g.1.trans h.1, g.2.1.trans h.2.1, fun r j q => (g.2.2 r j q).trans (h.2.2 r j q)⟩
theorem RdF.scr {M M' : xv_M} (h : RdF M M') : Scr M M' := ⟨h.1, h.2.1, fun r j q => h.2.2 r j (fun z => q (Or.inr (Or.inl z)))⟩
theorem MdF.scr {M M' : xv_M} (h : MdF M M') : Scr M M' := ⟨h.1, h.2.1, fun r j q => h.2.2 r j (fun z => q (Or.inr (Or.inr (Or.inr (Or.inr ⟨z.1, by omega⟩)))))⟩
theorem RdF.sI {M : xv_M} {r j : Nat} {v : Int} (h : 183 ≤ r ∧ r ≤ 187) : RdF M (xv_sI M r j v) := ⟨rfl, rfl, fun r' j' q => by rw [xe_I_sI, if_neg (fun z => q (by rw [z.1]; exact h))]⟩
theorem MdF.sI {M : xv_M} {j : Nat} {v : Int} (h : 7 ≤ j ∧ j ≤ 12) : MdF M (xv_sI M 188 j v) := ⟨rfl, rfl, fun r' j' q => by rw [xe_I_sI, if_neg (fun z => q ⟨z.1, by rw [z.2]; exact h⟩)]⟩
theorem TC.rd {t : Nat → Int} {n : Nat} {M M' : xv_M} (h : TC t n M) (g : RdF M M') : TC t n M' := ⟨(g.2.2 181 0 (by omega)).trans h.1, fun i hi => (g.2.2 182 i (by omega)).trans (h.2 i hi)⟩
theorem TM.md {t : Nat → Int} {n : Nat} {M M' : xv_M} (h : TM t n M) (g : MdF M M') : TM t n M' := ⟨(g.2.2 188 5 (by omega)).trans h.1, fun i hi => (g.2.2 192 i (by omega)).trans (h.2 i hi)⟩
theorem tx_self {M : xv_M} {r j : Nat} {v : Int} (h : xv_I M r j = v) : xv_sI M r j v = M := by
  unfold xv_sI
  obtain ⟨K, I, J, P⟩ := M
  simp only [Prod.mk.injEq, true_and, and_true]
  funext r' j'
  by_cases e : r' = r ∧ j' = j
  · obtain ⟨rfl, rfl⟩ := e
    simp only [xv_up, and_self, if_true]
    exact h.symm
  · simp only [xv_up, if_neg e]
theorem tx_ss {M : xv_M} {r j : Nat} {v w : Int} : xv_sI (xv_sI M r j v) r j w = xv_sI M r j w := by
  unfold xv_sI
  simp only [Prod.mk.injEq, true_and, and_true]
  funext r' j'
  by_cases e : r' = r ∧ j' = j
  · simp only [xv_up, if_pos e]
  · simp only [xv_up, if_neg e]
theorem tx_78 {M : xv_M} {a b c d : Int} : xv_sI (xv_sI (xv_sI (xv_sI M 188 8 a) 188 7 b) 188 8 c) 188 7 d = xv_sI (xv_sI M 188 8 c) 188 7 d := by
  unfold xv_sI
  simp only [Prod.mk.injEq, true_and, and_true]
  funext r j
  by_cases h1 : r = 188 ∧ j = 7
  · simp only [xv_up, if_pos h1]
  · by_cases h2 : r = 188 ∧ j = 8
    · simp only [xv_up, if_neg h1, if_pos h2]
    · simp only [xv_up, if_neg h1, if_neg h2]
