/-! ## questions: the nodes -/
abbrev rTh (a : RW) (s : Nat) : Prop := a (6 + 7 * s + 4) = 1
abbrev rMi (a : RW) (s : Nat) : Int := tmid (rF a s) (rG a s)
abbrev rDe (a : RW) (s : Nat) : Nat := tdep (rF a s) (rG a s)
/-- one of the first n spans has its way through x -/
def rNd (a : RW) (n : Nat) (x : Int) : Bool := decide (∃ s, s < n ∧ (rTh a s ∧ ∃ i, i < rDe a s + 1 ∧ tm (rF a s) (rG a s) i = x))
def rLo (a : RW) (n : Nat) (x : Int) : Int := (xct (fun s => decide (rTh a s ∧ rMi a s = x)) n : Int)
def rDp (a : RW) : Nat → Int
  | 0 => 0
  | k + 1 => if rTh a k then (if rDp a k < (rDe a k : Int) then (rDe a k : Int) else rDp a k) else rDp a k
theorem rNd_s {a : RW} {n : Nat} {x : Int} : rNd a (n + 1) x = (rNd a n x || decide (rTh a n ∧ ∃ i, i < rDe a n + 1 ∧ tm (rF a n) (rG a n) i = x)) := by
  unfold rNd
  rw [← Bool.decide_or]
  refine decide_eq_decide.mpr ⟨?_, ?_⟩
  · rintro ⟨s, h1, h2⟩
    by_cases e : s = n
    · subst e; exact Or.inr h2
    · exact Or.inl ⟨s, by omega, h2⟩
  · rintro (⟨s, h1, h2⟩ | h2)
    · exact ⟨s, by omega, h2⟩
    · exact ⟨n, by omega, h2⟩
theorem xm_node {M : xv_M} {a : RW} (t : TR a M) {x : Nat} (hx : x ≤ 1000) : (0 < xv_I M 37 x) ↔ rNd a (rn a) (x : Int) = true := by
  rw [(t.2.2 x hx).2]
  unfold rNd
  constructor
  · rintro ⟨s, h1, h2, k, h3, h4⟩
    exact decide_eq_true ⟨s, h1, h2, k, Nat.lt_succ_of_le h3, h4⟩
  · intro z
    obtain ⟨s, h1, h2, k, h3, h4⟩ := of_decide_eq_true z
    exact ⟨s, h1, h2, k, Nat.le_of_lt_succ h3, h4⟩
/-- what is left of the marks behind a question: only the found node changes -/
def Fl (M M' : xv_M) : Prop := M'.1 = M.1 ∧ M'.2.2 = M.2.2 ∧ ∀ r j, ¬ (r = 188 ∧ (j = 13 ∨ j = 14)) → xv_I M' r j = xv_I M r j
theorem Fl.rf {M : xv_M} : Fl M M := ⟨rfl, rfl, fun _ _ _ => rfl⟩
theorem Fl.tr {M M' M'' : xv_M} (h : Fl M M') (h2 : Fl M' M'') : Fl M M'' := ⟨h2.1.trans h.1, h2.2.1.trans h.2.1, fun r j hr => (h2.2.2 r j hr).trans (h.2.2 r j hr)⟩
theorem Fl.scr {M M' : xv_M} (h : Fl M M') : Scr M M' := ⟨h.1, h.2.1, fun r j hr => h.2.2 r j (by omega)⟩
theorem md_marks {M : xv_M} {a : RW} (h : xl_OK M) (e : xv_I M 189 = a) (g : rRW a) : ∃ M', D_X12_marks 188 M = some ((), M') ∧ Scr M M' ∧ (∀ x : Nat, x ≤ 1000 → xv_I M' 193 x = if rNd a (rn a) (x : Int) = true then 1 else 0) ∧ (∀ x : Nat, x ≤ 1000 → xv_I M' 194 x = rLo a (rn a) (x : Int)) ∧ xv_I M' 188 17 = rDp a (rn a) := by
  have hn := g.1.1.n
  have en := g.1.1.en
  unfold D_X12_marks
  refine xe_inv0 (I := fun (k : Nat) (s : Int × xv_M) => s.1 = (k : Int) ∧ Scr M s.2 ∧ ∀ x : Nat, x < k → xv_I s.2 193 x = 0 ∧ xv_I s.2 194 x = 0) (n := 1001) (P := fun z => ∃ M', z = some ((), M') ∧ Scr M M' ∧ (∀ x : Nat, x ≤ 1000 → xv_I M' 193 x = if rNd a (rn a) (x : Int) = true then 1 else 0) ∧ (∀ x : Nat, x ≤ 1000 → xv_I M' 194 x = rLo a (rn a) (x : Int)) ∧ xv_I M' 188 17 = rDp a (rn a)) (by decide) ⟨rfl, Scr.rf, fun x hx => by omega⟩ ?_ ?_
  · rintro k ⟨i, N⟩ hk ⟨h1, sN, h2⟩
    dsimp only at h1 sN h2 ⊢
    subst h1
    have oN := sN.ok h
    have ek : ((k : Int) + 1) = ((k + 1 : Nat) : Int) := by omega
    obtain ⟨N1, hN1⟩ : ∃ N1 : xv_M, N1 = xv_sI N 193 k 0 := ⟨_, rfl⟩
    have o1 : xl_OK N1 := by rw [hN1]; exact oN
    refine ⟨(((k + 1 : Nat) : Int), xv_sI N1 194 k 0), ⟨rfl, sN.tr ⟨by rw [hN1]; rfl, by rw [hN1]; rfl, fun r j hr => ?_⟩, fun x hx => ?_⟩, fun f => ?_⟩
    · rw [xe_I_sI, if_neg (by omega), hN1, xe_I_sI, if_neg (by omega)]
    · dsimp only
      rw [xe_I_sI, if_neg (by omega), xe_I_sI, hN1, xe_I_sI, xe_I_sI]
      by_cases c : x = k
      · rw [if_pos ⟨rfl, c⟩, if_pos ⟨rfl, c⟩]
        exact ⟨rfl, rfl⟩
      · rw [if_neg (fun z => c z.2), if_neg (fun z => c z.2), if_neg (by omega)]
        exact h2 x (by omega)
    · rw [xe_cmp (by omega) (by omega) (by decide) (by decide), if_neg (by omega), xg_188_15 oN, xw_193 oN (by omega) (by omega) (Or.inl rfl), Int.toNat_natCast, ← hN1, xg_188_16 o1, xw_194 o1 (by omega) (by omega), Int.toNat_natCast, ek]
  · rintro ⟨i, N⟩ ⟨h1, sN, h2⟩ f
    dsimp only at h1 sN h2 ⊢
    subst h1
    have oN := sN.ok h
    obtain ⟨N1, hN1⟩ : ∃ N1 : xv_M, N1 = xv_sI N 188 17 0 := ⟨_, rfl⟩
    have s1 : Scr M N1 := sN.tr ⟨by rw [hN1]; rfl, by rw [hN1]; rfl, fun r j hr => by rw [hN1, xe_I_sI, if_neg (by omega)]⟩
    rw [xe_cmp (by decide) (by decide) (by decide) (by decide), if_pos (by decide), xu_188_17 oN, ← hN1]
    refine xe_inv0 (I := fun (k : Nat) (s : Int × xv_M) => s.1 = (k : Int) ∧ Scr M s.2 ∧ (∀ x : Nat, x ≤ 1000 → xv_I s.2 193 x = if rNd a k (x : Int) = true then 1 else 0) ∧ (∀ x : Nat, x ≤ 1000 → xv_I s.2 194 x = rLo a k (x : Int)) ∧ xv_I s.2 188 17 = rDp a k) (n := rn a) (P := fun z => ∃ M', z = some ((), M') ∧ Scr M M' ∧ (∀ x : Nat, x ≤ 1000 → xv_I M' 193 x = if rNd a (rn a) (x : Int) = true then 1 else 0) ∧ (∀ x : Nat, x ≤ 1000 → xv_I M' 194 x = rLo a (rn a) (x : Int)) ∧ xv_I M' 188 17 = rDp a (rn a)) (by omega) ⟨rfl, s1, fun x hx => ?_, fun x hx => ?_, ?_⟩ ?_ ?_
    · have : rNd a 0 (x : Int) = false := decide_eq_false (fun ⟨s, z, _⟩ => by omega)
      dsimp only
      rw [this, if_neg (by decide), hN1, xe_I_sI, if_neg (by omega)]
      exact (h2 x (by omega)).1
    · dsimp only
      rw [hN1, xe_I_sI, if_neg (by omega)]
      exact (h2 x (by omega)).2
    · dsimp only
      rw [hN1, xe_I_sI, if_pos ⟨rfl, rfl⟩]
      rfl
    · rintro k ⟨i, P⟩ hk ⟨p1, sP, p2, p3, p4⟩
      dsimp only at p1 sP p2 p3 p4 ⊢
      subst p1
      have oP := sP.ok h
      have eP : xv_I P 189 = a := by rw [← e]; exact funext fun j => sP.2.2 189 j (by omega)
      have ek : ((k : Int) + 1) = ((k + 1 : Nat) : Int) := by omega
      have lS : ∀ x, rLo a (k + 1) x = rLo a k x + (if decide (rTh a k ∧ rMi a k = x) = true then 1 else 0) := fun x => by unfold rLo; rw [xct_s]
      by_cases c : rTh a k
      · have hp := g.1.2.1.pl k hk c
        have hp' : 0 ≤ rF a k ∧ rF a k ≤ rG a k ∧ rG a k ≤ 1000 := hp
        have hd9 : rDe a k ≤ 9 := (tdep_spec hp').2.2
        obtain ⟨Q, d, ⟨f1, f2, f3, f4, f5⟩, q1, q2⟩ := md_finds oP eP (s := k) (by omega) hp (m := 1) (Or.inr rfl)
        have oQ : xl_OK Q := ⟨f1.trans oP.1, fun r j hr => by show Q.2.2.2 r j = _; rw [f2]; exact oP.2 r j hr⟩
        have q17 : xv_I Q 188 17 = rDp a k := (f3 188 17 (by omega)).trans p4
        have dS : rDp a (k + 1) = if rDp a k < (rDe a k : Int) then (rDe a k : Int) else rDp a k := if_pos c
        have hdb : 0 ≤ rDp a k ∧ rDp a k ≤ 100000 := by
          have : ∀ k, k ≤ rn a → 0 ≤ rDp a k ∧ rDp a k ≤ 100000 := by
            intro k
            induction k with
            | zero => intro _; show (0 : Int) ≤ 0 ∧ (0 : Int) ≤ 100000; decide
            | succ k ih =>
              intro hk
              have ih := ih (by omega)
              show 0 ≤ (if _ then _ else _ : Int) ∧ (if _ then _ else _ : Int) ≤ _
              split
              · rename_i c
                have := (tdep_spec (g.1.2.1.pl k (by omega) c)).2.2
                have : rDe a k ≤ 9 := this
                split <;> omega
              · exact ih
          exact this k (by omega)
        refine ⟨(((k + 1 : Nat) : Int), xv_sI Q 188 17 (rDp a (k + 1))), ⟨rfl, sP.tr ⟨f1, f2, fun r j hr => ?_⟩, fun x hx => ?_, fun x hx => ?_, ?_⟩, fun F => ?_⟩
        · rw [xe_I_sI, if_neg (by omega)]
          exact f3 r j (by omega)
        · dsimp only
          rw [xe_I_sI, if_neg (by omega), q1 x, p2 x hx, rNd_s]
          by_cases c2 : ∃ i, i < rDe a k + 1 ∧ tm (rF a k) (rG a k) i = (x : Int)
          · rw [if_pos ⟨rfl, c2⟩, if_pos (by rw [decide_eq_true (show rTh a k ∧ _ from ⟨c, c2⟩), Bool.or_true])]
          · rw [if_neg (fun z => c2 z.2), decide_eq_false (show ¬ (rTh a k ∧ _) from fun z => c2 z.2), Bool.or_false]
        · dsimp only
          rw [xe_I_sI, if_neg (by omega), q2 x, p3 x hx, lS]
          by_cases c2 : rMi a k = (x : Int)
          · rw [if_pos ⟨rfl, c2.symm⟩, if_pos (decide_eq_true ⟨c, c2⟩)]
          · rw [if_neg (fun z => c2 z.2.symm), if_neg (fun z => c2 (of_decide_eq_true z).2), Int.add_zero]
        · dsimp only
          rw [xe_I_sI, if_pos ⟨rfl, rfl⟩]
        · rw [xg_188_0 oP, w_r1 oP eP, xe_cmp (by omega) (by omega) (by omega) (by omega), if_neg (by omega), xr_188 oP, w_isThere oP eP g.1.1 (by omega), xe_call, xe_let, xe_b0, if_pos c, xr_188 oP, d, xe_call, xg_188_14 oQ, f5, xg_188_17 oQ, q17]
          have f5' : xv_I Q 188 14 = (rDe a k : Int) := f5
          refine xe_letp (fun j => j (188, rDp a (k + 1)) = F (((k + 1 : Nat) : Int), xv_sI Q 188 17 (rDp a (k + 1)))) ?_ (fun j hj => ?_)
          · dsimp only
            rw [xu_188_17 oQ, ek]
          · show xv_cmp (rDe a k : Int) (rDp a k) ((rDe a k : Int) ≤ rDp a k) _ _ = _
            rw [xe_cmp (by omega) (by omega) (by omega) (by omega)]
            by_cases c3 : rDp a k < (rDe a k : Int)
            · rw [if_pos c3] at dS
              rw [if_neg (by omega), xg_188_14 oQ, f5', ← dS, hj]
            · rw [if_neg c3] at dS
              rw [if_pos (by omega), xg_188_17 oQ, q17]
              rw [dS] at hj ⊢
              exact hj
      · have dS : rDp a (k + 1) = rDp a k := if_neg c
        refine ⟨(((k + 1 : Nat) : Int), P), ⟨rfl, sP, fun x hx => ?_, fun x hx => ?_, by dsimp only; rw [dS]; exact p4⟩, fun F => ?_⟩
        · dsimp only
          rw [rNd_s, decide_eq_false (show ¬ (rTh a k ∧ _) from fun z => c z.1), Bool.or_false]
          exact p2 x hx
        · dsimp only
          rw [lS, if_neg (fun z => c (of_decide_eq_true z).1), Int.add_zero]
          exact p3 x hx
        · rw [xg_188_0 oP, w_r1 oP eP, xe_cmp (by omega) (by omega) (by omega) (by omega), if_neg (by omega), xr_188 oP, w_isThere oP eP g.1.1 (by omega), xe_call, xe_let, xe_b0, if_neg c, ek]
    · rintro ⟨i, P⟩ ⟨p1, sP, p2, p3, p4⟩ F
      dsimp only at p1 sP p2 p3 p4 ⊢
      subst p1
      have oP := sP.ok h
      have eP : xv_I P 189 = a := by rw [← e]; exact funext fun j => sP.2.2 189 j (by omega)
      rw [xg_188_0 oP, w_r1 oP eP, xe_cmp (by omega) (by omega) (by omega) (by omega), if_pos (by omega)]
      exact ⟨P, rfl, sP, p2, p3, p4⟩
/-! index -/
abbrev rNn (a : RW) (x : Nat) : Bool := rNd a (rn a) (x : Int)
abbrev rLn (a : RW) (x : Nat) : Int := rLo a (rn a) (x : Int)
def rIxV (a : RW) (t : Int) : Int := if t = 0 then (xct (rNn a) 1001 : Int) else if t = 1 then rDp a (rn a) else if t = 2 then rLn a (rMx (rLn a) 1000) else (rMx (rLn a) 1000 : Int)
def rIxQ (a : RW) (t : Int) : Int := if 0 ≤ t ∧ t ≤ 3 then (if rth a (rn a) = 0 then -5 else rIxV a t) else -2
theorem rLn_b {a : RW} (g : rGd a) {x : Nat} : 0 ≤ rLn a x ∧ rLn a x ≤ 60 := by
  have := xct_le (fun s => decide (rTh a s ∧ rMi a s = (x : Int))) (rn a)
  have := g.n
  unfold rLn rLo
  omega
theorem rth_b {a : RW} (g : rGd a) : 0 ≤ rth a (rn a) ∧ rth a (rn a) ≤ 60 := by
  have := xct_le (fun s => decide (a (6 + 7 * s + 4) = 1)) (rn a)
  have := g.n
  rw [rth_ct g.2.2.2.2.1 _ g.n]
  omega
theorem xm_countNodes {M : xv_M} {a : RW} (h : LN a M) : D_X8_countNodes 33 M = some ((xct (rNn a) 1001 : Int), M) := by
  have hO := h.1.1
  unfold D_X8_countNodes
  refine xe_loop (n := 1001) (fun k => ((xct (rNn a) k : Int), (k : Int))) rfl (by decide) ?_ ?_
  · intro k hk f
    have ek : ((k : Int) + 1) = ((k + 1 : Nat) : Int) := by omega
    have hb := xm_node h.2.2.2 (x := k) (by omega)
    have hr := (h.2.2.2.2.2 k (by omega)).1
    dsimp only
    rw [xe_cmp (by omega) (by omega) (by decide) (by decide), if_neg (by omega), xg_33_3 hO, xa_37 hO (by omega) (by omega), Int.toNat_natCast, xe_let, xe_cmp (by omega) (by omega) (by decide) (by decide), xct_s, ek]
    by_cases c : rNn a k = true
    · rw [if_neg (by have := hb.mpr c; omega), if_pos c]
    · rw [if_pos (by have : ¬ 0 < xv_I M 37 k := fun z => c (hb.mp z); omega), if_neg c, Int.add_zero]
  · intro f
    dsimp only
    rw [xe_cmp (by decide) (by decide) (by decide) (by decide), if_pos (by decide)]
theorem xm_lying {M : xv_M} {a : RW} (h : LN a M) {x : Nat} (hx : x ≤ 1000) : xv_I M 36 x = rLn a x := h.2.2.2.2.1 x hx
theorem xm_fullestMiddle {M : xv_M} {a : RW} (h : LN a M) (g : rGd a) : D_X8_fullestMiddle 33 M = some ((rMx (rLn a) 1000 : Int), M) := by
  have hO := h.1.1
  unfold D_X8_fullestMiddle
  refine xe_loop (n := 1000) (fun k => ((rMx (rLn a) k : Int), (k : Int) + 1)) rfl (by decide) ?_ ?_
  · intro k hk f
    have ek : ((k : Int) + 1 + 1) = ((k + 1 : Nat) : Int) + 1 := by omega
    have ek2 : ((k : Int) + 1) = ((k + 1 : Nat) : Int) := by omega
    have hle := rMx_le (c := rLn a) k
    have b1 : 0 ≤ rLn a (k + 1) ∧ rLn a (k + 1) ≤ 60 := rLn_b g
    have b2 : 0 ≤ rLn a (rMx (rLn a) k) ∧ rLn a (rMx (rLn a) k) ≤ 60 := rLn_b g
    have hs : rMx (rLn a) (k + 1) = if rLn a (rMx (rLn a) k) < rLn a (k + 1) then k + 1 else rMx (rLn a) k := rfl
    dsimp only
    rw [hs, xe_cmp (by omega) (by omega) (by decide) (by decide), if_neg (by omega), xg_33_2 hO, ek2, xa_36 hO (by omega) (by omega), Int.toNat_natCast, xm_lying h (by omega), xg_33_2 hO, xa_36 hO (by omega) (by omega), Int.toNat_natCast, xm_lying h (by omega), xe_let, xe_cmp (by omega) (by omega) (by omega) (by omega)]
    by_cases c : rLn a (rMx (rLn a) k) < rLn a (k + 1)
    · rw [if_neg (by omega), if_pos c]
    · rw [if_pos (by omega), if_neg c]
  · intro f
    dsimp only
    rw [xe_cmp (by decide) (by decide) (by decide) (by decide), if_pos (by decide)]
theorem xm_greatestDepth {M : xv_M} {a : RW} (h : LN a M) (g : rRW a) : D_X8_greatestDepth 33 4 M = some (rDp a (rn a), M) := by
  have hO := h.1.1
  have hn := g.1.1.n
  have en := g.1.1.en
  have hz : xv_I M 4 0 = a 1 := h.1.2.2.1.1
  have hdb : ∀ k, k ≤ rn a → 0 ≤ rDp a k ∧ rDp a k ≤ 100000 := by
    intro k
    induction k with
    | zero => intro _; show (0 : Int) ≤ 0 ∧ (0 : Int) ≤ 100000; decide
    | succ k ih =>
      intro hk
      have ih := ih (by omega)
      show 0 ≤ (if _ then _ else _ : Int) ∧ (if _ then _ else _ : Int) ≤ _
      split
      · rename_i c
        have := (tdep_spec (g.1.2.1.pl k (by omega) c)).2.2
        have : rDe a k ≤ 9 := this
        split <;> omega
      · exact ih
  unfold D_X8_greatestDepth
  refine xe_loop (n := rn a) (fun k => (rDp a k, (k : Int), M)) rfl (by omega) ?_ ?_
  · intro k hk f
    have ek : ((k : Int) + 1) = ((k + 1 : Nat) : Int) := by omega
    have hd := hdb k (by omega)
    have hs : rDp a (k + 1) = if rTh a k then (if rDp a k < (rDe a k : Int) then (rDe a k : Int) else rDp a k) else rDp a k := rfl
    dsimp only
    rw [hs, xg_4_0 hO, hz, xe_cmp (by omega) (by omega) (by omega) (by omega), if_neg (by omega), xr_4 hO, xm_isThere hO h.1.2.2.1 (by omega), xe_call, xe_let, xe_b0, ek]
    by_cases c : rTh a k
    · have e35 : xv_I M 35 k = (rDe a k : Int) := (h.2.2.2.1 k hk c).2
      have hd9 : rDe a k ≤ 9 := (tdep_spec (g.1.2.1.pl k hk c)).2.2
      rw [if_pos ⟨hk, c⟩, if_pos c, xg_33_1 hO, xa_35 hO (by omega) (by omega), Int.toNat_natCast, e35]
      unfold xv_max
      rw [if_pos ⟨xe_inb (by omega) (by omega), xe_inb (by omega) (by omega)⟩]
    · rw [if_neg (fun z => c z.2), if_neg c]
  · intro f
    dsimp only
    rw [xg_4_0 hO, hz, xe_cmp (by omega) (by omega) (by omega) (by omega), if_pos (by omega)]
theorem xc_index (hbc : BC) {a H : RW} {k : Nat} {M : xv_M} (h : CLh a H k M) {t : Int} (ht : iR t) : ∃ M', D_X11_index 1 t M = some (rIxQ a t, M') ∧ Scr M M' := by
  refine ⟨M, ?_, Scr.rf⟩
  have hO := h.1.1.1
  have g := h.2.1
  have hct := xm_countThere hbc hO (p := 3) (Or.inl rfl) h.1.1.2.2.1 g.1.1
  have hb := rth_b g.1.1
  have hle := rMx_le (c := rLn a) 1000
  unfold D_X11_index rIxQ
  rw [xe_cmp ht.1 ht.2 (by decide) (by decide), xe_cmp ht.1 ht.2 (by decide) (by decide)]
  by_cases c : 0 ≤ t ∧ t ≤ 3
  · rw [if_neg (by omega), if_pos (by omega), if_pos c, xg_1_0 hO, xg_2_0 hO, xg_3_1 hO, xr_4 hO, show D_X5_countThere 4 M = _ from hct, xe_call, xe_cmp (by omega) (by omega) (by decide) (by decide)]
    by_cases c2 : rth a (rn a) = 0
    · rw [if_neg (fun z => z c2), if_pos c2]
    · rw [if_pos c2, if_neg c2, xe_g (xe_inb ht.1 ht.2)]
      unfold rIxV
      have hc : t = 0 ∨ t = 1 ∨ t = 2 ∨ t = 3 := by omega
      rcases hc with rfl | rfl | rfl | rfl
      · rw [xi_t rfl, if_pos rfl, xg_1_0 hO, xg_2_2 hO, xr_33 hO, xm_countNodes h.1, xe_call]
      · rw [xi_f (by decide), xi_t rfl, if_neg (by decide), if_pos rfl, xg_1_0 hO, xg_2_2 hO, xg_1_0 hO, xg_2_0 hO, xg_3_1 hO, xr_33 hO, xm_greatestDepth h.1 g, xe_call]
      · rw [xi_f (by decide), xi_f (by decide), xi_t rfl, if_neg (by decide), if_neg (by decide), if_pos rfl, xg_1_0 hO, xg_2_2 hO, xr_33 hO]
        have : D_X8_mostInOneNode 33 M = some (rLn a (rMx (rLn a) 1000), M) := by
          unfold D_X8_mostInOneNode
          rw [xg_33_2 hO, xr_33 hO, xm_fullestMiddle h.1 g.1.1, xe_call, xa_36 hO (by omega) (by omega), Int.toNat_natCast, xm_lying h.1 (by omega)]
        rw [this, xe_call]
      · rw [xi_f (by decide), xi_f (by decide), xi_f (by decide), if_neg (by decide), if_neg (by decide), if_neg (by decide), xg_1_0 hO, xg_2_2 hO, xr_33 hO, xm_fullestMiddle h.1 g.1.1, xe_call]
  · rw [if_neg c]
    by_cases c1 : t < 0
    · rw [if_pos c1]
    · rw [if_neg c1, if_neg (by omega)]
theorem w_there {M : xv_M} {a : RW} (h : xl_OK M) (e : xv_I M 189 = a) (g : rGd a) : D_X12_there 188 M = some (rth a (rn a), M) := by
  have := md_there (M := M) (a := a) h g.2.1
  rwa [mk_at e] at this
theorem md_index {M : xv_M} {a : RW} (h : xl_OK M) (g : rRW a) (e : xv_I M 189 = a) {t : Int} (ht : iR t) : ∃ M', D_X12_index 188 t M = some (rIxQ a t, M') ∧ Scr M M' := by
  have hb := rth_b g.1.1
  unfold D_X12_index rIxQ
  rw [md_in ht (by decide) (by decide), xe_call, xe_b1]
  by_cases c : 0 ≤ t ∧ t ≤ 3
  · rw [if_pos c, if_pos c, xr_188 h, w_there h e g.1.1, xe_call, xe_cmp (by omega) (by omega) (by decide) (by decide)]
    by_cases c2 : rth a (rn a) = 0
    · rw [if_neg (fun z => z c2), if_pos c2]
      exact ⟨M, rfl, Scr.rf⟩
    · obtain ⟨N, d, sN, q1, q2, q3⟩ := md_marks h e g
      have oN := sN.ok h
      rw [if_pos c2, if_neg c2, xr_188 h, d, xe_call]
      refine ⟨N, ?_, sN⟩
      refine xe_loop (n := 1001) (fun k => match k with
        | 0 => ((0 : Int), (0 : Int), (0 : Int))
        | k + 1 => ((xct (rNn a) (k + 1) : Int), (rMx (rLn a) k : Int), ((k + 1 : Nat) : Int))) rfl (by decide) ?_ ?_
      · intro k hk f
        have ek : ((k : Int) + 1) = ((k + 1 : Nat) : Int) := by omega
        have b1 : 0 ≤ rLn a k ∧ rLn a k ≤ 60 := rLn_b g.1.1
        have r1 := q1 k (by omega)
        have r2 : xv_I N 194 k = rLn a k := q2 k (by omega)
        have xs := xct_s (p := rNn a) (n := k)
        have fin : ∀ (z1 : Int) (F : Int × Int → Option (Int × xv_M)), xv_cmp (if rNn a k = true then (1 : Int) else 0) 0 ((if rNn a k = true then (1 : Int) else 0) = 0) (F (z1, 0)) (F (z1, 1)) = F (z1, if rNn a k = true then 1 else 0) := fun z1 F => by
          rw [xe_b0]
          split <;> rfl
        cases k with
        | zero =>
          have z0 : ((0 : Nat) : Int) = 0 := rfl
          dsimp only
          rw [xe_cmp (by decide) (by decide) (by decide) (by decide), if_neg (by decide), xg_188_15 oN, xa_193 oN (by decide) (by decide), show (0 : Int).toNat = 0 from rfl, r1]
          refine xe_letp (fun j => j (0, if rNn a 0 = true then 1 else 0) = f ((xct (rNn a) (0 + 1) : Int), ((rMx (rLn a) 0 : Nat) : Int), ((0 + 1 : Nat) : Int))) ?_ (fun j hj => ?_)
          · dsimp only
            rw [xg_188_16 oN, xa_194 oN (by decide) (by decide), xg_188_16 oN, xa_194 oN (by decide) (by decide), show (0 : Int).toNat = 0 from rfl, r2, xe_let, xe_cmp (by omega) (by omega) (by omega) (by omega), if_pos (Int.le_refl _), xs]
            rfl
          · rw [← hj]
            exact fin 0 j
        | succ k =>
          have b2 : 0 ≤ rLn a (rMx (rLn a) k) ∧ rLn a (rMx (rLn a) k) ≤ 60 := rLn_b g.1.1
          have hle := rMx_le (c := rLn a) k
          have r3 : xv_I N 194 (rMx (rLn a) k) = rLn a (rMx (rLn a) k) := q2 _ (by omega)
          have hs : rMx (rLn a) (k + 1) = if rLn a (rMx (rLn a) k) < rLn a (k + 1) then k + 1 else rMx (rLn a) k := rfl
          dsimp only
          rw [xe_cmp (by omega) (by omega) (by decide) (by decide), if_neg (by omega), xg_188_15 oN, xa_193 oN (by omega) (by omega), Int.toNat_natCast, r1]
          refine xe_letp (fun j => j ((xct (rNn a) (k + 1) : Int), if rNn a (k + 1) = true then 1 else 0) = f ((xct (rNn a) (k + 1 + 1) : Int), (rMx (rLn a) (k + 1) : Int), ((k + 1 + 1 : Nat) : Int))) ?_ (fun j hj => ?_)
          · dsimp only
            rw [xg_188_16 oN, xa_194 oN (by omega) (by omega), Int.toNat_natCast, r2, xg_188_16 oN, xa_194 oN (by omega) (by omega), Int.toNat_natCast, r3, xe_let, xe_cmp (by omega) (by omega) (by omega) (by omega), xs, hs, ek]
            by_cases c3 : rLn a (rMx (rLn a) k) < rLn a (k + 1)
            · rw [if_neg (by omega), if_pos c3]
            · rw [if_pos (by omega), if_neg c3]
          · rw [← hj]
            exact fin _ j
      · intro f
        have hle := rMx_le (c := rLn a) 1000
        dsimp only
        rw [xe_cmp (by decide) (by decide) (by decide) (by decide), if_pos (by decide)]
        unfold rIxV
        have hc : t = 0 ∨ t = 1 ∨ t = 2 ∨ t = 3 := by omega
        rcases hc with rfl | rfl | rfl | rfl
        · rw [xe_cmp (by decide) (by decide) (by decide) (by decide), if_neg (by decide), if_pos rfl]
        · rw [xe_cmp (by decide) (by decide) (by decide) (by decide), if_pos (by decide), xe_cmp (by decide) (by decide) (by decide) (by decide), if_neg (by decide), if_neg (by decide), if_pos rfl, xg_188_17 oN, q3]
        · rw [xe_cmp (by decide) (by decide) (by decide) (by decide), if_pos (by decide), xe_cmp (by decide) (by decide) (by decide) (by decide), if_pos (by decide), xe_cmp (by decide) (by decide) (by decide) (by decide), if_neg (by decide), if_neg (by decide), if_neg (by decide), if_pos rfl, xg_188_16 oN, xa_194 oN (by omega) (by omega), Int.toNat_natCast]
          exact congrArg (fun q => some (q, N)) (q2 _ hle)
        · rw [xe_cmp (by decide) (by decide) (by decide) (by decide), if_pos (by decide), xe_cmp (by decide) (by decide) (by decide) (by decide), if_pos (by decide), xe_cmp (by decide) (by decide) (by decide) (by decide), if_pos (by decide), if_neg (by decide), if_neg (by decide), if_neg (by decide)]
  · rw [if_neg c, if_neg c]
    exact ⟨M, rfl, Scr.rf⟩
theorem ok_index (hbc : BC) {M : xv_M} (hi : INV M) {t : Int} (ht : iR t) : ok2 (D_X11_index 1 t) (D_X12_index 188 t) M := ok_q hi (A := fun a => rIxQ a t) (fun a H k c => xc_index hbc c ht) (fun M a h g e => md_index h g e ht)
