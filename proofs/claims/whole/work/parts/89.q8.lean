/-! ## questions: count -/
def rPrN (a : RW) (s : Nat) : Nat → Int := fun n => (xct (fun t => decide ((rTh a s ∧ rTh a t) ∧ (rF a s ≤ rG a t ∧ rF a t ≤ rG a s))) n : Int)
def rPr (a : RW) : Nat → Int
  | 0 => 0
  | k + 1 => rPr a k + rPrN a k k
def rVi (a : RW) : Int := (xct (fun s => decide (0 < rGst a s)) (rn a) : Int)
/-- s is there, and none before it has the same number j -/
def rNew (a : RW) (j s : Nat) : Bool := decide (rTh a s ∧ ¬ ∃ t, t < s ∧ (rTh a t ∧ a (6 + 7 * t + j) = a (6 + 7 * s + j)))
def rDf (a : RW) (j : Nat) : Int := (xct (rNew a j) (rn a) : Int)
theorem xm_countPairs {M : xv_M} {a : RW} (h : LN a M) (g : rRW a) : D_X5_countPairs 4 M = some (rPr a (rn a), M) := by
  have hO := h.1.1
  have hn := g.1.1.n
  have en := g.1.1.en
  have hz : xv_I M 4 0 = a 1 := h.1.2.2.1.1
  have f7 : ∀ s, s < rn a → xv_I M 7 s = rF a s := fun s hs => (h.1.2.2.1.2.2.1 s hs).2.2.1
  have f8 : ∀ s, s < rn a → xv_I M 8 s = rG a s := fun s hs => (h.1.2.2.1.2.2.1 s hs).2.2.2.1
  unfold D_X5_countPairs
  refine xe_loop (n := rn a) (fun k => (rPr a k, (k : Int), M)) rfl (by omega) ?_ ?_
  · intro s hs f
    have es : ((s : Int) + 1) = ((s + 1 : Nat) : Int) := by omega
    dsimp only
    rw [xg_4_0 hO, hz, xe_cmp (by omega) (by omega) (by omega) (by omega), if_neg (by omega)]
    refine xe_loop (n := s) (fun t => (rPr a s + rPrN a s t, (t : Int), M)) ?_ (by omega) ?_ ?_
    · show _ = (rPr a s + ((0 : Nat) : Int), _, _)
      rw [show ((0 : Nat) : Int) = 0 from rfl, Int.add_zero]
    · intro t ht f'
      have et : ((t : Int) + 1) = ((t + 1 : Nat) : Int) := by omega
      have hS : rPr a s + rPrN a s (t + 1) = rPr a s + rPrN a s t + (if decide ((rTh a s ∧ rTh a t) ∧ (rF a s ≤ rG a t ∧ rF a t ≤ rG a s)) = true then 1 else 0) := by unfold rPrN; rw [xct_s]; omega
      dsimp only
      rw [hS, xe_cmp (by omega) (by omega) (by omega) (by omega), if_neg (by omega), xr_4 hO, xm_isThere hO h.1.2.2.1 (by omega), xe_call, xe_let, xe_b0, et]
      by_cases c : rTh a s
      · rw [if_pos ⟨hs, c⟩, xr_4 hO, xm_isThere hO h.1.2.2.1 (by omega), xe_call, xe_b0]
        by_cases c2 : rTh a t
        · have hp : 0 ≤ rF a s ∧ rF a s ≤ rG a s ∧ rG a s ≤ 1000 := g.1.2.1.pl s hs c
          have hq : 0 ≤ rF a t ∧ rF a t ≤ rG a t ∧ rG a t ≤ 1000 := g.1.2.1.pl t (by omega) c2
          rw [if_pos ⟨by omega, c2⟩, xg_4_4 hO, xa_7 hO (by omega) (by omega), Int.toNat_natCast, f7 s hs, xg_4_5 hO, xa_8 hO (by omega) (by omega), Int.toNat_natCast, f8 t (by omega), xe_cmp (by omega) (by omega) (by omega) (by omega)]
          by_cases c3 : rG a t < rF a s
          · rw [if_pos c3, if_neg (fun z => by have := (of_decide_eq_true z).2.1; omega), Int.add_zero]
          · rw [if_neg c3, xg_4_4 hO, xa_7 hO (by omega) (by omega), Int.toNat_natCast, f7 t (by omega), xg_4_5 hO, xa_8 hO (by omega) (by omega), Int.toNat_natCast, f8 s hs, xe_cmp (by omega) (by omega) (by omega) (by omega)]
            by_cases c4 : rG a s < rF a t
            · rw [if_pos c4, if_neg (fun z => by have := (of_decide_eq_true z).2.2; omega), Int.add_zero]
            · rw [if_neg c4, if_pos (decide_eq_true ⟨⟨c, c2⟩, by omega, by omega⟩)]
        · rw [if_neg (fun z => c2 z.2), if_neg (fun z => c2 (of_decide_eq_true z).1.2), Int.add_zero]
      · rw [if_neg (fun z => c z.2), if_neg (fun z => c (of_decide_eq_true z).1.1), Int.add_zero]
    · intro f'
      dsimp only
      rw [xe_cmp (by omega) (by omega) (by omega) (by omega), if_pos (by omega), es]
      rfl
  · intro f
    dsimp only
    rw [xg_4_0 hO, hz, xe_cmp (by omega) (by omega) (by omega) (by omega), if_pos (by omega)]
theorem md_pairs {M : xv_M} {a : RW} (h : xl_OK M) (e : xv_I M 189 = a) (g : rRW a) : D_X12_pairs 188 M = some (rPr a (rn a), M) := by
  have hn := g.1.1.n
  have en := g.1.1.en
  have u2 : ∀ s : Nat, s < 60 → D_X12_of 188 (s : Int) 2 M = some (rF a s, M) := fun s hs => w_of2 h e hs
  have u3 : ∀ s : Nat, s < 60 → D_X12_of 188 (s : Int) 3 M = some (rG a s, M) := fun s hs => w_of3 h e hs
  unfold D_X12_pairs
  refine xe_loop (n := rn a) (fun k => (rPr a k, (k : Int), M)) rfl (by omega) ?_ ?_
  · intro s hs f
    have es : ((s : Int) + 1) = ((s + 1 : Nat) : Int) := by omega
    dsimp only
    rw [xg_188_0 h, w_r1 h e, xe_cmp (by omega) (by omega) (by omega) (by omega), if_neg (by omega)]
    refine xe_loop (n := s) (fun t => (rPr a s + rPrN a s t, (t : Int), M)) ?_ (by omega) ?_ ?_
    · show _ = (rPr a s + ((0 : Nat) : Int), _, _)
      rw [show ((0 : Nat) : Int) = 0 from rfl, Int.add_zero]
    · intro t ht f'
      have et : ((t : Int) + 1) = ((t + 1 : Nat) : Int) := by omega
      have hS : rPr a s + rPrN a s (t + 1) = rPr a s + rPrN a s t + (if decide ((rTh a s ∧ rTh a t) ∧ (rF a s ≤ rG a t ∧ rF a t ≤ rG a s)) = true then 1 else 0) := by unfold rPrN; rw [xct_s]; omega
      dsimp only
      rw [hS, xe_cmp (by omega) (by omega) (by omega) (by omega), if_neg (by omega), xr_188 h, w_isThere h e g.1.1 (by omega), xe_call, xe_let, xe_let, xe_b0, et]
      by_cases c : rTh a s
      · rw [if_pos c, xr_188 h, w_isThere h e g.1.1 (by omega), xe_call, xe_b0]
        by_cases c2 : rTh a t
        · have hp : 0 ≤ rF a s ∧ rF a s ≤ rG a s ∧ rG a s ≤ 1000 := g.1.2.1.pl s hs c
          have hq : 0 ≤ rF a t ∧ rF a t ≤ rG a t ∧ rG a t ≤ 1000 := g.1.2.1.pl t (by omega) c2
          rw [if_pos c2, xr_188 h, u2 s (by omega), xe_call, xr_188 h, u3 t (by omega), xe_call, xe_cmp (by omega) (by omega) (by omega) (by omega)]
          by_cases c3 : rG a t < rF a s
          · rw [if_pos c3, if_neg (fun z => by have := (of_decide_eq_true z).2.1; omega)]
          · rw [if_neg c3, xr_188 h, u2 t (by omega), xe_call, xr_188 h, u3 s (by omega), xe_call, xe_cmp (by omega) (by omega) (by omega) (by omega)]
            by_cases c4 : rG a s < rF a t
            · rw [if_pos c4, if_neg (fun z => by have := (of_decide_eq_true z).2.2; omega)]
            · rw [if_neg c4, if_pos (decide_eq_true ⟨⟨c, c2⟩, by omega, by omega⟩)]
        · rw [if_neg c2, if_neg (fun z => c2 (of_decide_eq_true z).1.2)]
      · rw [if_neg c, if_neg (fun z => c (of_decide_eq_true z).1.1)]
    · intro f'
      dsimp only
      rw [xe_cmp (by omega) (by omega) (by omega) (by omega), if_pos (by omega), es]
      rfl
  · intro f
    dsimp only
    rw [xg_188_0 h, w_r1 h e, xe_cmp (by omega) (by omega) (by omega) (by omega), if_pos (by omega)]
theorem xm_insideOfAny {M : xv_M} {a : RW} (h : LN a M) (g : rGd a) : ∃ v, D_X9_insideOfAny 11 M = some (v, M) ∧ ∀ s, s < 64 → xb v s = (decide (s < rn a) && decide (0 < rGst a s)) := by
  have hO := h.1.1
  have hm := g.m
  have em := g.em
  have hz : xv_I M 11 0 = a 2 := h.1.2.2.2.1.1
  unfold D_X9_insideOfAny
  refine xe_inv0 (I := fun (k : Nat) (s : Int64 × Int) => s.2 = (k : Int) ∧ ∀ t, t < 64 → xb s.1 t = (decide (t < rn a) && decide (0 < xct (fun w => decide (rIn a w t)) k))) (n := rm a) (P := fun z => ∃ v, z = some (v, M) ∧ ∀ s, s < 64 → xb v s = (decide (s < rn a) && decide (0 < rGst a s))) (by omega) ⟨rfl, fun t ht => by rw [xb_0]; simp [xct]⟩ ?_ ?_
  · rintro k ⟨v, i⟩ hk ⟨h1, h2⟩
    dsimp only at h1 h2 ⊢
    subst h1
    have ek : ((k : Int) + 1) = ((k + 1 : Nat) : Int) := by omega
    refine ⟨(v ||| xv_J M 14 k, ((k + 1 : Nat) : Int)), ⟨rfl, fun t ht => ?_⟩, fun f => ?_⟩
    · have hb : xb (xv_J M 14 k) t = decide (t < rn a ∧ 0 < a (462 + 60 * k + t)) := h.2.1.1 k hk t ht
      have hs : xct (fun w => decide (rIn a w t)) (k + 1) = xct (fun w => decide (rIn a w t)) k + (if decide (rIn a k t) = true then 1 else 0) := rfl
      dsimp only
      rw [xb_or, h2 t ht, hb, hs]
      by_cases c : t < rn a
      · by_cases c2 : rIn a k t
        · rw [if_pos (decide_eq_true c2), decide_eq_true c, decide_eq_true (show t < rn a ∧ 0 < a (462 + 60 * k + t) from ⟨c, c2⟩), decide_eq_true (show 0 < xct (fun w => decide (rIn a w t)) k + 1 by omega)]
          simp
        · rw [if_neg (fun z => c2 (of_decide_eq_true z)), decide_eq_false (show ¬ (t < rn a ∧ 0 < a (462 + 60 * k + t)) from fun z => c2 z.2), Bool.or_false, Nat.add_zero]
      · rw [decide_eq_false c, decide_eq_false (show ¬ (t < rn a ∧ 0 < a (462 + 60 * k + t)) from fun z => c z.1)]
        simp
    · rw [xg_11_0 hO, hz, xe_cmp (by omega) (by omega) (by omega) (by omega), if_neg (by omega), xg_11_3 hO, xa_14 hO (by omega) (by omega), Int.toNat_natCast, ek]
  · rintro ⟨v, i⟩ ⟨h1, h2⟩ f
    dsimp only at h1 h2 ⊢
    subst h1
    rw [xg_11_0 hO, hz, xe_cmp (by omega) (by omega) (by omega) (by omega), if_pos (by omega)]
    refine ⟨v, rfl, fun s hs => ?_⟩
    rw [h2 s hs]
    congr 1
    refine decide_eq_decide.mpr ?_
    unfold rGst
    omega
theorem rGst_b {a : RW} (g : rGd a) {s : Nat} : 0 ≤ rGst a s ∧ rGst a s ≤ 6 := by
  have := xct_le (fun w => decide (rIn a w s)) (rm a)
  have := g.m
  unfold rGst
  omega
theorem md_visited {M : xv_M} {a : RW} (h : xl_OK M) (e : xv_I M 189 = a) (g : rGd a) : D_X12_visited 188 M = some (rVi a, M) := by
  have hn := g.n
  have en := g.en
  unfold D_X12_visited rVi
  refine xe_loop (n := rn a) (fun k => ((xct (fun s => decide (0 < rGst a s)) k : Int), (k : Int), M)) rfl (by omega) ?_ ?_
  · intro s hs f
    have ek : ((s : Int) + 1) = ((s + 1 : Nat) : Int) := by omega
    have b := rGst_b g (s := s)
    dsimp only
    rw [xg_188_0 h, w_r1 h e, xe_cmp (by omega) (by omega) (by omega) (by omega), if_neg (by omega), xr_188 h, md_guests h e g (by omega), xe_call, xe_let, xe_cmp (by omega) (by omega) (by decide) (by decide), xct_s, ek]
    by_cases c : 0 < rGst a s
    · rw [if_neg (by omega), if_pos (decide_eq_true c)]
    · rw [if_pos (by omega), if_neg (fun z => c (of_decide_eq_true z))]
  · intro f
    dsimp only
    rw [xg_188_0 h, w_r1 h e, xe_cmp (by omega) (by omega) (by omega) (by omega), if_pos (by omega)]
theorem xm_occurs {M : xv_M} {a : RW} (h : LN a M) (g : rRW a) {r j : Nat} (hk : xv_kd M r = (14, 60)) (hr : ∀ s, s < rn a → xv_I M r s = a (6 + 7 * s + j)) (hj : j = 2 ∨ j = 3) {s : Nat} (hs : s < rn a) (ht : rTh a s) : D_X5_occursBefore 4 r (s : Int) M = some (if ∃ t, t < s ∧ (rTh a t ∧ a (6 + 7 * t + j) = a (6 + 7 * s + j)) then 1 else 0, M) := by
  have hO := h.1.1
  have hn := g.1.1.n
  have bd : ∀ t, t < rn a → rTh a t → 0 ≤ a (6 + 7 * t + j) ∧ a (6 + 7 * t + j) ≤ 1000 := fun t h1 h2 => by
    have := g.1.2.1.pl t h1 h2
    rcases hj with rfl | rfl <;> omega
  unfold D_X5_occursBefore
  refine xe_invx0 (I := fun (k : Nat) (q : Int × xv_M) => q.1 = (k : Int) ∧ q.2 = M ∧ ¬ ∃ t, t < k ∧ (rTh a t ∧ a (6 + 7 * t + j) = a (6 + 7 * s + j))) (n := s) (P := fun z => z = some (if ∃ t, t < s ∧ (rTh a t ∧ a (6 + 7 * t + j) = a (6 + 7 * s + j)) then 1 else 0, M)) (by omega) ⟨rfl, rfl, fun ⟨t, z, _⟩ => by omega⟩ ?_ ?_
  · rintro k ⟨i, N⟩ hk2 ⟨h1, h2, h3⟩
    dsimp only at h1 h2 h3 ⊢
    subst h1 h2
    have ek : ((k : Int) + 1) = ((k + 1 : Nat) : Int) := by omega
    by_cases c : rTh a k
    · have b1 := bd k (by omega) c
      have b2 := bd s hs ht
      by_cases c2 : a (6 + 7 * k + j) = a (6 + 7 * s + j)
      · refine Or.inr (fun f => ?_)
        rw [xe_cmp (by omega) (by omega) (by omega) (by omega), if_neg (by omega), xr_4 hO, xm_isThere hO h.1.2.2.1 (by omega), xe_call, xe_let, xe_b0, if_pos ⟨by omega, c⟩, xe_aI hk (by omega) (by omega) (by decide), Int.toNat_natCast, hr k (by omega), xe_aI hk (by omega) (by omega) (by decide), Int.toNat_natCast, hr s hs, xe_cmp (by omega) (by omega) (by omega) (by omega), if_neg (fun z => z c2), xe_g1, if_pos ⟨k, hk2, c, c2⟩]
      · refine Or.inl ⟨(((k + 1 : Nat) : Int), N), ⟨rfl, rfl, ?_⟩, fun f => ?_⟩
        · rintro ⟨t, z1, z2, z3⟩
          by_cases e : t = k
          · subst e; exact c2 z3
          · exact h3 ⟨t, by omega, z2, z3⟩
        · rw [xe_cmp (by omega) (by omega) (by omega) (by omega), if_neg (by omega), xr_4 hO, xm_isThere hO h.1.2.2.1 (by omega), xe_call, xe_let, xe_b0, if_pos ⟨by omega, c⟩, xe_aI hk (by omega) (by omega) (by decide), Int.toNat_natCast, hr k (by omega), xe_aI hk (by omega) (by omega) (by decide), Int.toNat_natCast, hr s hs, xe_cmp (by omega) (by omega) (by omega) (by omega), if_pos c2, ek]
    · refine Or.inl ⟨(((k + 1 : Nat) : Int), N), ⟨rfl, rfl, ?_⟩, fun f => ?_⟩
      · rintro ⟨t, z1, z2, z3⟩
        by_cases e : t = k
        · subst e; exact c z2
        · exact h3 ⟨t, by omega, z2, z3⟩
      · rw [xe_cmp (by omega) (by omega) (by omega) (by omega), if_neg (by omega), xr_4 hO, xm_isThere hO h.1.2.2.1 (by omega), xe_call, xe_let, xe_b0, if_neg (fun z => c z.2), ek]
  · rintro ⟨i, N⟩ ⟨h1, h2, h3⟩ f
    dsimp only at h1 h2 h3 ⊢
    subst h1 h2
    rw [xe_cmp (by omega) (by omega) (by omega) (by omega), if_pos (by omega), xe_g0, if_neg h3]
theorem xm_countDifferent {M : xv_M} {a : RW} (h : LN a M) (g : rRW a) {r j : Nat} (hk : xv_kd M r = (14, 60)) (hr : ∀ s, s < rn a → xv_I M r s = a (6 + 7 * s + j)) (hj : j = 2 ∨ j = 3) : D_X5_countDifferent 4 r M = some (rDf a j, M) := by
  have hO := h.1.1
  have hn := g.1.1.n
  have en := g.1.1.en
  have hz : xv_I M 4 0 = a 1 := h.1.2.2.1.1
  unfold D_X5_countDifferent rDf
  refine xe_loop (n := rn a) (fun k => ((xct (rNew a j) k : Int), (k : Int), M)) rfl (by omega) ?_ ?_
  · intro s hs f
    have ek : ((s : Int) + 1) = ((s + 1 : Nat) : Int) := by omega
    dsimp only
    rw [xg_4_0 hO, hz, xe_cmp (by omega) (by omega) (by omega) (by omega), if_neg (by omega)]
    unfold xv_len
    rw [if_pos (by rw [hk]), hk]
    dsimp only
    rw [xe_cmp (by omega) (by omega) (by omega) (by omega), if_neg (by omega), xr_4 hO, xm_isThere hO h.1.2.2.1 (by omega), xe_call, xe_let, xe_b0, xct_s, ek]
    by_cases c : rTh a s
    · rw [if_pos ⟨hs, c⟩, xr_4 hO, xm_occurs h g hk hr hj hs c, xe_call, xe_b1]
      by_cases c2 : ∃ t, t < s ∧ (rTh a t ∧ a (6 + 7 * t + j) = a (6 + 7 * s + j))
      · rw [if_pos c2, if_neg (fun z => (of_decide_eq_true z).2 c2), Int.add_zero]
      · rw [if_neg c2, if_pos (show rNew a j s = true from decide_eq_true ⟨c, c2⟩)]
    · rw [if_neg (fun z => c z.2), if_neg (fun z => c (of_decide_eq_true z).1), Int.add_zero]
  · intro f
    dsimp only
    rw [xg_4_0 hO, hz, xe_cmp (by omega) (by omega) (by omega) (by omega), if_pos (by omega)]
theorem md_different {M : xv_M} {a : RW} (h : xl_OK M) (e : xv_I M 189 = a) (g : rRW a) {j : Nat} {jj : Int} (hjj : jj = (j : Int)) (hj : j = 2 ∨ j = 3) : D_X12_different 188 jj M = some (rDf a j, M) := by
  subst hjj
  have hn := g.1.1.n
  have en := g.1.1.en
  have bd : ∀ t, t < rn a → rTh a t → 0 ≤ a (6 + 7 * t + j) ∧ a (6 + 7 * t + j) ≤ 1000 := fun t h1 h2 => by
    have := g.1.2.1.pl t h1 h2
    rcases hj with rfl | rfl <;> omega
  have hof : ∀ t : Nat, t < 60 → D_X12_of 188 (t : Int) (j : Int) M = some (a (6 + 7 * t + j), M) := fun t ht => w_of h e ht (by omega)
  unfold D_X12_different rDf
  refine xe_loop (n := rn a) (fun k => ((xct (rNew a j) k : Int), (k : Int), M)) rfl (by omega) ?_ ?_
  · intro s hs f
    have es : ((s : Int) + 1) = ((s + 1 : Nat) : Int) := by omega
    dsimp only
    rw [xg_188_0 h, w_r1 h e, xe_cmp (by omega) (by omega) (by omega) (by omega), if_neg (by omega), xr_188 h, w_isThere h e g.1.1 (by omega), xe_call, xct_s]
    refine xe_invx0 (I := fun (k : Nat) (q : Int × Int × xv_M) => q.1 = (if rTh a s ∧ ¬ ∃ t, t < k ∧ (rTh a t ∧ a (6 + 7 * t + j) = a (6 + 7 * s + j)) then 1 else 0) ∧ q.2.1 = (k : Int) ∧ q.2.2 = M) (n := s) (P := fun z => z = f ((xct (rNew a j) s : Int) + (if rNew a j s = true then 1 else 0), ((s + 1 : Nat) : Int), M)) (by omega) ⟨?_, rfl, rfl⟩ ?_ ?_
    · dsimp only
      by_cases c : rTh a s
      · rw [if_pos c, if_pos ⟨c, fun ⟨t, z, _⟩ => by omega⟩]
      · rw [if_neg c, if_neg (fun z => c z.1)]
    · rintro k ⟨q, i, N⟩ hk ⟨h1, h2, h3⟩
      dsimp only at h1 h2 h3 ⊢
      subst h2 h3
      have ek : ((k : Int) + 1) = ((k + 1 : Nat) : Int) := by omega
      by_cases c : rTh a s ∧ ¬ ∃ t, t < k ∧ (rTh a t ∧ a (6 + 7 * t + j) = a (6 + 7 * s + j))
      · rw [if_pos c] at h1
        subst h1
        have b2 := bd s hs c.1
        refine Or.inl ⟨((if rTh a s ∧ ¬ ∃ t, t < k + 1 ∧ (rTh a t ∧ a (6 + 7 * t + j) = a (6 + 7 * s + j)) then 1 else 0), ((k + 1 : Nat) : Int), N), ⟨rfl, rfl, rfl⟩, fun F => ?_⟩
        rw [xe_let, xe_cmp (by omega) (by omega) (by omega) (by omega), if_neg (by omega), xe_cmp (by decide) (by decide) (by decide) (by decide), if_neg (by decide), xr_188 h, w_isThere h e g.1.1 (by omega), xe_call, xe_let, xe_let, xe_b0, ek]
        by_cases c2 : rTh a k
        · have b1 := bd k (by omega) c2
          rw [if_pos c2, xr_188 h, hof k (by omega), xe_call, xr_188 h, hof s (by omega), xe_call, xe_cmp (by omega) (by omega) (by omega) (by omega)]
          by_cases c3 : a (6 + 7 * k + j) = a (6 + 7 * s + j)
          · rw [if_pos c3, if_neg (fun z => z.2 ⟨k, by omega, c2, c3⟩)]
          · rw [if_neg c3, if_pos ⟨c.1, fun ⟨t, z1, z2, z3⟩ => by
              by_cases e : t = k
              · subst e; exact c3 z3
              · exact c.2 ⟨t, by omega, z2, z3⟩⟩]
        · rw [if_neg c2, if_pos ⟨c.1, fun ⟨t, z1, z2, z3⟩ => by
            by_cases e : t = k
            · subst e; exact c2 z2
            · exact c.2 ⟨t, by omega, z2, z3⟩⟩]
      · rw [if_neg c] at h1
        subst h1
        have hnew : ¬ rNew a j s = true := fun z => by
          obtain ⟨z1, z2⟩ := of_decide_eq_true z
          exact c ⟨z1, fun ⟨t, y1, y2⟩ => z2 ⟨t, by omega, y2⟩⟩
        refine Or.inr (fun F => ?_)
        rw [xe_let, xe_cmp (by omega) (by omega) (by omega) (by omega), if_neg (by omega), xe_cmp (by decide) (by decide) (by decide) (by decide), if_pos rfl, xe_let, xe_cmp (by decide) (by decide) (by decide) (by decide), if_pos rfl, if_neg hnew, es]
    · rintro ⟨q, i, N⟩ ⟨h1, h2, h3⟩ F
      dsimp only at h1 h2 h3 ⊢
      subst h1 h2 h3
      rw [xe_let, xe_cmp (by omega) (by omega) (by omega) (by omega), if_pos (by omega), xe_let, xe_b0, es]
      by_cases c : rTh a s ∧ ¬ ∃ t, t < s ∧ (rTh a t ∧ a (6 + 7 * t + j) = a (6 + 7 * s + j))
      · rw [if_pos c, if_pos (show rNew a j s = true from decide_eq_true c)]
      · rw [if_neg c, if_neg (show ¬ rNew a j s = true from fun z => c (of_decide_eq_true z))]
  · intro f
    dsimp only
    rw [xg_188_0 h, w_r1 h e, xe_cmp (by omega) (by omega) (by omega) (by omega), if_pos (by omega)]
theorem xm_sumOf {M : xv_M} {a : RW} (h : LN a M) (g : rGd a) {r j : Nat} (hk : xv_kd M r = (14, 6)) (hr : ∀ w, w < rm a → xv_I M r w = a (426 + 6 * w + j)) : D_X11_sumOf r (a 2) M = some (rsm a j (rm a), M) := by
  have hm := g.m
  have em := g.em
  unfold D_X11_sumOf
  refine xe_loop (n := rm a) (fun k => (rsm a j k, (k : Int))) rfl (by omega) ?_ ?_
  · intro w hw f
    have ek : ((w : Int) + 1) = ((w + 1 : Nat) : Int) := by omega
    dsimp only
    rw [xe_cmp (by omega) (by omega) (by omega) (by omega), if_neg (by omega)]
    unfold xv_len
    rw [if_pos (by rw [hk]), hk]
    dsimp only
    rw [xe_cmp (by omega) (by omega) (by omega) (by omega), if_neg (by omega), xe_aI hk (by omega) (by omega) (by decide), Int.toNat_natCast, hr w hw, ek]
    rfl
  · intro f
    dsimp only
    rw [xe_cmp (by omega) (by omega) (by omega) (by omega), if_pos (by omega)]
def rCoV (a : RW) (k n : Int) (t : Int) : Int := if t = 0 then a 0 else (if t = 1 then a 1 else (if t = 2 then rth a (rn a) else (if t = 3 then a 2 else (if t = 4 then a 3 else (if t = 5 then a 4 else (if t = 6 then rPr a (rn a) else (if t = 7 then rVi a else (if t = 8 then rDf a 2 + rDf a 3 else (if t = 9 then k else (if t = 10 then n else -2))))))))))
theorem xc_count (hbc : BC) {a H : RW} {k : Nat} {M : xv_M} (h : CLh a H k M) {n t : Int} (hn : xv_I M 181 0 = n) (ht : iR t) : D_X11_count 1 t M = some (rCoV a (k : Int) n t, M) := by
  have hO := h.1.1.1
  have g := h.2.1
  have hnn := g.1.1.n
  have ht0 : xv_I M 3 0 = a 0 := h.1.1.2.1
  have hz : xv_I M 4 0 = a 1 := h.1.1.2.2.1.1
  have hz2 : xv_I M 11 0 = a 2 := h.1.1.2.2.2.1.1
  have hkk : xv_I M 39 0 = (k : Int) := h.2.2.1
  have hs15 : ∀ w, w < rm a → xv_I M 15 w = a (426 + 6 * w + 2) := fun w hw => (h.1.1.2.2.2.1.2.1 w hw).2.2.1
  have hs16 : ∀ w, w < rm a → xv_I M 16 w = a (426 + 6 * w + 3) := fun w hw => (h.1.1.2.2.2.1.2.1 w hw).2.2.2.1
  have f7 : ∀ s, s < rn a → xv_I M 7 s = a (6 + 7 * s + 2) := fun s hs => (h.1.1.2.2.1.2.2.1 s hs).2.2.1
  have f8 : ∀ s, s < rn a → xv_I M 8 s = a (6 + 7 * s + 3) := fun s hs => (h.1.1.2.2.1.2.2.1 s hs).2.2.2.1
  unfold D_X11_count rCoV
  rw [xg_1_0 hO, xg_2_0 hO, xe_g (xe_inb ht.1 ht.2)]
  have hc : t = 0 ∨ t = 1 ∨ t = 2 ∨ t = 3 ∨ t = 4 ∨ t = 5 ∨ t = 6 ∨ t = 7 ∨ t = 8 ∨ t = 9 ∨ t = 10 ∨ (t ≠ 0 ∧ t ≠ 1 ∧ t ≠ 2 ∧ t ≠ 3 ∧ t ≠ 4 ∧ t ≠ 5 ∧ t ≠ 6 ∧ t ≠ 7 ∧ t ≠ 8 ∧ t ≠ 9 ∧ t ≠ 10) := by omega
  rcases hc with rfl | rfl | rfl | rfl | rfl | rfl | rfl | rfl | rfl | rfl | rfl | hc
  · rw [xi_t rfl, if_pos rfl, xg_3_0 hO, ht0]
  · rw [xi_f (by decide), xi_t rfl, if_neg (by decide), if_pos rfl, xg_3_1 hO, xg_4_0 hO, hz]
  · rw [xi_f (by decide), xi_f (by decide), xi_t rfl, if_neg (by decide), if_neg (by decide), if_pos rfl, xg_3_1 hO, xr_4 hO, show D_X5_countThere 4 M = _ from xm_countThere hbc hO (p := 3) (Or.inl rfl) h.1.1.2.2.1 g.1.1, xe_call]
  · rw [xi_f (by decide), xi_f (by decide), xi_f (by decide), xi_t rfl, if_neg (by decide), if_neg (by decide), if_neg (by decide), if_pos rfl, xg_3_2 hO, xg_11_0 hO, hz2]
  · rw [xi_f (by decide), xi_f (by decide), xi_f (by decide), xi_f (by decide), xi_t rfl, if_neg (by decide), if_neg (by decide), if_neg (by decide), if_neg (by decide), if_pos rfl, xg_3_2 hO, xg_11_4 hO, xg_3_2 hO, xg_11_0 hO, hz2, xm_sumOf h.1 g.1.1 (xk_15 hO) hs15, xe_call, ← g.1.2.2.1.1]
  · rw [xi_f (by decide), xi_f (by decide), xi_f (by decide), xi_f (by decide), xi_f (by decide), xi_t rfl, if_neg (by decide), if_neg (by decide), if_neg (by decide), if_neg (by decide), if_neg (by decide), if_pos rfl, xg_3_2 hO, xg_11_5 hO, xg_3_2 hO, xg_11_0 hO, hz2, xm_sumOf h.1 g.1.1 (xk_16 hO) hs16, xe_call, ← g.1.2.2.1.2]
  · rw [xi_f (by decide), xi_f (by decide), xi_f (by decide), xi_f (by decide), xi_f (by decide), xi_f (by decide), xi_t rfl, if_neg (by decide), if_neg (by decide), if_neg (by decide), if_neg (by decide), if_neg (by decide), if_neg (by decide), if_pos rfl, xg_3_1 hO, xr_4 hO, xm_countPairs h.1 g, xe_call]
  · obtain ⟨v, dv, hv⟩ := xm_insideOfAny h.1 g.1.1
    rw [xi_f (by decide), xi_f (by decide), xi_f (by decide), xi_f (by decide), xi_f (by decide), xi_f (by decide), xi_f (by decide), xi_t rfl, if_neg (by decide), if_neg (by decide), if_neg (by decide), if_neg (by decide), if_neg (by decide), if_neg (by decide), if_neg (by decide), if_pos rfl, xg_3_2 hO, xr_11 hO, dv, xe_call, hbc, xe_call, xpc_n (n := rn a) (by omega) hv]
    rfl
  · rw [xi_f (by decide), xi_f (by decide), xi_f (by decide), xi_f (by decide), xi_f (by decide), xi_f (by decide), xi_f (by decide), xi_f (by decide), xi_t rfl, if_neg (by decide), if_neg (by decide), if_neg (by decide), if_neg (by decide), if_neg (by decide), if_neg (by decide), if_neg (by decide), if_neg (by decide), if_pos rfl, xg_3_1 hO, xg_3_1 hO, xg_4_4 hO, xr_4 hO, xm_countDifferent h.1 g (xk_7 hO) f7 (Or.inl rfl), xe_call, xg_3_1 hO, xg_3_1 hO, xg_4_5 hO, xr_4 hO, xm_countDifferent h.1 g (xk_8 hO) f8 (Or.inr rfl), xe_call]
  · rw [xi_f (by decide), xi_f (by decide), xi_f (by decide), xi_f (by decide), xi_f (by decide), xi_f (by decide), xi_f (by decide), xi_f (by decide), xi_f (by decide), xi_t rfl, if_neg (by decide), if_neg (by decide), if_neg (by decide), if_neg (by decide), if_neg (by decide), if_neg (by decide), if_neg (by decide), if_neg (by decide), if_neg (by decide), if_pos rfl, xg_1_1 hO, xg_39_0 hO, hkk]
  · rw [xi_f (by decide), xi_f (by decide), xi_f (by decide), xi_f (by decide), xi_f (by decide), xi_f (by decide), xi_f (by decide), xi_f (by decide), xi_f (by decide), xi_f (by decide), xi_t rfl, if_neg (by decide), if_neg (by decide), if_neg (by decide), if_neg (by decide), if_neg (by decide), if_neg (by decide), if_neg (by decide), if_neg (by decide), if_neg (by decide), if_neg (by decide), if_pos rfl, xg_1_3 hO, xg_181_0 hO, hn]
  · obtain ⟨c0, c1, c2, c3, c4, c5, c6, c7, c8, c9, c10⟩ := hc
    rw [xi_f c0, xi_f c1, xi_f c2, xi_f c3, xi_f c4, xi_f c5, xi_f c6, xi_f c7, xi_f c8, xi_f c9, xi_f c10, if_neg c0, if_neg c1, if_neg c2, if_neg c3, if_neg c4, if_neg c5, if_neg c6, if_neg c7, if_neg c8, if_neg c9, if_neg c10]
theorem md_count {M : xv_M} {a : RW} (h : xl_OK M) (g : rRW a) (e : xv_I M 189 = a) {k n t : Int} (hk : xv_I M 188 2 = k) (hn : xv_I M 188 5 = n) (ht : iR t) : D_X12_count 188 t M = some (rCoV a k n t, M) := by
  have r3 : ∀ {T : Type} {f : Int → Option T}, xv_aI M 14 189 3 f = f (a 3) := fun {T f} => w_rd h e (i := 3) (by decide)
  have r4 : ∀ {T : Type} {f : Int → Option T}, xv_aI M 14 189 4 f = f (a 4) := fun {T f} => w_rd h e (i := 4) (by decide)
  unfold D_X12_count rCoV
  rw [xe_g (xe_inb ht.1 ht.2)]
  have hc : t = 0 ∨ t = 1 ∨ t = 2 ∨ t = 3 ∨ t = 4 ∨ t = 5 ∨ t = 6 ∨ t = 7 ∨ t = 8 ∨ t = 9 ∨ t = 10 ∨ (t ≠ 0 ∧ t ≠ 1 ∧ t ≠ 2 ∧ t ≠ 3 ∧ t ≠ 4 ∧ t ≠ 5 ∧ t ≠ 6 ∧ t ≠ 7 ∧ t ≠ 8 ∧ t ≠ 9 ∧ t ≠ 10) := by omega
  rcases hc with rfl | rfl | rfl | rfl | rfl | rfl | rfl | rfl | rfl | rfl | rfl | hc
  · rw [xi_t rfl, if_pos rfl, xg_188_0 h, w_r0 h e]
  · rw [xi_f (by decide), xi_t rfl, if_neg (by decide), if_pos rfl, xg_188_0 h, w_r1 h e]
  · rw [xi_f (by decide), xi_f (by decide), xi_t rfl, if_neg (by decide), if_neg (by decide), if_pos rfl, xr_188 h, w_there h e g.1.1, xe_call]
  · rw [xi_f (by decide), xi_f (by decide), xi_f (by decide), xi_t rfl, if_neg (by decide), if_neg (by decide), if_neg (by decide), if_pos rfl, xg_188_0 h, w_r2 h e]
  · rw [xi_f (by decide), xi_f (by decide), xi_f (by decide), xi_f (by decide), xi_t rfl, if_neg (by decide), if_neg (by decide), if_neg (by decide), if_neg (by decide), if_pos rfl, xg_188_0 h, r3]
  · rw [xi_f (by decide), xi_f (by decide), xi_f (by decide), xi_f (by decide), xi_f (by decide), xi_t rfl, if_neg (by decide), if_neg (by decide), if_neg (by decide), if_neg (by decide), if_neg (by decide), if_pos rfl, xg_188_0 h, r4]
  · rw [xi_f (by decide), xi_f (by decide), xi_f (by decide), xi_f (by decide), xi_f (by decide), xi_f (by decide), xi_t rfl, if_neg (by decide), if_neg (by decide), if_neg (by decide), if_neg (by decide), if_neg (by decide), if_neg (by decide), if_pos rfl, xr_188 h, md_pairs h e g, xe_call]
  · rw [xi_f (by decide), xi_f (by decide), xi_f (by decide), xi_f (by decide), xi_f (by decide), xi_f (by decide), xi_f (by decide), xi_t rfl, if_neg (by decide), if_neg (by decide), if_neg (by decide), if_neg (by decide), if_neg (by decide), if_neg (by decide), if_neg (by decide), if_pos rfl, xr_188 h, md_visited h e g.1.1, xe_call]
  · rw [xi_f (by decide), xi_f (by decide), xi_f (by decide), xi_f (by decide), xi_f (by decide), xi_f (by decide), xi_f (by decide), xi_f (by decide), xi_t rfl, if_neg (by decide), if_neg (by decide), if_neg (by decide), if_neg (by decide), if_neg (by decide), if_neg (by decide), if_neg (by decide), if_neg (by decide), if_pos rfl, xr_188 h, md_different h e g (j := 2) (jj := 2) rfl (Or.inl rfl), xe_call, xr_188 h, md_different h e g (j := 3) (jj := 3) rfl (Or.inr rfl), xe_call]
  · rw [xi_f (by decide), xi_f (by decide), xi_f (by decide), xi_f (by decide), xi_f (by decide), xi_f (by decide), xi_f (by decide), xi_f (by decide), xi_f (by decide), xi_t rfl, if_neg (by decide), if_neg (by decide), if_neg (by decide), if_neg (by decide), if_neg (by decide), if_neg (by decide), if_neg (by decide), if_neg (by decide), if_neg (by decide), if_pos rfl, xg_188_2 h, hk]
  · rw [xi_f (by decide), xi_f (by decide), xi_f (by decide), xi_f (by decide), xi_f (by decide), xi_f (by decide), xi_f (by decide), xi_f (by decide), xi_f (by decide), xi_f (by decide), xi_t rfl, if_neg (by decide), if_neg (by decide), if_neg (by decide), if_neg (by decide), if_neg (by decide), if_neg (by decide), if_neg (by decide), if_neg (by decide), if_neg (by decide), if_neg (by decide), if_pos rfl, xg_188_5 h, hn]
  · obtain ⟨c0, c1, c2, c3, c4, c5, c6, c7, c8, c9, c10⟩ := hc
    rw [xi_f c0, xi_f c1, xi_f c2, xi_f c3, xi_f c4, xi_f c5, xi_f c6, xi_f c7, xi_f c8, xi_f c9, xi_f c10, if_neg c0, if_neg c1, if_neg c2, if_neg c3, if_neg c4, if_neg c5, if_neg c6, if_neg c7, if_neg c8, if_neg c9, if_neg c10]
theorem ok_count (hbc : BC) {M : xv_M} (hi : INV M) {t : Int} (ht : iR t) : ok2 (D_X11_count 1 t) (D_X12_count 188 t) M := by
  have hi' := hi
  obtain ⟨k, hk, cl, sl, n, h60, hn, hn2, tx⟩ := hi'
  exact ⟨_, M, M, cl.1.1.1, xc_count hbc cl hn ht, md_count cl.1.1.1 cl.2.1 rfl hk hn2 ht, hi⟩
