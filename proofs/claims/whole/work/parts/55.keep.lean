/-! ## what telling keeps -/
theorem rPre_lo {a : RW} {i : Nat} (h5 : i ≠ 5) (hi : i < 822) : rPre a i = a i := by
  unfold rPre
  by_cases h : a 5 = 12
  · rw [if_pos h]
    unfold rShift
    rw [if_neg h5, if_neg (by omega)]
  · rw [if_neg h]
theorem rPre_5 {a : RW} (hb : 0 ≤ a 5 ∧ a 5 ≤ 12) : 0 ≤ rPre a 5 ∧ rPre a 5 ≤ 11 := by
  unfold rPre
  by_cases h : a 5 = 12
  · rw [if_pos h]
    show (0 : Int) ≤ 11 ∧ (11 : Int) ≤ 11
    omega
  · rw [if_neg h]
    omega
theorem rTells_lo {a : RW} {k w x : Int} {i : Nat} (h5 : i ≠ 5) (hi : i < 822) : rTells a k w x i = a i := by
  unfold rTells
  rw [up1_n h5, up1_n (by omega), up1_n (by omega), up1_n (by omega), up1_n (by omega), rPre_lo h5 hi]
theorem rTells_5 {a : RW} {k w x : Int} (hb : 0 ≤ a 5 ∧ a 5 ≤ 12) : 0 ≤ rTells a k w x 5 ∧ rTells a k w x 5 ≤ 12 := by
  unfold rTells
  rw [up1_s]
  have := rPre_5 hb
  omega
theorem rLeave_lo {a : RW} {w s i : Nat} (hw : w < 6) (hs : s < 60) (h5 : i ≠ 5) (hi : i < 822) : rLeave a w s i = if i = 4 then a 4 + 1 else if i = 426 + 6 * w + 3 then a i + 1 else if i = 462 + 60 * w + s then 0 else a i := by
  unfold rLeave
  rw [rTells_lo h5 hi]
  unfold rLv3 rLv2 rLv1
  by_cases h4 : i = 4
  · subst h4
    rw [up1_s, if_pos rfl, up1_n (by omega), up1_n (by omega)]
  · rw [up1_n h4, if_neg h4]
    by_cases h3 : i = 426 + 6 * w + 3
    · subst h3
      rw [up1_s, if_pos rfl, up1_n (by omega)]
    · rw [up1_n h3, if_neg h3]
      by_cases h2 : i = 462 + 60 * w + s
      · subst h2
        rw [up1_s, if_pos rfl]
      · rw [up1_n h2, if_neg h2]
theorem rEnter_lo {a : RW} {w s i : Nat} (hw : w < 6) (hs : s < 60) (h5 : i ≠ 5) (hi : i < 822) : rEnter a w s i = if i = 3 then a 3 + 1 else if i = 6 + 7 * s + 6 then a i + 1 else if i = 426 + 6 * w + 2 then a i + 1 else if i = 462 + 60 * w + s then a 0 + 1 else a i := by
  unfold rEnter
  rw [rTells_lo h5 hi]
  unfold rEn4 rEn3 rEn2 rEn1
  by_cases h4 : i = 3
  · subst h4
    rw [up1_s, if_pos rfl, up1_n (by omega), up1_n (by omega), up1_n (by omega)]
  · rw [up1_n h4, if_neg h4]
    by_cases h3 : i = 6 + 7 * s + 6
    · subst h3
      rw [up1_s, if_pos rfl, up1_n (by omega), up1_n (by omega)]
    · rw [up1_n h3, if_neg h3]
      by_cases h2 : i = 426 + 6 * w + 2
      · subst h2
        rw [up1_s, if_pos rfl, up1_n (by omega)]
      · rw [up1_n h2, if_neg h2]
        by_cases h1 : i = 462 + 60 * w + s
        · subst h1
          rw [up1_s, if_pos rfl]
        · rw [up1_n h1, if_neg h1]
theorem rLeave_5 {a : RW} {w s : Nat} (hw : w < 6) (hs : s < 60) (hb : 0 ≤ a 5 ∧ a 5 ≤ 12) : 0 ≤ rLeave a w s 5 ∧ rLeave a w s 5 ≤ 12 := by
  unfold rLeave
  refine rTells_5 ?_
  unfold rLv3 rLv2 rLv1
  rw [up1_n (by omega), up1_n (by omega), up1_n (by omega)]
  exact hb
theorem rEnter_5 {a : RW} {w s : Nat} (hw : w < 6) (hs : s < 60) (hb : 0 ≤ a 5 ∧ a 5 ≤ 12) : 0 ≤ rEnter a w s 5 ∧ rEnter a w s 5 ≤ 12 := by
  unfold rEnter
  refine rTells_5 ?_
  unfold rEn4 rEn3 rEn2 rEn1
  rw [up1_n (by omega), up1_n (by omega), up1_n (by omega), up1_n (by omega)]
  exact hb
/-- what an act of telling keeps of a row -/
def rKp (a b : RW) : Prop := b 0 = a 0 ∧ b 1 = a 1 ∧ b 2 = a 2 ∧ (0 ≤ b 5 ∧ b 5 ≤ 12) ∧ (∀ s j : Nat, s < 60 → j < 6 → b (6 + 7 * s + j) = a (6 + 7 * s + j)) ∧ (∀ w j : Nat, w < 6 → (j < 2 ∨ j = 4 ∨ j = 5) → b (426 + 6 * w + j) = a (426 + 6 * w + j)) ∧ (∀ w s : Nat, w < 6 → s < 60 → 0 ≤ b (462 + 60 * w + s) ∧ b (462 + 60 * w + s) ≤ b 0 + 1)
theorem rKp_leave {a b : RW} {w s : Nat} (h : rKp a b) (h0 : 0 ≤ b 0) (hw : w < 6) (hs : s < 60) : rKp a (rLeave b w s) := by
  obtain ⟨k0, k1, k2, k5, ks, kw, ki⟩ := h
  have e : ∀ i, i ≠ 5 → i < 822 → i ≠ 4 → i ≠ 426 + 6 * w + 3 → i ≠ 462 + 60 * w + s → rLeave b w s i = b i := fun i h1 h2 h3 h4 h6 => by
    rw [rLeave_lo hw hs h1 h2, if_neg h3, if_neg h4, if_neg h6]
  refine ⟨?_, ?_, ?_, rLeave_5 hw hs k5, fun s' j h1 h2 => ?_, fun w' j h1 h2 => ?_, fun w' s' h1 h2 => ?_⟩
  · rw [e 0 (by omega) (by omega) (by omega) (by omega) (by omega)]; exact k0
  · rw [e 1 (by omega) (by omega) (by omega) (by omega) (by omega)]; exact k1
  · rw [e 2 (by omega) (by omega) (by omega) (by omega) (by omega)]; exact k2
  · rw [e _ (by omega) (by omega) (by omega) (by omega) (by omega)]; exact ks s' j h1 h2
  · rw [e _ (by omega) (by omega) (by omega) (by omega) (by omega)]; exact kw w' j h1 h2
  · rw [e 0 (by omega) (by omega) (by omega) (by omega) (by omega), rLeave_lo hw hs (by omega) (by omega), if_neg (by omega), if_neg (by omega)]
    by_cases hq : 462 + 60 * w' + s' = 462 + 60 * w + s
    · rw [if_pos hq]; omega
    · rw [if_neg hq]; exact ki w' s' h1 h2
theorem rKp_enter {a b : RW} {w s : Nat} (h : rKp a b) (h0 : 0 ≤ b 0) (hw : w < 6) (hs : s < 60) : rKp a (rEnter b w s) := by
  obtain ⟨k0, k1, k2, k5, ks, kw, ki⟩ := h
  have e : ∀ i, i ≠ 5 → i < 822 → i ≠ 3 → i ≠ 6 + 7 * s + 6 → i ≠ 426 + 6 * w + 2 → i ≠ 462 + 60 * w + s → rEnter b w s i = b i := fun i h1 h2 h3 h4 h6 h7 => by
    rw [rEnter_lo hw hs h1 h2, if_neg h3, if_neg h4, if_neg h6, if_neg h7]
  refine ⟨?_, ?_, ?_, rEnter_5 hw hs k5, fun s' j h1 h2 => ?_, fun w' j h1 h2 => ?_, fun w' s' h1 h2 => ?_⟩
  · rw [e 0 (by omega) (by omega) (by omega) (by omega) (by omega) (by omega)]; exact k0
  · rw [e 1 (by omega) (by omega) (by omega) (by omega) (by omega) (by omega)]; exact k1
  · rw [e 2 (by omega) (by omega) (by omega) (by omega) (by omega) (by omega)]; exact k2
  · rw [e _ (by omega) (by omega) (by omega) (by omega) (by omega) (by omega)]; exact ks s' j h1 h2
  · rw [e _ (by omega) (by omega) (by omega) (by omega) (by omega) (by omega)]; exact kw w' j h1 h2
  · rw [e 0 (by omega) (by omega) (by omega) (by omega) (by omega) (by omega), rEnter_lo hw hs (by omega) (by omega), if_neg (by omega), if_neg (by omega), if_neg (by omega)]
    by_cases hq : 462 + 60 * w' + s' = 462 + 60 * w + s
    · rw [if_pos hq]; omega
    · rw [if_neg hq]; exact ki w' s' h1 h2
theorem rKp_refl {a : RW} (h5 : 0 ≤ a 5 ∧ a 5 ≤ 12) (hi : ∀ w s : Nat, w < 6 → s < 60 → 0 ≤ a (462 + 60 * w + s) ∧ a (462 + 60 * w + s) ≤ a 0 + 1) : rKp a a := ⟨rfl, rfl, rfl, h5, fun _ _ _ _ => rfl, fun _ _ _ _ => rfl, hi⟩
theorem rKp_trans {a b c : RW} (h1 : rKp a b) (h2 : rKp b c) : rKp a c := by
  obtain ⟨k0, k1, k2, k5, ks, kw, ki⟩ := h1
  obtain ⟨l0, l1, l2, l5, ls, lw, li⟩ := h2
  exact ⟨l0.trans k0, l1.trans k1, l2.trans k2, l5, fun s j p q => (ls s j p q).trans (ks s j p q), fun w j p q => (lw w j p q).trans (kw w j p q), li⟩
theorem rLv_keep {a : RW} {w : Nat} {x : Int} (ha : rKp a a) (h0 : 0 ≤ a 0) (hw : w < 6) : ∀ k, k ≤ 60 → rKp a (rLv a w x k).2
  | 0, _ => ha
  | k + 1, hk => by
    have ih := rLv_keep (x := x) ha h0 hw k (by omega)
    show rKp a (if _ then _ else _ : Int × RW).2
    by_cases hc : rIn (rLv a w x k).2 w k ∧ ¬ rCov (rLv a w x k).2 k x
    · rw [if_pos hc]
      exact rKp_leave ih (by rw [ih.1]; exact h0) hw (by omega)
    · rw [if_neg hc]
      exact ih
theorem rEn_keep {a : RW} {p : Int × RW} {w : Nat} {x : Int} (ha : rKp a p.2) (h0 : 0 ≤ a 0) (hw : w < 6) : ∀ k, k ≤ 60 → rKp a (rEn p w x k).2
  | 0, _ => ha
  | k + 1, hk => by
    have ih := rEn_keep (x := x) ha h0 hw k (by omega)
    show rKp a (if _ then _ else _ : Int × RW).2
    by_cases hc : ¬ rIn (rEn p w x k).2 w k ∧ rCov (rEn p w x k).2 k x
    · rw [if_pos hc]
      exact rKp_enter ih (by rw [ih.1]; exact h0) hw (by omega)
    · rw [if_neg hc]
      exact ih
theorem rChg_keep {a : RW} {w : Nat} (ha : rKp a a) (h0 : 0 ≤ a 0) (h1 : a 1 ≤ 60) (hw : w < 6) : rKp a (rChg a w).2 := rEn_keep (rLv_keep ha h0 hw _ (by omega)) h0 hw _ (by omega)
theorem rAllN_keep {a : RW} (ha : rKp a a) (h0 : 0 ≤ a 0) (h1 : a 1 ≤ 60) : ∀ k, k ≤ 6 → rKp a (rAllN a k).2
  | 0, _ => ha
  | k + 1, hk => by
    have ih := rAllN_keep ha h0 h1 k (by omega)
    have hb : rKp (rAllN a k).2 (rAllN a k).2 := rKp_refl ih.2.2.2.1 ih.2.2.2.2.2.2
    exact rKp_trans ih (rChg_keep hb (by rw [ih.1]; exact h0) (by rw [ih.2.1]; exact h1) (by omega))
