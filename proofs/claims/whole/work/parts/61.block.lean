/-! ## the class's one state beside the row -/
/-- n spans that are there or were -/
abbrev rn (a : RW) : Nat := (a 1).toNat
abbrev rm (a : RW) : Nat := (a 2).toNat
/-- the spans of the block at p -/
def SBs (p : Nat) (a : RW) (M : xv_M) : Prop := xv_I M (p + 1) 0 = a 1 ∧
  (∀ s, s < 64 → xb (xv_J M (p + 1) 1) s = decide (s < rn a ∧ a (6 + 7 * s + 4) = 1)) ∧
  (∀ s, s < rn a → xv_I M (p + 2) s = a (6 + 7 * s + 0) ∧ xv_I M (p + 3) s = a (6 + 7 * s + 1) ∧ xv_I M (p + 4) s = a (6 + 7 * s + 2) ∧ xv_I M (p + 5) s = a (6 + 7 * s + 3) ∧ xv_I M (p + 6) s = a (6 + 7 * s + 5) ∧ xv_I M (p + 7) s = a (6 + 7 * s + 6)) ∧
  (∀ s, s < 60 → rn a ≤ s → xv_I M (p + 6) s = 0 ∧ xv_I M (p + 7) s = 0)
/-- its walkers, but what they are inside of -/
def SBw (p : Nat) (a : RW) (M : xv_M) : Prop := xv_I M (p + 8) 0 = a 2 ∧
  (∀ w, w < rm a → xv_I M (p + 9) w = a (426 + 6 * w + 0) ∧ xv_I M (p + 10) w = a (426 + 6 * w + 1) ∧ xv_I M (p + 12) w = a (426 + 6 * w + 2) ∧ xv_I M (p + 13) w = a (426 + 6 * w + 3) ∧ xv_I M (p + 14) w = a (426 + 6 * w + 4) ∧ xv_I M (p + 15) w = a (426 + 6 * w + 5)) ∧
  (∀ w, w < 6 → rm a ≤ w → xv_I M (p + 12) w = 0 ∧ xv_I M (p + 13) w = 0 ∧ xv_I M (p + 14) w = 0 ∧ xv_I M (p + 15) w = 0)
/-- what walker w is inside of -/
def SBi (p : Nat) (a : RW) (M : xv_M) (w : Nat) : Prop := (∀ s, s < 64 → xb (xv_J M (p + 11) w) s = decide (s < rn a ∧ 0 < a (462 + 60 * w + s)))
/-- since when -/
def SBe (p : Nat) (a : RW) (M : xv_M) : Prop := ∀ w s, w < rm a → s < rn a → 0 < a (462 + 60 * w + s) → xv_I M (p + 17 + w) s = a (462 + 60 * w + s) - 1
/-- its log: a ring -/
def SBl (p : Nat) (a : RW) (M : xv_M) : Prop := xv_I M (p + 23) 0 = a 5 ∧ (0 ≤ xv_I M (p + 23) 1 ∧ xv_I M (p + 23) 1 < 12) ∧
  ∀ k : Nat, k < (a 5).toNat → (xv_I M (p + 24) ((xv_I M (p + 23) 1 - (k : Int)) % 12).toNat = a (822 + 4 * ((a 5).toNat - 1 - k)) ∧ xv_I M (p + 25) ((xv_I M (p + 23) 1 - (k : Int)) % 12).toNat = a (822 + 4 * ((a 5).toNat - 1 - k) + 1) ∧ xv_I M (p + 26) ((xv_I M (p + 23) 1 - (k : Int)) % 12).toNat = a (822 + 4 * ((a 5).toNat - 1 - k) + 2) ∧ xv_I M (p + 27) ((xv_I M (p + 23) 1 - (k : Int)) % 12).toNat = a (822 + 4 * ((a 5).toNat - 1 - k) + 3))
/-- two memories hold the same in the cells from l to u -/
def Sm (l u : Nat) (M M' : xv_M) : Prop := ∀ r j, l ≤ r → r ≤ u → xv_I M' r j = xv_I M r j ∧ xv_J M' r j = xv_J M r j
theorem Sm.rf {l u : Nat} {M : xv_M} : Sm l u M M := fun _ _ _ _ => ⟨rfl, rfl⟩
theorem Sm.tr {l u : Nat} {M M' M'' : xv_M} (h : Sm l u M M') (h2 : Sm l u M' M'') : Sm l u M M'' := fun r j h1 h3 => ⟨(h2 r j h1 h3).1.trans (h r j h1 h3).1, (h2 r j h1 h3).2.trans (h r j h1 h3).2⟩
theorem Sm.sub {l u l' u' : Nat} {M M' : xv_M} (h : Sm l u M M') (h1 : l ≤ l') (h2 : u' ≤ u) : Sm l' u' M M' := fun r j q1 q2 => h r j (by omega) (by omega)
theorem Sm.sI {l u : Nat} {M : xv_M} {r j : Nat} {v : Int} (h : ¬ (l ≤ r ∧ r ≤ u)) : Sm l u M (xv_sI M r j v) := fun r' j' h1 h2 => ⟨by rw [xe_I_sI, if_neg]; rintro ⟨rfl, -⟩; exact h ⟨h1, h2⟩, rfl⟩
theorem Sm.sJ {l u : Nat} {M : xv_M} {r j : Nat} {v : Int64} (h : ¬ (l ≤ r ∧ r ≤ u)) : Sm l u M (xv_sJ M r j v) := fun r' j' h1 h2 => ⟨rfl, by rw [xe_J_sJ, if_neg]; rintro ⟨rfl, -⟩; exact h ⟨h1, h2⟩⟩
theorem SBs.sm {p : Nat} {a : RW} {M M' : xv_M} (h : SBs p a M) (s : Sm (p + 1) (p + 7) M M') : SBs p a M' := by
  obtain ⟨h1, h2, h3, h4⟩ := h
  refine ⟨by rw [(s _ _ (by omega) (by omega)).1]; exact h1, fun i hi => by rw [(s _ _ (by omega) (by omega)).2]; exact h2 i hi, fun i hi => ?_, fun i hi hj => ?_⟩
  · rw [(s (p + 2) i (by omega) (by omega)).1, (s (p + 3) i (by omega) (by omega)).1, (s (p + 4) i (by omega) (by omega)).1, (s (p + 5) i (by omega) (by omega)).1, (s (p + 6) i (by omega) (by omega)).1, (s (p + 7) i (by omega) (by omega)).1]
    exact h3 i hi
  · rw [(s (p + 6) i (by omega) (by omega)).1, (s (p + 7) i (by omega) (by omega)).1]
    exact h4 i hi hj
theorem SBw.sm {p : Nat} {a : RW} {M M' : xv_M} (h : SBw p a M) (s : Sm (p + 8) (p + 15) M M') : SBw p a M' := by
  obtain ⟨h1, h2, h3⟩ := h
  refine ⟨by rw [(s _ _ (by omega) (by omega)).1]; exact h1, fun i hi => ?_, fun i hi hj => ?_⟩
  · rw [(s (p + 9) i (by omega) (by omega)).1, (s (p + 10) i (by omega) (by omega)).1, (s (p + 12) i (by omega) (by omega)).1, (s (p + 13) i (by omega) (by omega)).1, (s (p + 14) i (by omega) (by omega)).1, (s (p + 15) i (by omega) (by omega)).1]
    exact h2 i hi
  · rw [(s (p + 12) i (by omega) (by omega)).1, (s (p + 13) i (by omega) (by omega)).1, (s (p + 14) i (by omega) (by omega)).1, (s (p + 15) i (by omega) (by omega)).1]
    exact h3 i hi hj
theorem SBl.sm {p : Nat} {a : RW} {M M' : xv_M} (h : SBl p a M) (s : Sm (p + 23) (p + 27) M M') : SBl p a M' := by
  obtain ⟨h1, h2, h3⟩ := h
  have e := (s (p + 23) 1 (by omega) (by omega)).1
  refine ⟨by rw [(s _ _ (by omega) (by omega)).1]; exact h1, by rw [e]; exact h2, fun k hk => ?_⟩
  rw [e, (s (p + 24) _ (by omega) (by omega)).1, (s (p + 25) _ (by omega) (by omega)).1, (s (p + 26) _ (by omega) (by omega)).1, (s (p + 27) _ (by omega) (by omega)).1]
  exact h3 k hk
/-- what a row's parts rest on -/
theorem SBs.row {p : Nat} {a b : RW} {M : xv_M} (h : SBs p a M) (h1 : b 1 = a 1) (hs : ∀ s j : Nat, s < 60 → j < 7 → b (6 + 7 * s + j) = a (6 + 7 * s + j)) (hn : rn a ≤ 60) : SBs p b M := by
  obtain ⟨g1, g2, g3, g4⟩ := h
  have en : rn b = rn a := by show (b 1).toNat = (a 1).toNat; rw [h1]
  refine ⟨by rw [h1]; exact g1, fun s hs' => ?_, fun s hs' => ?_, fun s h1' h2' => g4 s h1' (by rw [en] at h2'; exact h2')⟩
  · rw [g2 s hs', en]
    by_cases hl : s < rn a
    · rw [hs s 4 (by omega) (by omega)]
    · simp [hl]
  · rw [en] at hs'
    rw [hs s 0 (by omega) (by omega), hs s 1 (by omega) (by omega), hs s 2 (by omega) (by omega), hs s 3 (by omega) (by omega), hs s 5 (by omega) (by omega), hs s 6 (by omega) (by omega)]
    exact g3 s hs'
