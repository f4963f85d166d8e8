/-! ## a walker is told: the class as the row -/
/-- how many of the first n -/
def xct (p : Nat → Bool) : Nat → Nat
  | 0 => 0
  | n + 1 => xct p n + (if p n = true then 1 else 0)
theorem xct_cg {p q : Nat → Bool} : ∀ {n : Nat}, (∀ k, k < n → p k = q k) → xct p n = xct q n
  | 0, _ => rfl
  | n + 1, h => by
    show xct p n + _ = xct q n + _
    rw [xct_cg (fun k hk => h k (by omega)), h n (by omega)]
theorem xct_0 {p : Nat → Bool} : ∀ {n : Nat}, (∀ k, k < n → p k = false) → xct p n = 0
  | 0, _ => rfl
  | n + 1, h => by
    show xct p n + _ = 0
    rw [xct_0 (fun k hk => h k (by omega)), h n (by omega)]
    rfl
theorem xct_up {p : Nat → Bool} {n m : Nat} (h : n ≤ m) (h0 : ∀ k, n ≤ k → k < m → p k = false) : xct p m = xct p n := by
  obtain ⟨d, rfl⟩ : ∃ d, m = n + d := ⟨m - n, by omega⟩
  clear h
  induction d with
  | zero => rfl
  | succ d ih =>
    show xct p (n + d) + (if p (n + d) = true then 1 else 0) = _
    rw [h0 (n + d) (by omega) (by omega), ih (fun k q1 q2 => h0 k q1 (by omega))]
    rfl
theorem xct_add {p q r : Nat → Bool} : ∀ {n : Nat}, (∀ k, k < n → (if r k = true then 1 else 0) = (if p k = true then 1 else 0) + (if q k = true then (1 : Nat) else 0)) → xct r n = xct p n + xct q n
  | 0, _ => rfl
  | n + 1, h => by
    show xct r n + _ = (xct p n + _) + (xct q n + _)
    rw [xct_add (fun k hk => h k (by omega)), h n (by omega)]
    omega
theorem xct_le (p : Nat → Bool) : ∀ n : Nat, xct p n ≤ n
  | 0 => Nat.le_refl _
  | n + 1 => by
    have := xct_le p n
    show xct p n + _ ≤ n + 1
    split <;> omega
/-- the bits of a long, counted -/
def xpc (v : Int64) : Nat := xct (fun s => xb v s) 64
theorem xe_inv {σ T : Type} {F : (σ → Option T) → σ → Option T} (I : Nat → σ → Prop) (n : Nat) (P : Option T → Prop) (hs : ∀ k s, k < n → I k s → ∃ s', I (k + 1) s' ∧ ∀ f, F f s = f s') (he : ∀ s, I n s → ∀ f, P (F f s)) : ∀ (fuel k : Nat) (s : σ), k ≤ n → n < fuel + k → I k s → P (xv_fix F fuel s)
  | 0, k, s, h1, h2, _ => by omega
  | fuel + 1, k, s, h1, h2, hI => by
    show P (F (xv_fix F fuel) s)
    by_cases hk : k = n
    · subst hk; exact he s hI _
    · obtain ⟨s', h3, h4⟩ := hs k s (by omega) hI
      rw [h4]
      exact xe_inv I n P hs he fuel (k + 1) s' (by omega) (by omega) h3
theorem xe_inv0 {σ T : Type} {F : (σ → Option T) → σ → Option T} (I : Nat → σ → Prop) (n : Nat) (P : Option T → Prop) {s : σ} (hn : n < 10000) (h0 : I 0 s) (hs : ∀ k s, k < n → I k s → ∃ s', I (k + 1) s' ∧ ∀ f, F f s = f s') (he : ∀ s, I n s → ∀ f, P (F f s)) : P (xv_fix F xv_fuel s) := xe_inv I n P hs he xv_fuel 0 s (by omega) (by unfold xv_fuel; omega) h0
/-! the row's own facts -/
theorem rCov_kp {a b : RW} (h : rKp a b) {s : Nat} (hs : s < 60) {x : Int} : rCov b s x ↔ rCov a s x := by
  have k := h.2.2.2.2.1
  unfold rCov
  rw [k s 4 hs (by omega), k s 2 hs (by omega), k s 3 hs (by omega)]
theorem rLv_in {a : RW} {w : Nat} {x : Int} (ha : rKp a a) (h0 : 0 ≤ a 0) (hw : w < 6) : ∀ k, k ≤ 60 → ∀ w' s, w' < 6 → s < 60 → (rLv a w x k).2 (462 + 60 * w' + s) = if w' = w ∧ s < k ∧ 0 < a (462 + 60 * w + s) ∧ ¬ rCov a s x then 0 else a (462 + 60 * w' + s)
  | 0, _, w', s, _, _ => by
    rw [if_neg (fun q => by omega)]
    rfl
  | k + 1, hk, w', s, hw', hs => by
    have ih := rLv_in (x := x) ha h0 hw k (by omega)
    have kp := rLv_keep (x := x) ha h0 hw k (by omega)
    have ik := ih w k hw (by omega)
    rw [if_neg (fun q => by omega)] at ik
    show (if _ then _ else _ : Int × RW).2 _ = _
    unfold rIn
    rw [ik]
    by_cases hc : 0 < a (462 + 60 * w + k) ∧ ¬ rCov (rLv a w x k).2 k x
    · rw [if_pos hc]
      have hc2 : ¬ rCov a k x := fun q => hc.2 ((rCov_kp kp (by omega)).mpr q)
      show rLeave _ w k _ = _
      rw [rLeave_lo hw (by omega) (by omega) (by omega), if_neg (by omega), if_neg (by omega), ih w' s hw' hs]
      by_cases hq : w' = w ∧ s = k
      · obtain ⟨rfl, rfl⟩ := hq
        rw [if_pos rfl, if_pos ⟨rfl, by omega, hc.1, hc2⟩]
      · rw [if_neg (by omega)]
        by_cases hr : w' = w ∧ s < k ∧ 0 < a (462 + 60 * w + s) ∧ ¬ rCov a s x
        · rw [if_pos hr, if_pos ⟨hr.1, by omega, hr.2.2⟩]
        · rw [if_neg hr, if_neg (fun z => hr ⟨z.1, by omega, z.2.2⟩)]
    · rw [if_neg hc, ih w' s hw' hs]
      by_cases hr : w' = w ∧ s < k ∧ 0 < a (462 + 60 * w + s) ∧ ¬ rCov a s x
      · rw [if_pos hr, if_pos ⟨hr.1, by omega, hr.2.2⟩]
      · rw [if_neg hr, if_neg (fun z => ?_)]
        by_cases hq : s = k
        · subst hq
          exact hc ⟨z.2.2.1, fun q => z.2.2.2 ((rCov_kp kp (by omega)).mp q)⟩
        · exact hr ⟨z.1, by omega, z.2.2⟩
theorem rEn_in {a : RW} {p : Int × RW} {w : Nat} {x : Int} (ha : rKp a p.2) (h0 : 0 ≤ a 0) (hw : w < 6) : ∀ k, k ≤ 60 → ∀ w' s, w' < 6 → s < 60 → (rEn p w x k).2 (462 + 60 * w' + s) = if w' = w ∧ s < k ∧ ¬ 0 < p.2 (462 + 60 * w + s) ∧ rCov a s x then a 0 + 1 else p.2 (462 + 60 * w' + s)
  | 0, _, w', s, _, _ => by
    rw [if_neg (fun q => by omega)]
    rfl
  | k + 1, hk, w', s, hw', hs => by
    have ih := rEn_in (x := x) ha h0 hw k (by omega)
    have kp := rEn_keep (x := x) ha h0 hw k (by omega)
    have ik := ih w k hw (by omega)
    rw [if_neg (fun q => by omega)] at ik
    show (if _ then _ else _ : Int × RW).2 _ = _
    unfold rIn
    rw [ik]
    by_cases hc : ¬ 0 < p.2 (462 + 60 * w + k) ∧ rCov (rEn p w x k).2 k x
    · rw [if_pos hc]
      have hc2 : rCov a k x := (rCov_kp kp (by omega)).mp hc.2
      show rEnter _ w k _ = _
      rw [rEnter_lo hw (by omega) (by omega) (by omega), if_neg (by omega), if_neg (by omega), if_neg (by omega), ih w' s hw' hs, kp.1]
      by_cases hq : w' = w ∧ s = k
      · obtain ⟨rfl, rfl⟩ := hq
        rw [if_pos rfl, if_pos ⟨rfl, by omega, hc.1, hc2⟩]
      · rw [if_neg (by omega)]
        by_cases hr : w' = w ∧ s < k ∧ ¬ 0 < p.2 (462 + 60 * w + s) ∧ rCov a s x
        · rw [if_pos hr, if_pos ⟨hr.1, by omega, hr.2.2⟩]
        · rw [if_neg hr, if_neg (fun z => hr ⟨z.1, by omega, z.2.2⟩)]
    · rw [if_neg hc, ih w' s hw' hs]
      by_cases hr : w' = w ∧ s < k ∧ ¬ 0 < p.2 (462 + 60 * w + s) ∧ rCov a s x
      · rw [if_pos hr, if_pos ⟨hr.1, by omega, hr.2.2⟩]
      · rw [if_neg hr, if_neg (fun z => ?_)]
        by_cases hq : s = k
        · subst hq
          exact hc ⟨z.2.2.1, (rCov_kp kp (by omega)).mpr z.2.2.2⟩
        · exact hr ⟨z.1, by omega, z.2.2⟩
theorem rLv_ct {a : RW} {w : Nat} {x : Int} (ha : rKp a a) (h0 : 0 ≤ a 0) (hw : w < 6) : ∀ k, k ≤ 60 → (rLv a w x k).1 = (xct (fun s => decide (0 < a (462 + 60 * w + s) ∧ ¬ rCov a s x)) k : Int)
  | 0, _ => rfl
  | k + 1, hk => by
    have ih := rLv_ct (x := x) ha h0 hw k (by omega)
    have kp := rLv_keep (x := x) ha h0 hw k (by omega)
    have ik := rLv_in (x := x) ha h0 hw k (by omega) w k hw (by omega)
    rw [if_neg (fun q => by omega)] at ik
    show (if _ then _ else _ : Int × RW).1 = ((xct _ k + _ : Nat) : Int)
    unfold rIn
    rw [ik]
    by_cases hc : 0 < a (462 + 60 * w + k) ∧ ¬ rCov (rLv a w x k).2 k x
    · have hc2 : 0 < a (462 + 60 * w + k) ∧ ¬ rCov a k x := ⟨hc.1, fun q => hc.2 ((rCov_kp kp (by omega)).mpr q)⟩
      rw [if_pos hc, if_pos (decide_eq_true hc2)]
      show (rLv a w x k).1 + 1 = _
      rw [ih]
      omega
    · have hc2 : ¬ (0 < a (462 + 60 * w + k) ∧ ¬ rCov a k x) := fun z => hc ⟨z.1, fun q => z.2 ((rCov_kp kp (by omega)).mp q)⟩
      rw [if_neg hc, if_neg (fun z => hc2 (of_decide_eq_true z)), ih]
      omega
theorem rEn_ct {a : RW} {p : Int × RW} {w : Nat} {x : Int} (ha : rKp a p.2) (h0 : 0 ≤ a 0) (hw : w < 6) : ∀ k, k ≤ 60 → (rEn p w x k).1 = p.1 + (xct (fun s => decide (¬ 0 < p.2 (462 + 60 * w + s) ∧ rCov a s x)) k : Int)
  | 0, _ => by show p.1 = p.1 + ((0 : Nat) : Int); omega
  | k + 1, hk => by
    have ih := rEn_ct (x := x) ha h0 hw k (by omega)
    have kp := rEn_keep (x := x) ha h0 hw k (by omega)
    have ik := rEn_in (x := x) ha h0 hw k (by omega) w k hw (by omega)
    rw [if_neg (fun q => by omega)] at ik
    show (if _ then _ else _ : Int × RW).1 = p.1 + ((xct _ k + _ : Nat) : Int)
    unfold rIn
    rw [ik]
    by_cases hc : ¬ 0 < p.2 (462 + 60 * w + k) ∧ rCov (rEn p w x k).2 k x
    · have hc2 : ¬ 0 < p.2 (462 + 60 * w + k) ∧ rCov a k x := ⟨hc.1, (rCov_kp kp (by omega)).mp hc.2⟩
      rw [if_pos hc, if_pos (decide_eq_true hc2)]
      show (rEn p w x k).1 + 1 = _
      rw [ih]
      omega
    · have hc2 : ¬ (¬ 0 < p.2 (462 + 60 * w + k) ∧ rCov a k x) := fun z => hc ⟨z.1, (rCov_kp kp (by omega)).mpr z.2⟩
      rw [if_neg hc, if_neg (fun z => hc2 (of_decide_eq_true z)), ih]
      omega
theorem rChg_in {a : RW} {w : Nat} (ha : rKp a a) (h0 : 0 ≤ a 0) (h1 : a 1 ≤ 60) (hw : w < 6) {s : Nat} (hs : s < rn a) : 0 < (rChg a w).2 (462 + 60 * w + s) ↔ rCov a s (a (426 + 6 * w)) := by
  have hrn : rn a = (a 1).toNat := rfl
  have hs6 : s < 60 := by omega
  unfold rChg
  rw [rEn_in (rLv_keep ha h0 hw _ (by omega)) h0 hw _ (by omega) w s hw hs6]
  have hl := rLv_in (x := a (426 + 6 * w)) ha h0 hw (a 1).toNat (by omega) w s hw hs6
  by_cases hc : rCov a s (a (426 + 6 * w))
  · rw [if_neg (fun q => q.2.2.2 hc)] at hl
    rw [hl]
    by_cases hp : 0 < a (462 + 60 * w + s)
    · rw [if_neg (fun q => q.2.2.1 hp)]
      exact ⟨fun _ => hc, fun _ => hp⟩
    · rw [if_pos ⟨rfl, hs, hp, hc⟩]
      exact ⟨fun _ => hc, fun _ => by omega⟩
  · rw [if_neg (fun q => hc q.2.2.2)]
    rw [hl]
    by_cases hp : 0 < a (462 + 60 * w + s)
    · rw [if_pos ⟨rfl, hs, hp, hc⟩]
      exact ⟨fun q => by omega, fun q => absurd q hc⟩
    · rw [if_neg (fun q => hp q.2.2.1)]
      exact ⟨fun q => absurd q hp, fun q => absurd q hc⟩
theorem rChg_out {a : RW} {w : Nat} (ha : rKp a a) (h0 : 0 ≤ a 0) (h1 : a 1 ≤ 60) (hw : w < 6) {w' s : Nat} (hw' : w' < 6) (hs : s < 60) (h : w' ≠ w ∨ rn a ≤ s) : (rChg a w).2 (462 + 60 * w' + s) = a (462 + 60 * w' + s) := by
  unfold rChg
  rw [rEn_in (rLv_keep ha h0 hw _ (by omega)) h0 hw _ (by omega) w' s hw' hs, if_neg (fun q => by rcases h with h | h; exact h q.1; exact absurd q.2.1 (by show ¬ s < rn a; omega))]
  rw [rLv_in ha h0 hw _ (by omega) w' s hw' hs, if_neg (fun q => by rcases h with h | h; exact h q.1; exact absurd q.2.1 (by show ¬ s < rn a; omega))]
theorem rLv_same {a : RW} {w : Nat} {x : Int} {n : Nat} (hn : ∀ s, s < n → (0 < a (462 + 60 * w + s) ↔ rCov a s x)) : ∀ k, k ≤ n → rLv a w x k = (0, a)
  | 0, _ => rfl
  | k + 1, hk => by
    have ih := rLv_same hn k (by omega)
    show (if _ then _ else _ : Int × RW) = _
    rw [ih, if_neg (fun q => q.2 ((hn k (by omega)).mp q.1))]
theorem rEn_same {a : RW} {w : Nat} {x : Int} {n : Nat} (hn : ∀ s, s < n → (0 < a (462 + 60 * w + s) ↔ rCov a s x)) : ∀ k, k ≤ n → rEn (0, a) w x k = (0, a)
  | 0, _ => rfl
  | k + 1, hk => by
    have ih := rEn_same hn k (by omega)
    show (if _ then _ else _ : Int × RW) = _
    rw [ih, if_neg (fun q => q.1 ((hn k (by omega)).mpr q.2))]
/-! the class -/
/-- which spans cover each place -/
def CC (a : RW) (M : xv_M) : Prop := ∀ x : Nat, x ≤ 1000 → ∀ s, s < 64 → xb (xv_J M 32 x) s = decide (s < rn a ∧ rCov a s (x : Int))
theorem xm_over {M : xv_M} (h : xl_OK M) {x : Int} (hx : 0 ≤ x ∧ x ≤ 1000) : D_X0_over 31 x M = some (xv_J M 32 x.toNat, M) := by
  unfold D_X0_over
  rw [xm_isPlace (by omega), xe_call, xe_b0, if_pos hx, xg_31_0 h, xa_32 h (by omega) (by omega)]
theorem xm_tell (hbc : ∀ (v : Int64) (M : xv_M), D_J13_bitCount_95d88 v M = some ((xpc v : Int), M)) {M : xv_M} {a : RW} {w : Nat} (h : CB a M) (g : rGd a) (hc : CC a M) (hw : w < rm a) (hi : SBi 3 a M w) : ∃ M', D_X2_tell 2 (w : Int) M = some ((rChg a w).1, M') ∧ CB (rChg a w).2 M' ∧ SBi 3 (rChg a w).2 M' w ∧ (∀ w', w' ≠ w → xv_J M' 14 w' = xv_J M 14 w') ∧ Sm 31 1000 M M' := by
  have hM := h.1
  have g0 := g.1.1
  have g1 := g.2.1
  have g2 := g.2.2.1
  have ha := g.2.2.2.1
  have hw6 : w < 6 := by show w < 6; have : rm a ≤ 6 := by show (a 2).toNat ≤ 6; omega
                         omega
  have hn6 : rn a ≤ 60 := by show (a 1).toNat ≤ 60; omega
  have hm6 : rm a ≤ 6 := by show (a 2).toNat ≤ 6; omega
  have iw : ((w : Int)).toNat = w := Int.toNat_natCast w
  have er : ((rn a : Nat) : Int) = a 1 := by show (((a 1).toNat : Nat) : Int) = a 1; omega
  have hx := (g.2.2.2.2.2.2 w hw).1
  have hpl : xv_I M 12 w = a (426 + 6 * w) := (h.2.2.2.1.2.1 w hw).1
  obtain ⟨x, hX⟩ : ∃ x : Int, x = a (426 + 6 * w) := ⟨_, rfl⟩
  obtain ⟨B, hB⟩ : ∃ B : Int64, B = xv_J M 14 w := ⟨_, rfl⟩
  obtain ⟨N, hN⟩ : ∃ N : Int64, N = xv_J M 32 x.toNat := ⟨_, rfl⟩
  rw [← hX] at hx hpl
  have bB : ∀ s, s < 64 → xb B s = decide (s < rn a ∧ 0 < a (462 + 60 * w + s)) := fun s hs => by rw [hB]; exact hi s hs
  have bN : ∀ s, s < 64 → xb N s = decide (s < rn a ∧ rCov a s x) := fun s hs => by
    rw [hN, hc x.toNat (by omega) s hs]
    rw [Int.toNat_of_nonneg hx.1]
  unfold D_X2_tell
  rw [xg_2_0 hM, xg_3_2 hM, xg_11_3 hM, xa_14 hM (by omega) (by omega), iw, ← hB, xg_2_1 hM, xg_2_0 hM, xg_3_2 hM, xg_11_1 hM, xa_12 hM (by omega) (by omega), iw, hpl, xr_31 hM, xm_over hM hx, xe_call, ← hN]
  obtain ⟨l1, l2⟩ := xb_lcr B N
  rw [xe_cmp l1 l2 (by decide) (by decide)]
  by_cases heq : B = N
  · rw [if_neg (fun q => q (xb_lc0.mpr heq))]
    have hs : ∀ s, s < rn a → (0 < a (462 + 60 * w + s) ↔ rCov a s x) := fun s hs => by
      have e1 := bB s (by omega)
      have e2 := bN s (by omega)
      rw [heq, e2] at e1
      have e3 := decide_eq_decide.mp e1
      constructor
      · intro q; exact (e3.mpr ⟨hs, q⟩).2
      · intro q; exact (e3.mp ⟨hs, q⟩).2
    have er : rChg a w = (0, a) := by
      unfold rChg
      rw [← hX, rLv_same hs _ (Nat.le_refl _), rEn_same hs _ (Nat.le_refl _)]
    rw [er]
    exact ⟨M, rfl, h, hi, fun _ _ => rfl, Sm.rf⟩
  · rw [if_pos (fun q => heq (xb_lc0.mp q))]
    refine xe_inv0 (s := ((0 : Int), M)) (I := fun (k : Nat) (s : Int × xv_M) => s.1 = (k : Int) ∧ CB (rLv a w x k).2 s.2 ∧ (∀ j, xv_J s.2 14 j = xv_J M 14 j) ∧ Sm 31 1000 M s.2) (n := rn a) (P := fun z => ∃ M', z = some ((rChg a w).1, M') ∧ CB (rChg a w).2 M' ∧ SBi 3 (rChg a w).2 M' w ∧ (∀ w', w' ≠ w → xv_J M' 14 w' = xv_J M 14 w') ∧ Sm 31 1000 M M') (by omega) ⟨rfl, h, fun _ => rfl, Sm.rf⟩ ?_ ?_
    · rintro k ⟨i, M1⟩ hk ⟨hi1, hC, hJ, hS⟩
      dsimp only at hi1 hC hJ hS ⊢
      subst hi1
      have hM1 := hC.1
      have kp := rLv_keep (x := x) ha g0 hw6 k (by omega)
      have en : xv_I M1 4 0 = a 1 := by rw [← kp.2.1]; exact hC.2.2.1.1
      have ei := rLv_in (x := x) ha g0 hw6 k (by omega) w k hw6 (by omega)
      rw [if_neg (fun q => by omega)] at ei
      have ec : rCov (rLv a w x k).2 k x ↔ rCov a k x := rCov_kp kp (by omega)
      have cond : xb (B &&& (N ^^^ (-1))) k = true ↔ (rIn (rLv a w x k).2 w k ∧ ¬ rCov (rLv a w x k).2 k x) := by
        rw [xb_and, xb_not N (by omega), bB k (by omega), bN k (by omega), ec]
        unfold rIn
        rw [ei]
        by_cases q1 : 0 < a (462 + 60 * w + k) <;> by_cases q2 : rCov a k x <;> simp [q1, q2, hk]
      have ek : ((k : Int) + 1) = ((k + 1 : Nat) : Int) := by omega
      by_cases hcd : rIn (rLv a w x k).2 w k ∧ ¬ rCov (rLv a w x k).2 k x
      · obtain ⟨M2, d2, c2, j2, s2⟩ := xm_tellLeft hC kp.2.2.2.1 (by show ((rLv a w x k).2 2).toNat ≤ 6; rw [kp.2.2.1]; exact hm6) (by show ((rLv a w x k).2 1).toNat ≤ 60; rw [kp.2.1]; exact hn6) (w := w) (s := k) (by show w < ((rLv a w x k).2 2).toNat; rw [kp.2.2.1]; exact hw) (by omega)
        have e9 : rLv a w x (k + 1) = ((rLv a w x k).1 + 1, rLeave (rLv a w x k).2 w k) := if_pos hcd
        refine ⟨(((k + 1 : Nat) : Int), M2), ⟨rfl, by rw [e9]; exact c2, fun j => (j2 j).trans (hJ j), hS.tr s2⟩, fun f => ?_⟩
        rw [xg_2_0 hM1, xg_3_1 hM1, xg_4_0 hM1, en, xe_cmp (by omega) (by omega) (by omega) (by omega), if_neg (by omega)]
        rw [xm_isMember (by omega), xe_call, xe_let, xe_b0, if_pos (cond.mpr hcd), xr_2 hM1, d2, xe_call, ek]
      · have e9 : rLv a w x (k + 1) = rLv a w x k := if_neg hcd
        refine ⟨(((k + 1 : Nat) : Int), M1), ⟨rfl, by rw [e9]; exact hC, hJ, hS⟩, fun f => ?_⟩
        rw [xg_2_0 hM1, xg_3_1 hM1, xg_4_0 hM1, en, xe_cmp (by omega) (by omega) (by omega) (by omega), if_neg (by omega)]
        rw [xm_isMember (by omega), xe_call, xe_let, xe_b0, if_neg (fun q => hcd (cond.mp q)), ek]
    · rintro ⟨i, M1⟩ ⟨hi1, hC, hJ, hS⟩ f
      dsimp only at hi1 hC hJ hS ⊢
      subst hi1
      have hM1 := hC.1
      have kp := rLv_keep (x := x) ha g0 hw6 (rn a) hn6
      have en : xv_I M1 4 0 = a 1 := by rw [← kp.2.1]; exact hC.2.2.1.1
      rw [xg_2_0 hM1, xg_3_1 hM1, xg_4_0 hM1, en, xe_cmp (by omega) (by omega) (by omega) (by omega), if_pos (by omega)]
      obtain ⟨p, hp⟩ : ∃ p : Int × RW, p = rLv a w x (rn a) := ⟨_, rfl⟩
      have hpin := fun s hs => rLv_in (x := x) ha g0 hw6 (rn a) hn6 w s hw6 hs
      have hchg : rChg a w = rEn p w x (rn a) := by rw [hp, hX]; rfl
      rw [← hp] at hC kp hpin
      refine xe_inv0 (s := ((0 : Int), M1)) (I := fun (k : Nat) (s : Int × xv_M) => s.1 = (k : Int) ∧ CB (rEn p w x k).2 s.2 ∧ (∀ j, xv_J s.2 14 j = xv_J M 14 j) ∧ Sm 31 1000 M s.2) (n := rn a) (P := fun z => ∃ M', z = some ((rChg a w).1, M') ∧ CB (rChg a w).2 M' ∧ SBi 3 (rChg a w).2 M' w ∧ (∀ w', w' ≠ w → xv_J M' 14 w' = xv_J M 14 w') ∧ Sm 31 1000 M M') (by omega) ⟨rfl, hC, hJ, hS⟩ ?_ ?_
      · rintro k ⟨i, M1⟩ hk ⟨hi1, hC, hJ, hS⟩
        dsimp only at hi1 hC hJ hS ⊢
        subst hi1
        have hM1 := hC.1
        have kq := rEn_keep (x := x) kp g0 hw6 k (by omega)
        have en : xv_I M1 4 0 = a 1 := by rw [← kq.2.1]; exact hC.2.2.1.1
        have ei := rEn_in (x := x) kp g0 hw6 k (by omega) w k hw6 (by omega)
        rw [if_neg (fun q => by omega), hpin k (by omega)] at ei
        have ec : rCov (rEn p w x k).2 k x ↔ rCov a k x := rCov_kp kq (by omega)
        have cond : xb (N &&& (B ^^^ (-1))) k = true ↔ (¬ rIn (rEn p w x k).2 w k ∧ rCov (rEn p w x k).2 k x) := by
          have e2 : rIn (rEn p w x k).2 w k ↔ (0 < a (462 + 60 * w + k) ∧ rCov a k x) := by
            unfold rIn
            rw [ei]
            by_cases hz : w = w ∧ k < rn a ∧ 0 < a (462 + 60 * w + k) ∧ ¬ rCov a k x
            · rw [if_pos hz]
              exact ⟨fun q => absurd q (by omega), fun q => absurd q.2 hz.2.2.2⟩
            · rw [if_neg hz]
              exact ⟨fun q => ⟨q, Classical.byContradiction (fun z => hz ⟨rfl, hk, q, z⟩)⟩, fun q => q.1⟩
          rw [xb_and, xb_not B (by omega), bB k (by omega), bN k (by omega), ec, e2]
          by_cases q1 : 0 < a (462 + 60 * w + k) <;> by_cases q2 : rCov a k x <;> simp [q1, q2, hk] <;> exact q2
        have ek : ((k : Int) + 1) = ((k + 1 : Nat) : Int) := by omega
        by_cases hcd : ¬ rIn (rEn p w x k).2 w k ∧ rCov (rEn p w x k).2 k x
        · obtain ⟨M2, d2, c2, j2, s2⟩ := xm_tellEntered hC kq.2.2.2.1 (by rw [kq.1]; exact g0) (by show ((rEn p w x k).2 2).toNat ≤ 6; rw [kq.2.2.1]; exact hm6) (by show ((rEn p w x k).2 1).toNat ≤ 60; rw [kq.2.1]; exact hn6) (w := w) (s := k) (by show w < ((rEn p w x k).2 2).toNat; rw [kq.2.2.1]; exact hw) (by show k < ((rEn p w x k).2 1).toNat; rw [kq.2.1]; exact hk)
          have e9 : rEn p w x (k + 1) = ((rEn p w x k).1 + 1, rEnter (rEn p w x k).2 w k) := if_pos hcd
          refine ⟨(((k + 1 : Nat) : Int), M2), ⟨rfl, by rw [e9]; exact c2, fun j => (j2 j).trans (hJ j), hS.tr s2⟩, fun f => ?_⟩
          rw [xg_2_0 hM1, xg_3_1 hM1, xg_4_0 hM1, en, xe_cmp (by omega) (by omega) (by omega) (by omega), if_neg (by omega)]
          rw [xm_isMember (by omega), xe_call, xe_let, xe_b0, if_pos (cond.mpr hcd), xr_2 hM1, d2, xe_call, ek]
        · have e9 : rEn p w x (k + 1) = rEn p w x k := if_neg hcd
          refine ⟨(((k + 1 : Nat) : Int), M1), ⟨rfl, by rw [e9]; exact hC, hJ, hS⟩, fun f => ?_⟩
          rw [xg_2_0 hM1, xg_3_1 hM1, xg_4_0 hM1, en, xe_cmp (by omega) (by omega) (by omega) (by omega), if_neg (by omega)]
          rw [xm_isMember (by omega), xe_call, xe_let, xe_b0, if_neg (fun q => hcd (cond.mp q)), ek]
      · rintro ⟨i, M1⟩ ⟨hi1, hC, hJ, hS⟩ f
        dsimp only at hi1 hC hJ hS ⊢
        subst hi1
        have hM1 := hC.1
        have kq := rEn_keep (x := x) kp g0 hw6 (rn a) hn6
        have en : xv_I M1 4 0 = a 1 := by rw [← kq.2.1]; exact hC.2.2.1.1
        have hcnt : ((xpc (B ^^^ N) : Nat) : Int) = (rChg a w).1 := by
          rw [hchg, rEn_ct kp g0 hw6 (rn a) hn6, hp, rLv_ct ha g0 hw6 (rn a) hn6, ← hp]
          have e1 : xpc (B ^^^ N) = xct (fun s => xb (B ^^^ N) s) (rn a) := xct_up (by omega) (fun k q1 q2 => by
            show xb (B ^^^ N) k = false
            rw [xb_xor, bB k q2, bN k q2]
            simp [show ¬ k < rn a by omega])
          rw [e1, xct_add (p := fun s => decide (0 < a (462 + 60 * w + s) ∧ ¬ rCov a s x)) (q := fun s => decide (¬ 0 < p.2 (462 + 60 * w + s) ∧ rCov a s x)) (fun k hk => ?_)]
          · omega
          · show (if xb (B ^^^ N) k = true then 1 else 0) = (if decide _ = true then 1 else 0) + (if decide _ = true then 1 else 0)
            rw [xb_xor, bB k (by omega), bN k (by omega), hpin k (by omega)]
            by_cases q1 : 0 < a (462 + 60 * w + k) <;> by_cases q2 : rCov a k x <;> simp [q1, q2, hk]
        rw [xg_2_0 hM1, xg_3_1 hM1, xg_4_0 hM1, en, xe_cmp (by omega) (by omega) (by omega) (by omega), if_pos (by omega)]
        rw [xg_2_0 hM1, xg_3_2 hM1, xg_11_3 hM1, xw_14 hM1 (by omega) (by omega), iw, hbc, xe_call, hcnt]
        have hCB : CB (rChg a w).2 (xv_sJ M1 14 w N) := by
          rw [hchg]
          obtain ⟨c1, c2, c3, c4, c5, c6⟩ := hC
          exact ⟨c1, c2, c3.sm (Sm.sJ (by omega)), c4, c5, c6⟩
        refine ⟨_, rfl, hCB, fun s hs => ?_, fun w' hw' => ?_, hS.tr (Sm.sJ (by omega))⟩
        · show xb (xv_J (xv_sJ M1 14 w N) 14 w) s = _
          rw [xe_J_sJ, if_pos ⟨rfl, rfl⟩, bN s hs]
          have en2 : rn (rChg a w).2 = rn a := by
            show ((rChg a w).2 1).toNat = (a 1).toNat
            rw [hchg, kq.2.1]
          rw [en2]
          by_cases hl : s < rn a
          · have := rChg_in ha g0 g1.2 hw6 hl
            rw [← hX] at this
            by_cases q : rCov a s x
            · simp [hl, q, this.mpr q]
            · have h9 : ¬ 0 < (rChg a w).2 (462 + 60 * w + s) := fun z => q (this.mp z)
              simp [hl, q, h9]
          · simp [hl]
        · rw [xe_J_sJ, if_neg (fun z => hw' z.2)]
          exact hJ w'
