/-! ## reads and writes, cell by cell (of the class's one state and of the model; of any state's block further below) -/
theorem xe_call {α T : Type} {z : α} {M : xv_M} {k : α → xv_M → Option T} : xv_call (some (z, M)) k = k z M := rfl
theorem xe_let {α β : Type} {a : α} {f : α → β} : xv_let a f = f a := rfl
theorem xe_g {T : Type} {c : Prop} [Decidable c] {d : Option T} (h : c) : xv_g c d = d := if_pos h
theorem xe_g01 {T : Type} {c : Prop} [Decidable c] {d : Option T} : xv_g ((if c then (1 : Int) else 0) = 0 ∨ (if c then (1 : Int) else 0) = 1) d = d := by
  by_cases h : c
  · rw [if_pos h]; rfl
  · rw [if_neg h]; rfl
theorem xe_g0 {T : Type} {d : Option T} : xv_g ((0 : Int) = 0 ∨ (0 : Int) = 1) d = d := rfl
theorem xe_g1 {T : Type} {d : Option T} : xv_g ((1 : Int) = 0 ∨ (1 : Int) = 1) d = d := rfl
theorem xe_inb {x : Int} (h1 : -2147483648 ≤ x) (h2 : x ≤ 2147483647) : xv_inb x = true := by
  unfold xv_inb
  simp only [Bool.and_eq_true, decide_eq_true_eq]
  exact ⟨h1, h2⟩
theorem xe_cmp {T : Type} {x y : Int} {c : Prop} [Decidable c] {d1 d2 : Option T} (h1 : -2147483648 ≤ x) (h2 : x ≤ 2147483647) (h3 : -2147483648 ≤ y) (h4 : y ≤ 2147483647) : xv_cmp x y c d1 d2 = if c then d1 else d2 := by
  unfold xv_cmp
  exact if_pos ⟨xe_inb h1 h2, xe_inb h3 h4⟩
/-- a truth value asked for -/
theorem xe_b0 {T : Type} {c : Prop} [Decidable c] {d1 d2 : Option T} : xv_cmp (if c then (1 : Int) else 0) 0 ((if c then (1 : Int) else 0) = 0) d1 d2 = if c then d2 else d1 := by
  by_cases h : c
  · simp only [if_pos h]; rfl
  · simp only [if_neg h]; rfl
theorem xe_b1 {T : Type} {c : Prop} [Decidable c] {d1 d2 : Option T} : xv_cmp (if c then (1 : Int) else 0) 0 ((if c then (1 : Int) else 0) ≠ 0) d1 d2 = if c then d1 else d2 := by
  by_cases h : c
  · simp only [if_pos h]; rfl
  · simp only [if_neg h]; rfl
theorem xe_t {α : Type} {c : Prop} [Decidable c] {a b : α} (h : c) : (if c then a else b) = a := if_pos h
theorem xe_f {α : Type} {c : Prop} [Decidable c] {a b : α} (h : ¬ c) : (if c then a else b) = b := if_neg h
theorem xe_rc {α : Type} {M : xv_M} {c r : Nat} {x : Option α} (h : (xv_kd M r).1 = c) : xv_rc M c r x = x := if_pos h
theorem xe_gI {T : Type} {M : xv_M} {c r j : Nat} {f : Int → Option T} (h : (xv_kd M r).1 = c) : xv_gI M c r j f = f (xv_I M r j) := if_pos h
theorem xe_gJ {T : Type} {M : xv_M} {c r j : Nat} {f : Int64 → Option T} (h : (xv_kd M r).1 = c) : xv_gJ M c r j f = f (xv_J M r j) := if_pos h
theorem xe_gP {T : Type} {M : xv_M} {c r j v : Nat} {f : Nat → Option T} (h : (xv_kd M r).1 = c) (hv : xv_P M r j = v) : xv_gP M c r j f = f v := by subst hv; exact if_pos h
theorem xe_pI {T : Type} {M : xv_M} {c r j : Nat} {v : Int} {f : xv_M → Option T} (h : (xv_kd M r).1 = c) : xv_pI M c r j v f = f (xv_sI M r j v) := if_pos h
theorem xe_pZ {T : Type} {M : xv_M} {c r j : Nat} {v : Int} {f : xv_M → Option T} (h : (xv_kd M r).1 = c) (h0 : v = 0 ∨ v = 1) : xv_pZ M c r j v f = f (xv_sI M r j v) := if_pos ⟨h, h0⟩
theorem xe_pJ {T : Type} {M : xv_M} {c r j : Nat} {v : Int64} {f : xv_M → Option T} (h : (xv_kd M r).1 = c) : xv_pJ M c r j v f = f (xv_sJ M r j v) := if_pos h
theorem xe_ab {M : xv_M} {t r n : Nat} {i : Int} (h : xv_kd M r = (t, n)) (h0 : 0 ≤ i) (h1 : i < (n : Int)) (hn : n ≤ 2147483647) : xv_abb M t r i = true := xv_ab_abb ⟨by rw [h], h0, by rw [h]; exact h1, by omega⟩
theorem xe_aI {T : Type} {M : xv_M} {t r n : Nat} {i : Int} {f : Int → Option T} (h : xv_kd M r = (t, n)) (h0 : 0 ≤ i) (h1 : i < (n : Int)) (hn : n ≤ 2147483647) : xv_aI M t r i f = f (xv_I M r i.toNat) := if_pos (xe_ab h h0 h1 hn)
theorem xe_aJ {T : Type} {M : xv_M} {r n : Nat} {i : Int} {f : Int64 → Option T} (h : xv_kd M r = (15, n)) (h0 : 0 ≤ i) (h1 : i < (n : Int)) (hn : n ≤ 2147483647) : xv_aJ M r i f = f (xv_J M r i.toNat) := if_pos (xe_ab h h0 h1 hn)
theorem xe_aP {T : Type} {M : xv_M} {t r n : Nat} {i : Int} {f : Nat → Option T} (h : xv_kd M r = (t, n)) (h0 : 0 ≤ i) (h1 : i < (n : Int)) (hn : n ≤ 2147483647) : xv_aP M t r i f = f (xv_P M r i.toNat) := if_pos (xe_ab h h0 h1 hn)
theorem xe_wI {T : Type} {M : xv_M} {r n : Nat} {i v : Int} {f : xv_M → Option T} (h : xv_kd M r = (14, n)) (h0 : 0 ≤ i) (h1 : i < (n : Int)) (hn : n ≤ 2147483647) : xv_wI M r i v f = f (xv_sI M r i.toNat v) := if_pos (xe_ab h h0 h1 hn)
theorem xe_wZ {T : Type} {M : xv_M} {r n : Nat} {i v : Int} {f : xv_M → Option T} (h : xv_kd M r = (16, n)) (h0 : 0 ≤ i) (h1 : i < (n : Int)) (hn : n ≤ 2147483647) (hv : v = 0 ∨ v = 1) : xv_wZ M r i v f = f (xv_sI M r i.toNat v) := if_pos ⟨xe_ab h h0 h1 hn, hv⟩
theorem xe_wC {T : Type} {M : xv_M} {r n : Nat} {i v : Int} {f : xv_M → Option T} (h : xv_kd M r = (13, n)) (h0 : 0 ≤ i) (h1 : i < (n : Int)) (hn : n ≤ 2147483647) (hv : 0 ≤ v) (hv2 : v ≤ 65535) : xv_wC M r i v f = f (xv_sI M r i.toNat v) := if_pos ⟨xe_ab h h0 h1 hn, hv, hv2⟩
theorem xe_wJ {T : Type} {M : xv_M} {r n : Nat} {i : Int} {v : Int64} {f : xv_M → Option T} (h : xv_kd M r = (15, n)) (h0 : 0 ≤ i) (h1 : i < (n : Int)) (hn : n ≤ 2147483647) : xv_wJ M r i v f = f (xv_sJ M r i.toNat v) := if_pos (xe_ab h h0 h1 hn)
/-- a loop that counts: its states g 0, g 1 .. g n; at g n it ends -/
theorem xe_for {σ T : Type} {F : (σ → Option T) → σ → Option T} (g : Nat → σ) (n : Nat) (R : Option T) (hs : ∀ k, k < n → ∀ f, F f (g k) = f (g (k + 1))) (he : ∀ f, F f (g n) = R) : ∀ (fuel : Nat) (k : Nat), k ≤ n → n < fuel + k → xv_fix F fuel (g k) = R
  | 0, k, h1, h2 => by omega
  | fuel + 1, k, h1, h2 => by
    show F (xv_fix F fuel) (g k) = R
    by_cases hk : k = n
    · subst hk; exact he _
    · rw [hs k (by omega)]
      exact xe_for g n R hs he fuel (k + 1) (by omega) (by omega)
theorem xe_loop {σ T : Type} {F : (σ → Option T) → σ → Option T} (g : Nat → σ) (n : Nat) {R : Option T} {s : σ} (h0 : s = g 0) (hn : n < 10000) (hs : ∀ k, k < n → ∀ f, F f (g k) = f (g (k + 1))) (he : ∀ f, F f (g n) = R) : xv_fix F xv_fuel s = R := by
  rw [h0]
  exact xe_for g n R hs he xv_fuel 0 (by omega) (by unfold xv_fuel; omega)
/-! what is read behind a write -/
theorem xe_I_sI {M : xv_M} {r j r' j' : Nat} {v : Int} : xv_I (xv_sI M r j v) r' j' = if r' = r ∧ j' = j then v else xv_I M r' j' := rfl
theorem xe_J_sI {M : xv_M} {r j r' j' : Nat} {v : Int} : xv_J (xv_sI M r j v) r' j' = xv_J M r' j' := rfl
theorem xe_P_sI {M : xv_M} {r j r' j' : Nat} {v : Int} : xv_P (xv_sI M r j v) r' j' = xv_P M r' j' := rfl
theorem xe_I_sJ {M : xv_M} {r j r' j' : Nat} {v : Int64} : xv_I (xv_sJ M r j v) r' j' = xv_I M r' j' := rfl
theorem xe_J_sJ {M : xv_M} {r j r' j' : Nat} {v : Int64} : xv_J (xv_sJ M r j v) r' j' = if r' = r ∧ j' = j then v else xv_J M r' j' := rfl
theorem xe_P_sJ {M : xv_M} {r j r' j' : Nat} {v : Int64} : xv_P (xv_sJ M r j v) r' j' = xv_P M r' j' := rfl
theorem xr_1 {α : Type} {M : xv_M} {x : Option α} (h : xl_OK M) : xv_rc M 11 1 x = x := xe_rc (by rw [xk_1 h])
theorem xg_1_0 {T : Type} {M : xv_M} {f : Nat → Option T} (h : xl_OK M) : xv_gP M 11 1 0 f = f 2 := xe_gP (by rw [xk_1 h]) (xp_1_0 h)
theorem xg_1_1 {T : Type} {M : xv_M} {f : Nat → Option T} (h : xl_OK M) : xv_gP M 11 1 1 f = f 39 := xe_gP (by rw [xk_1 h]) (xp_1_1 h)
theorem xg_1_2 {T : Type} {M : xv_M} {f : Nat → Option T} (h : xl_OK M) : xv_gP M 11 1 2 f = f 153 := xe_gP (by rw [xk_1 h]) (xp_1_2 h)
theorem xg_1_3 {T : Type} {M : xv_M} {f : Nat → Option T} (h : xl_OK M) : xv_gP M 11 1 3 f = f 181 := xe_gP (by rw [xk_1 h]) (xp_1_3 h)
theorem xg_1_4 {T : Type} {M : xv_M} {f : Nat → Option T} (h : xl_OK M) : xv_gP M 11 1 4 f = f 183 := xe_gP (by rw [xk_1 h]) (xp_1_4 h)
theorem xg_1_5 {T : Type} {M : xv_M} {f : Int → Option T} (h : xl_OK M) : xv_gI M 11 1 5 f = f (xv_I M 1 5) := xe_gI (by rw [xk_1 h])
theorem xu_1_5 {T : Type} {M : xv_M} {v : Int} {f : xv_M → Option T} (h : xl_OK M) (hv : v = 0 ∨ v = 1) : xv_pZ M 11 1 5 v f = f (xv_sI M 1 5 v) := xe_pZ (by rw [xk_1 h]) hv
theorem xr_2 {α : Type} {M : xv_M} {x : Option α} (h : xl_OK M) : xv_rc M 2 2 x = x := xe_rc (by rw [xk_2 h])
theorem xg_2_0 {T : Type} {M : xv_M} {f : Nat → Option T} (h : xl_OK M) : xv_gP M 2 2 0 f = f 3 := xe_gP (by rw [xk_2 h]) (xp_2_0 h)
theorem xg_2_1 {T : Type} {M : xv_M} {f : Nat → Option T} (h : xl_OK M) : xv_gP M 2 2 1 f = f 31 := xe_gP (by rw [xk_2 h]) (xp_2_1 h)
theorem xg_2_2 {T : Type} {M : xv_M} {f : Nat → Option T} (h : xl_OK M) : xv_gP M 2 2 2 f = f 33 := xe_gP (by rw [xk_2 h]) (xp_2_2 h)
theorem xr_3 {α : Type} {M : xv_M} {x : Option α} (h : xl_OK M) : xv_rc M 6 3 x = x := xe_rc (by rw [xk_3 h])
theorem xg_3_0 {T : Type} {M : xv_M} {f : Int → Option T} (h : xl_OK M) : xv_gI M 6 3 0 f = f (xv_I M 3 0) := xe_gI (by rw [xk_3 h])
theorem xu_3_0 {T : Type} {M : xv_M} {v : Int} {f : xv_M → Option T} (h : xl_OK M) : xv_pI M 6 3 0 v f = f (xv_sI M 3 0 v) := xe_pI (by rw [xk_3 h])
theorem xg_3_1 {T : Type} {M : xv_M} {f : Nat → Option T} (h : xl_OK M) : xv_gP M 6 3 1 f = f 4 := xe_gP (by rw [xk_3 h]) (xp_3_1 h)
theorem xg_3_2 {T : Type} {M : xv_M} {f : Nat → Option T} (h : xl_OK M) : xv_gP M 6 3 2 f = f 11 := xe_gP (by rw [xk_3 h]) (xp_3_2 h)
theorem xg_3_3 {T : Type} {M : xv_M} {f : Nat → Option T} (h : xl_OK M) : xv_gP M 6 3 3 f = f 26 := xe_gP (by rw [xk_3 h]) (xp_3_3 h)
theorem xr_4 {α : Type} {M : xv_M} {x : Option α} (h : xl_OK M) : xv_rc M 5 4 x = x := xe_rc (by rw [xk_4 h])
theorem xg_4_0 {T : Type} {M : xv_M} {f : Int → Option T} (h : xl_OK M) : xv_gI M 5 4 0 f = f (xv_I M 4 0) := xe_gI (by rw [xk_4 h])
theorem xu_4_0 {T : Type} {M : xv_M} {v : Int} {f : xv_M → Option T} (h : xl_OK M) : xv_pI M 5 4 0 v f = f (xv_sI M 4 0 v) := xe_pI (by rw [xk_4 h])
theorem xg_4_1 {T : Type} {M : xv_M} {f : Int64 → Option T} (h : xl_OK M) : xv_gJ M 5 4 1 f = f (xv_J M 4 1) := xe_gJ (by rw [xk_4 h])
theorem xu_4_1 {T : Type} {M : xv_M} {v : Int64} {f : xv_M → Option T} (h : xl_OK M) : xv_pJ M 5 4 1 v f = f (xv_sJ M 4 1 v) := xe_pJ (by rw [xk_4 h])
theorem xg_4_2 {T : Type} {M : xv_M} {f : Nat → Option T} (h : xl_OK M) : xv_gP M 5 4 2 f = f 5 := xe_gP (by rw [xk_4 h]) (xp_4_2 h)
theorem xg_4_3 {T : Type} {M : xv_M} {f : Nat → Option T} (h : xl_OK M) : xv_gP M 5 4 3 f = f 6 := xe_gP (by rw [xk_4 h]) (xp_4_3 h)
theorem xg_4_4 {T : Type} {M : xv_M} {f : Nat → Option T} (h : xl_OK M) : xv_gP M 5 4 4 f = f 7 := xe_gP (by rw [xk_4 h]) (xp_4_4 h)
theorem xg_4_5 {T : Type} {M : xv_M} {f : Nat → Option T} (h : xl_OK M) : xv_gP M 5 4 5 f = f 8 := xe_gP (by rw [xk_4 h]) (xp_4_5 h)
theorem xg_4_6 {T : Type} {M : xv_M} {f : Nat → Option T} (h : xl_OK M) : xv_gP M 5 4 6 f = f 9 := xe_gP (by rw [xk_4 h]) (xp_4_6 h)
theorem xg_4_7 {T : Type} {M : xv_M} {f : Nat → Option T} (h : xl_OK M) : xv_gP M 5 4 7 f = f 10 := xe_gP (by rw [xk_4 h]) (xp_4_7 h)
theorem xa_5 {T : Type} {M : xv_M} {i : Int} {f : Int → Option T} (h : xl_OK M) (h0 : 0 ≤ i) (h1 : i < 60) : xv_aI M 14 5 i f = f (xv_I M 5 i.toNat) := xe_aI (xk_5 h) h0 h1 (by decide)
theorem xw_5 {T : Type} {M : xv_M} {i v : Int} {f : xv_M → Option T} (h : xl_OK M) (h0 : 0 ≤ i) (h1 : i < 60) : xv_wI M 5 i v f = f (xv_sI M 5 i.toNat v) := xe_wI (xk_5 h) h0 h1 (by decide)
theorem xa_6 {T : Type} {M : xv_M} {i : Int} {f : Int → Option T} (h : xl_OK M) (h0 : 0 ≤ i) (h1 : i < 60) : xv_aI M 14 6 i f = f (xv_I M 6 i.toNat) := xe_aI (xk_6 h) h0 h1 (by decide)
theorem xw_6 {T : Type} {M : xv_M} {i v : Int} {f : xv_M → Option T} (h : xl_OK M) (h0 : 0 ≤ i) (h1 : i < 60) : xv_wI M 6 i v f = f (xv_sI M 6 i.toNat v) := xe_wI (xk_6 h) h0 h1 (by decide)
theorem xa_7 {T : Type} {M : xv_M} {i : Int} {f : Int → Option T} (h : xl_OK M) (h0 : 0 ≤ i) (h1 : i < 60) : xv_aI M 14 7 i f = f (xv_I M 7 i.toNat) := xe_aI (xk_7 h) h0 h1 (by decide)
theorem xw_7 {T : Type} {M : xv_M} {i v : Int} {f : xv_M → Option T} (h : xl_OK M) (h0 : 0 ≤ i) (h1 : i < 60) : xv_wI M 7 i v f = f (xv_sI M 7 i.toNat v) := xe_wI (xk_7 h) h0 h1 (by decide)
theorem xa_8 {T : Type} {M : xv_M} {i : Int} {f : Int → Option T} (h : xl_OK M) (h0 : 0 ≤ i) (h1 : i < 60) : xv_aI M 14 8 i f = f (xv_I M 8 i.toNat) := xe_aI (xk_8 h) h0 h1 (by decide)
theorem xw_8 {T : Type} {M : xv_M} {i v : Int} {f : xv_M → Option T} (h : xl_OK M) (h0 : 0 ≤ i) (h1 : i < 60) : xv_wI M 8 i v f = f (xv_sI M 8 i.toNat v) := xe_wI (xk_8 h) h0 h1 (by decide)
theorem xa_9 {T : Type} {M : xv_M} {i : Int} {f : Int → Option T} (h : xl_OK M) (h0 : 0 ≤ i) (h1 : i < 60) : xv_aI M 14 9 i f = f (xv_I M 9 i.toNat) := xe_aI (xk_9 h) h0 h1 (by decide)
theorem xw_9 {T : Type} {M : xv_M} {i v : Int} {f : xv_M → Option T} (h : xl_OK M) (h0 : 0 ≤ i) (h1 : i < 60) : xv_wI M 9 i v f = f (xv_sI M 9 i.toNat v) := xe_wI (xk_9 h) h0 h1 (by decide)
theorem xa_10 {T : Type} {M : xv_M} {i : Int} {f : Int → Option T} (h : xl_OK M) (h0 : 0 ≤ i) (h1 : i < 60) : xv_aI M 14 10 i f = f (xv_I M 10 i.toNat) := xe_aI (xk_10 h) h0 h1 (by decide)
theorem xw_10 {T : Type} {M : xv_M} {i v : Int} {f : xv_M → Option T} (h : xl_OK M) (h0 : 0 ≤ i) (h1 : i < 60) : xv_wI M 10 i v f = f (xv_sI M 10 i.toNat v) := xe_wI (xk_10 h) h0 h1 (by decide)
theorem xr_11 {α : Type} {M : xv_M} {x : Option α} (h : xl_OK M) : xv_rc M 9 11 x = x := xe_rc (by rw [xk_11 h])
theorem xg_11_0 {T : Type} {M : xv_M} {f : Int → Option T} (h : xl_OK M) : xv_gI M 9 11 0 f = f (xv_I M 11 0) := xe_gI (by rw [xk_11 h])
theorem xu_11_0 {T : Type} {M : xv_M} {v : Int} {f : xv_M → Option T} (h : xl_OK M) : xv_pI M 9 11 0 v f = f (xv_sI M 11 0 v) := xe_pI (by rw [xk_11 h])
theorem xg_11_1 {T : Type} {M : xv_M} {f : Nat → Option T} (h : xl_OK M) : xv_gP M 9 11 1 f = f 12 := xe_gP (by rw [xk_11 h]) (xp_11_1 h)
theorem xg_11_2 {T : Type} {M : xv_M} {f : Nat → Option T} (h : xl_OK M) : xv_gP M 9 11 2 f = f 13 := xe_gP (by rw [xk_11 h]) (xp_11_2 h)
theorem xg_11_3 {T : Type} {M : xv_M} {f : Nat → Option T} (h : xl_OK M) : xv_gP M 9 11 3 f = f 14 := xe_gP (by rw [xk_11 h]) (xp_11_3 h)
theorem xg_11_4 {T : Type} {M : xv_M} {f : Nat → Option T} (h : xl_OK M) : xv_gP M 9 11 4 f = f 15 := xe_gP (by rw [xk_11 h]) (xp_11_4 h)
theorem xg_11_5 {T : Type} {M : xv_M} {f : Nat → Option T} (h : xl_OK M) : xv_gP M 9 11 5 f = f 16 := xe_gP (by rw [xk_11 h]) (xp_11_5 h)
theorem xg_11_6 {T : Type} {M : xv_M} {f : Nat → Option T} (h : xl_OK M) : xv_gP M 9 11 6 f = f 17 := xe_gP (by rw [xk_11 h]) (xp_11_6 h)
theorem xg_11_7 {T : Type} {M : xv_M} {f : Nat → Option T} (h : xl_OK M) : xv_gP M 9 11 7 f = f 18 := xe_gP (by rw [xk_11 h]) (xp_11_7 h)
theorem xg_11_8 {T : Type} {M : xv_M} {f : Nat → Option T} (h : xl_OK M) : xv_gP M 9 11 8 f = f 19 := xe_gP (by rw [xk_11 h]) (xp_11_8 h)
theorem xa_12 {T : Type} {M : xv_M} {i : Int} {f : Int → Option T} (h : xl_OK M) (h0 : 0 ≤ i) (h1 : i < 6) : xv_aI M 14 12 i f = f (xv_I M 12 i.toNat) := xe_aI (xk_12 h) h0 h1 (by decide)
theorem xw_12 {T : Type} {M : xv_M} {i v : Int} {f : xv_M → Option T} (h : xl_OK M) (h0 : 0 ≤ i) (h1 : i < 6) : xv_wI M 12 i v f = f (xv_sI M 12 i.toNat v) := xe_wI (xk_12 h) h0 h1 (by decide)
theorem xa_13 {T : Type} {M : xv_M} {i : Int} {f : Int → Option T} (h : xl_OK M) (h0 : 0 ≤ i) (h1 : i < 6) : xv_aI M 14 13 i f = f (xv_I M 13 i.toNat) := xe_aI (xk_13 h) h0 h1 (by decide)
theorem xw_13 {T : Type} {M : xv_M} {i v : Int} {f : xv_M → Option T} (h : xl_OK M) (h0 : 0 ≤ i) (h1 : i < 6) : xv_wI M 13 i v f = f (xv_sI M 13 i.toNat v) := xe_wI (xk_13 h) h0 h1 (by decide)
theorem xa_14 {T : Type} {M : xv_M} {i : Int} {f : Int64 → Option T} (h : xl_OK M) (h0 : 0 ≤ i) (h1 : i < 6) : xv_aJ M 14 i f = f (xv_J M 14 i.toNat) := xe_aJ (xk_14 h) h0 h1 (by decide)
theorem xw_14 {T : Type} {M : xv_M} {i : Int} {v : Int64} {f : xv_M → Option T} (h : xl_OK M) (h0 : 0 ≤ i) (h1 : i < 6) : xv_wJ M 14 i v f = f (xv_sJ M 14 i.toNat v) := xe_wJ (xk_14 h) h0 h1 (by decide)
theorem xa_15 {T : Type} {M : xv_M} {i : Int} {f : Int → Option T} (h : xl_OK M) (h0 : 0 ≤ i) (h1 : i < 6) : xv_aI M 14 15 i f = f (xv_I M 15 i.toNat) := xe_aI (xk_15 h) h0 h1 (by decide)
theorem xw_15 {T : Type} {M : xv_M} {i v : Int} {f : xv_M → Option T} (h : xl_OK M) (h0 : 0 ≤ i) (h1 : i < 6) : xv_wI M 15 i v f = f (xv_sI M 15 i.toNat v) := xe_wI (xk_15 h) h0 h1 (by decide)
theorem xa_16 {T : Type} {M : xv_M} {i : Int} {f : Int → Option T} (h : xl_OK M) (h0 : 0 ≤ i) (h1 : i < 6) : xv_aI M 14 16 i f = f (xv_I M 16 i.toNat) := xe_aI (xk_16 h) h0 h1 (by decide)
theorem xw_16 {T : Type} {M : xv_M} {i v : Int} {f : xv_M → Option T} (h : xl_OK M) (h0 : 0 ≤ i) (h1 : i < 6) : xv_wI M 16 i v f = f (xv_sI M 16 i.toNat v) := xe_wI (xk_16 h) h0 h1 (by decide)
theorem xa_17 {T : Type} {M : xv_M} {i : Int} {f : Int → Option T} (h : xl_OK M) (h0 : 0 ≤ i) (h1 : i < 6) : xv_aI M 14 17 i f = f (xv_I M 17 i.toNat) := xe_aI (xk_17 h) h0 h1 (by decide)
theorem xw_17 {T : Type} {M : xv_M} {i v : Int} {f : xv_M → Option T} (h : xl_OK M) (h0 : 0 ≤ i) (h1 : i < 6) : xv_wI M 17 i v f = f (xv_sI M 17 i.toNat v) := xe_wI (xk_17 h) h0 h1 (by decide)
theorem xa_18 {T : Type} {M : xv_M} {i : Int} {f : Int → Option T} (h : xl_OK M) (h0 : 0 ≤ i) (h1 : i < 6) : xv_aI M 14 18 i f = f (xv_I M 18 i.toNat) := xe_aI (xk_18 h) h0 h1 (by decide)
theorem xw_18 {T : Type} {M : xv_M} {i v : Int} {f : xv_M → Option T} (h : xl_OK M) (h0 : 0 ≤ i) (h1 : i < 6) : xv_wI M 18 i v f = f (xv_sI M 18 i.toNat v) := xe_wI (xk_18 h) h0 h1 (by decide)
theorem xa_20 {T : Type} {M : xv_M} {i : Int} {f : Int → Option T} (h : xl_OK M) (h0 : 0 ≤ i) (h1 : i < 60) : xv_aI M 14 20 i f = f (xv_I M 20 i.toNat) := xe_aI (xk_20 h) h0 h1 (by decide)
theorem xw_20 {T : Type} {M : xv_M} {i v : Int} {f : xv_M → Option T} (h : xl_OK M) (h0 : 0 ≤ i) (h1 : i < 60) : xv_wI M 20 i v f = f (xv_sI M 20 i.toNat v) := xe_wI (xk_20 h) h0 h1 (by decide)
theorem xa_21 {T : Type} {M : xv_M} {i : Int} {f : Int → Option T} (h : xl_OK M) (h0 : 0 ≤ i) (h1 : i < 60) : xv_aI M 14 21 i f = f (xv_I M 21 i.toNat) := xe_aI (xk_21 h) h0 h1 (by decide)
theorem xw_21 {T : Type} {M : xv_M} {i v : Int} {f : xv_M → Option T} (h : xl_OK M) (h0 : 0 ≤ i) (h1 : i < 60) : xv_wI M 21 i v f = f (xv_sI M 21 i.toNat v) := xe_wI (xk_21 h) h0 h1 (by decide)
theorem xa_22 {T : Type} {M : xv_M} {i : Int} {f : Int → Option T} (h : xl_OK M) (h0 : 0 ≤ i) (h1 : i < 60) : xv_aI M 14 22 i f = f (xv_I M 22 i.toNat) := xe_aI (xk_22 h) h0 h1 (by decide)
theorem xw_22 {T : Type} {M : xv_M} {i v : Int} {f : xv_M → Option T} (h : xl_OK M) (h0 : 0 ≤ i) (h1 : i < 60) : xv_wI M 22 i v f = f (xv_sI M 22 i.toNat v) := xe_wI (xk_22 h) h0 h1 (by decide)
theorem xa_23 {T : Type} {M : xv_M} {i : Int} {f : Int → Option T} (h : xl_OK M) (h0 : 0 ≤ i) (h1 : i < 60) : xv_aI M 14 23 i f = f (xv_I M 23 i.toNat) := xe_aI (xk_23 h) h0 h1 (by decide)
theorem xw_23 {T : Type} {M : xv_M} {i v : Int} {f : xv_M → Option T} (h : xl_OK M) (h0 : 0 ≤ i) (h1 : i < 60) : xv_wI M 23 i v f = f (xv_sI M 23 i.toNat v) := xe_wI (xk_23 h) h0 h1 (by decide)
theorem xa_24 {T : Type} {M : xv_M} {i : Int} {f : Int → Option T} (h : xl_OK M) (h0 : 0 ≤ i) (h1 : i < 60) : xv_aI M 14 24 i f = f (xv_I M 24 i.toNat) := xe_aI (xk_24 h) h0 h1 (by decide)
theorem xw_24 {T : Type} {M : xv_M} {i v : Int} {f : xv_M → Option T} (h : xl_OK M) (h0 : 0 ≤ i) (h1 : i < 60) : xv_wI M 24 i v f = f (xv_sI M 24 i.toNat v) := xe_wI (xk_24 h) h0 h1 (by decide)
theorem xa_25 {T : Type} {M : xv_M} {i : Int} {f : Int → Option T} (h : xl_OK M) (h0 : 0 ≤ i) (h1 : i < 60) : xv_aI M 14 25 i f = f (xv_I M 25 i.toNat) := xe_aI (xk_25 h) h0 h1 (by decide)
theorem xw_25 {T : Type} {M : xv_M} {i v : Int} {f : xv_M → Option T} (h : xl_OK M) (h0 : 0 ≤ i) (h1 : i < 60) : xv_wI M 25 i v f = f (xv_sI M 25 i.toNat v) := xe_wI (xk_25 h) h0 h1 (by decide)
theorem xr_26 {α : Type} {M : xv_M} {x : Option α} (h : xl_OK M) : xv_rc M 3 26 x = x := xe_rc (by rw [xk_26 h])
theorem xg_26_0 {T : Type} {M : xv_M} {f : Int → Option T} (h : xl_OK M) : xv_gI M 3 26 0 f = f (xv_I M 26 0) := xe_gI (by rw [xk_26 h])
theorem xu_26_0 {T : Type} {M : xv_M} {v : Int} {f : xv_M → Option T} (h : xl_OK M) : xv_pI M 3 26 0 v f = f (xv_sI M 26 0 v) := xe_pI (by rw [xk_26 h])
theorem xg_26_1 {T : Type} {M : xv_M} {f : Int → Option T} (h : xl_OK M) : xv_gI M 3 26 1 f = f (xv_I M 26 1) := xe_gI (by rw [xk_26 h])
theorem xu_26_1 {T : Type} {M : xv_M} {v : Int} {f : xv_M → Option T} (h : xl_OK M) : xv_pI M 3 26 1 v f = f (xv_sI M 26 1 v) := xe_pI (by rw [xk_26 h])
theorem xg_26_2 {T : Type} {M : xv_M} {f : Nat → Option T} (h : xl_OK M) : xv_gP M 3 26 2 f = f 27 := xe_gP (by rw [xk_26 h]) (xp_26_2 h)
theorem xg_26_3 {T : Type} {M : xv_M} {f : Nat → Option T} (h : xl_OK M) : xv_gP M 3 26 3 f = f 28 := xe_gP (by rw [xk_26 h]) (xp_26_3 h)
theorem xg_26_4 {T : Type} {M : xv_M} {f : Nat → Option T} (h : xl_OK M) : xv_gP M 3 26 4 f = f 29 := xe_gP (by rw [xk_26 h]) (xp_26_4 h)
theorem xg_26_5 {T : Type} {M : xv_M} {f : Nat → Option T} (h : xl_OK M) : xv_gP M 3 26 5 f = f 30 := xe_gP (by rw [xk_26 h]) (xp_26_5 h)
theorem xa_27 {T : Type} {M : xv_M} {i : Int} {f : Int → Option T} (h : xl_OK M) (h0 : 0 ≤ i) (h1 : i < 12) : xv_aI M 14 27 i f = f (xv_I M 27 i.toNat) := xe_aI (xk_27 h) h0 h1 (by decide)
theorem xw_27 {T : Type} {M : xv_M} {i v : Int} {f : xv_M → Option T} (h : xl_OK M) (h0 : 0 ≤ i) (h1 : i < 12) : xv_wI M 27 i v f = f (xv_sI M 27 i.toNat v) := xe_wI (xk_27 h) h0 h1 (by decide)
theorem xa_28 {T : Type} {M : xv_M} {i : Int} {f : Int → Option T} (h : xl_OK M) (h0 : 0 ≤ i) (h1 : i < 12) : xv_aI M 14 28 i f = f (xv_I M 28 i.toNat) := xe_aI (xk_28 h) h0 h1 (by decide)
theorem xw_28 {T : Type} {M : xv_M} {i v : Int} {f : xv_M → Option T} (h : xl_OK M) (h0 : 0 ≤ i) (h1 : i < 12) : xv_wI M 28 i v f = f (xv_sI M 28 i.toNat v) := xe_wI (xk_28 h) h0 h1 (by decide)
theorem xa_29 {T : Type} {M : xv_M} {i : Int} {f : Int → Option T} (h : xl_OK M) (h0 : 0 ≤ i) (h1 : i < 12) : xv_aI M 14 29 i f = f (xv_I M 29 i.toNat) := xe_aI (xk_29 h) h0 h1 (by decide)
theorem xw_29 {T : Type} {M : xv_M} {i v : Int} {f : xv_M → Option T} (h : xl_OK M) (h0 : 0 ≤ i) (h1 : i < 12) : xv_wI M 29 i v f = f (xv_sI M 29 i.toNat v) := xe_wI (xk_29 h) h0 h1 (by decide)
theorem xa_30 {T : Type} {M : xv_M} {i : Int} {f : Int → Option T} (h : xl_OK M) (h0 : 0 ≤ i) (h1 : i < 12) : xv_aI M 14 30 i f = f (xv_I M 30 i.toNat) := xe_aI (xk_30 h) h0 h1 (by decide)
theorem xw_30 {T : Type} {M : xv_M} {i v : Int} {f : xv_M → Option T} (h : xl_OK M) (h0 : 0 ≤ i) (h1 : i < 12) : xv_wI M 30 i v f = f (xv_sI M 30 i.toNat v) := xe_wI (xk_30 h) h0 h1 (by decide)
theorem xr_31 {α : Type} {M : xv_M} {x : Option α} (h : xl_OK M) : xv_rc M 0 31 x = x := xe_rc (by rw [xk_31 h])
theorem xg_31_0 {T : Type} {M : xv_M} {f : Nat → Option T} (h : xl_OK M) : xv_gP M 0 31 0 f = f 32 := xe_gP (by rw [xk_31 h]) (xp_31_0 h)
theorem xa_32 {T : Type} {M : xv_M} {i : Int} {f : Int64 → Option T} (h : xl_OK M) (h0 : 0 ≤ i) (h1 : i < 1001) : xv_aJ M 32 i f = f (xv_J M 32 i.toNat) := xe_aJ (xk_32 h) h0 h1 (by decide)
theorem xw_32 {T : Type} {M : xv_M} {i : Int} {v : Int64} {f : xv_M → Option T} (h : xl_OK M) (h0 : 0 ≤ i) (h1 : i < 1001) : xv_wJ M 32 i v f = f (xv_sJ M 32 i.toNat v) := xe_wJ (xk_32 h) h0 h1 (by decide)
theorem xr_33 {α : Type} {M : xv_M} {x : Option α} (h : xl_OK M) : xv_rc M 8 33 x = x := xe_rc (by rw [xk_33 h])
theorem xg_33_0 {T : Type} {M : xv_M} {f : Nat → Option T} (h : xl_OK M) : xv_gP M 8 33 0 f = f 34 := xe_gP (by rw [xk_33 h]) (xp_33_0 h)
theorem xg_33_1 {T : Type} {M : xv_M} {f : Nat → Option T} (h : xl_OK M) : xv_gP M 8 33 1 f = f 35 := xe_gP (by rw [xk_33 h]) (xp_33_1 h)
theorem xg_33_2 {T : Type} {M : xv_M} {f : Nat → Option T} (h : xl_OK M) : xv_gP M 8 33 2 f = f 36 := xe_gP (by rw [xk_33 h]) (xp_33_2 h)
theorem xg_33_3 {T : Type} {M : xv_M} {f : Nat → Option T} (h : xl_OK M) : xv_gP M 8 33 3 f = f 37 := xe_gP (by rw [xk_33 h]) (xp_33_3 h)
theorem xg_33_4 {T : Type} {M : xv_M} {f : Nat → Option T} (h : xl_OK M) : xv_gP M 8 33 4 f = f 38 := xe_gP (by rw [xk_33 h]) (xp_33_4 h)
theorem xa_34 {T : Type} {M : xv_M} {i : Int} {f : Int → Option T} (h : xl_OK M) (h0 : 0 ≤ i) (h1 : i < 60) : xv_aI M 14 34 i f = f (xv_I M 34 i.toNat) := xe_aI (xk_34 h) h0 h1 (by decide)
theorem xw_34 {T : Type} {M : xv_M} {i v : Int} {f : xv_M → Option T} (h : xl_OK M) (h0 : 0 ≤ i) (h1 : i < 60) : xv_wI M 34 i v f = f (xv_sI M 34 i.toNat v) := xe_wI (xk_34 h) h0 h1 (by decide)
theorem xa_35 {T : Type} {M : xv_M} {i : Int} {f : Int → Option T} (h : xl_OK M) (h0 : 0 ≤ i) (h1 : i < 60) : xv_aI M 14 35 i f = f (xv_I M 35 i.toNat) := xe_aI (xk_35 h) h0 h1 (by decide)
theorem xw_35 {T : Type} {M : xv_M} {i v : Int} {f : xv_M → Option T} (h : xl_OK M) (h0 : 0 ≤ i) (h1 : i < 60) : xv_wI M 35 i v f = f (xv_sI M 35 i.toNat v) := xe_wI (xk_35 h) h0 h1 (by decide)
theorem xa_36 {T : Type} {M : xv_M} {i : Int} {f : Int → Option T} (h : xl_OK M) (h0 : 0 ≤ i) (h1 : i < 1001) : xv_aI M 14 36 i f = f (xv_I M 36 i.toNat) := xe_aI (xk_36 h) h0 h1 (by decide)
theorem xw_36 {T : Type} {M : xv_M} {i v : Int} {f : xv_M → Option T} (h : xl_OK M) (h0 : 0 ≤ i) (h1 : i < 1001) : xv_wI M 36 i v f = f (xv_sI M 36 i.toNat v) := xe_wI (xk_36 h) h0 h1 (by decide)
theorem xa_37 {T : Type} {M : xv_M} {i : Int} {f : Int → Option T} (h : xl_OK M) (h0 : 0 ≤ i) (h1 : i < 1001) : xv_aI M 14 37 i f = f (xv_I M 37 i.toNat) := xe_aI (xk_37 h) h0 h1 (by decide)
theorem xw_37 {T : Type} {M : xv_M} {i v : Int} {f : xv_M → Option T} (h : xl_OK M) (h0 : 0 ≤ i) (h1 : i < 1001) : xv_wI M 37 i v f = f (xv_sI M 37 i.toNat v) := xe_wI (xk_37 h) h0 h1 (by decide)
theorem xr_38 {α : Type} {M : xv_M} {x : Option α} (h : xl_OK M) : xv_rc M 10 38 x = x := xe_rc (by rw [xk_38 h])
theorem xg_38_0 {T : Type} {M : xv_M} {f : Int → Option T} (h : xl_OK M) : xv_gI M 10 38 0 f = f (xv_I M 38 0) := xe_gI (by rw [xk_38 h])
theorem xu_38_0 {T : Type} {M : xv_M} {v : Int} {f : xv_M → Option T} (h : xl_OK M) : xv_pI M 10 38 0 v f = f (xv_sI M 38 0 v) := xe_pI (by rw [xk_38 h])
theorem xg_38_1 {T : Type} {M : xv_M} {f : Int → Option T} (h : xl_OK M) : xv_gI M 10 38 1 f = f (xv_I M 38 1) := xe_gI (by rw [xk_38 h])
theorem xu_38_1 {T : Type} {M : xv_M} {v : Int} {f : xv_M → Option T} (h : xl_OK M) : xv_pI M 10 38 1 v f = f (xv_sI M 38 1 v) := xe_pI (by rw [xk_38 h])
theorem xg_38_2 {T : Type} {M : xv_M} {f : Int → Option T} (h : xl_OK M) : xv_gI M 10 38 2 f = f (xv_I M 38 2) := xe_gI (by rw [xk_38 h])
theorem xu_38_2 {T : Type} {M : xv_M} {v : Int} {f : xv_M → Option T} (h : xl_OK M) : xv_pI M 10 38 2 v f = f (xv_sI M 38 2 v) := xe_pI (by rw [xk_38 h])
theorem xg_38_3 {T : Type} {M : xv_M} {f : Int → Option T} (h : xl_OK M) : xv_gI M 10 38 3 f = f (xv_I M 38 3) := xe_gI (by rw [xk_38 h])
theorem xu_38_3 {T : Type} {M : xv_M} {v : Int} {f : xv_M → Option T} (h : xl_OK M) : xv_pI M 10 38 3 v f = f (xv_sI M 38 3 v) := xe_pI (by rw [xk_38 h])
theorem xr_39 {α : Type} {M : xv_M} {x : Option α} (h : xl_OK M) : xv_rc M 1 39 x = x := xe_rc (by rw [xk_39 h])
theorem xg_39_0 {T : Type} {M : xv_M} {f : Int → Option T} (h : xl_OK M) : xv_gI M 1 39 0 f = f (xv_I M 39 0) := xe_gI (by rw [xk_39 h])
theorem xu_39_0 {T : Type} {M : xv_M} {v : Int} {f : xv_M → Option T} (h : xl_OK M) : xv_pI M 1 39 0 v f = f (xv_sI M 39 0 v) := xe_pI (by rw [xk_39 h])
theorem xg_39_1 {T : Type} {M : xv_M} {f : Nat → Option T} (h : xl_OK M) : xv_gP M 1 39 1 f = f 40 := xe_gP (by rw [xk_39 h]) (xp_39_1 h)
theorem xr_153 {α : Type} {M : xv_M} {x : Option α} (h : xl_OK M) : xv_rc M 6 153 x = x := xe_rc (by rw [xk_153 h])
theorem xg_153_0 {T : Type} {M : xv_M} {f : Int → Option T} (h : xl_OK M) : xv_gI M 6 153 0 f = f (xv_I M 153 0) := xe_gI (by rw [xk_153 h])
theorem xu_153_0 {T : Type} {M : xv_M} {v : Int} {f : xv_M → Option T} (h : xl_OK M) : xv_pI M 6 153 0 v f = f (xv_sI M 153 0 v) := xe_pI (by rw [xk_153 h])
theorem xg_153_1 {T : Type} {M : xv_M} {f : Nat → Option T} (h : xl_OK M) : xv_gP M 6 153 1 f = f 154 := xe_gP (by rw [xk_153 h]) (xp_153_1 h)
theorem xg_153_2 {T : Type} {M : xv_M} {f : Nat → Option T} (h : xl_OK M) : xv_gP M 6 153 2 f = f 161 := xe_gP (by rw [xk_153 h]) (xp_153_2 h)
theorem xg_153_3 {T : Type} {M : xv_M} {f : Nat → Option T} (h : xl_OK M) : xv_gP M 6 153 3 f = f 176 := xe_gP (by rw [xk_153 h]) (xp_153_3 h)
theorem xr_181 {α : Type} {M : xv_M} {x : Option α} (h : xl_OK M) : xv_rc M 7 181 x = x := xe_rc (by rw [xk_181 h])
theorem xg_181_0 {T : Type} {M : xv_M} {f : Int → Option T} (h : xl_OK M) : xv_gI M 7 181 0 f = f (xv_I M 181 0) := xe_gI (by rw [xk_181 h])
theorem xu_181_0 {T : Type} {M : xv_M} {v : Int} {f : xv_M → Option T} (h : xl_OK M) : xv_pI M 7 181 0 v f = f (xv_sI M 181 0 v) := xe_pI (by rw [xk_181 h])
theorem xg_181_1 {T : Type} {M : xv_M} {f : Nat → Option T} (h : xl_OK M) : xv_gP M 7 181 1 f = f 182 := xe_gP (by rw [xk_181 h]) (xp_181_1 h)
theorem xa_182 {T : Type} {M : xv_M} {i : Int} {f : Int → Option T} (h : xl_OK M) (h0 : 0 ≤ i) (h1 : i < 60) : xv_aI M 13 182 i f = f (xv_I M 182 i.toNat) := xe_aI (xk_182 h) h0 h1 (by decide)
theorem xw_182 {T : Type} {M : xv_M} {i v : Int} {f : xv_M → Option T} (h : xl_OK M) (h0 : 0 ≤ i) (h1 : i < 60) (hv : 0 ≤ v) (hv2 : v ≤ 65535) : xv_wC M 182 i v f = f (xv_sI M 182 i.toNat v) := xe_wC (xk_182 h) h0 h1 (by decide) hv hv2
theorem xr_183 {α : Type} {M : xv_M} {x : Option α} (h : xl_OK M) : xv_rc M 4 183 x = x := xe_rc (by rw [xk_183 h])
theorem xg_183_0 {T : Type} {M : xv_M} {f : Int → Option T} (h : xl_OK M) : xv_gI M 4 183 0 f = f (xv_I M 183 0) := xe_gI (by rw [xk_183 h])
theorem xu_183_0 {T : Type} {M : xv_M} {v : Int} {f : xv_M → Option T} (h : xl_OK M) : xv_pI M 4 183 0 v f = f (xv_sI M 183 0 v) := xe_pI (by rw [xk_183 h])
theorem xg_183_1 {T : Type} {M : xv_M} {f : Nat → Option T} (h : xl_OK M) : xv_gP M 4 183 1 f = f 184 := xe_gP (by rw [xk_183 h]) (xp_183_1 h)
theorem xg_183_2 {T : Type} {M : xv_M} {f : Nat → Option T} (h : xl_OK M) : xv_gP M 4 183 2 f = f 185 := xe_gP (by rw [xk_183 h]) (xp_183_2 h)
theorem xg_183_3 {T : Type} {M : xv_M} {f : Nat → Option T} (h : xl_OK M) : xv_gP M 4 183 3 f = f 186 := xe_gP (by rw [xk_183 h]) (xp_183_3 h)
theorem xg_183_4 {T : Type} {M : xv_M} {f : Nat → Option T} (h : xl_OK M) : xv_gP M 4 183 4 f = f 187 := xe_gP (by rw [xk_183 h]) (xp_183_4 h)
theorem xg_183_5 {T : Type} {M : xv_M} {f : Int → Option T} (h : xl_OK M) : xv_gI M 4 183 5 f = f (xv_I M 183 5) := xe_gI (by rw [xk_183 h])
theorem xu_183_5 {T : Type} {M : xv_M} {v : Int} {f : xv_M → Option T} (h : xl_OK M) : xv_pI M 4 183 5 v f = f (xv_sI M 183 5 v) := xe_pI (by rw [xk_183 h])
theorem xa_184 {T : Type} {M : xv_M} {i : Int} {f : Int → Option T} (h : xl_OK M) (h0 : 0 ≤ i) (h1 : i < 12) : xv_aI M 14 184 i f = f (xv_I M 184 i.toNat) := xe_aI (xk_184 h) h0 h1 (by decide)
theorem xw_184 {T : Type} {M : xv_M} {i v : Int} {f : xv_M → Option T} (h : xl_OK M) (h0 : 0 ≤ i) (h1 : i < 12) : xv_wI M 184 i v f = f (xv_sI M 184 i.toNat v) := xe_wI (xk_184 h) h0 h1 (by decide)
theorem xa_185 {T : Type} {M : xv_M} {i : Int} {f : Int → Option T} (h : xl_OK M) (h0 : 0 ≤ i) (h1 : i < 12) : xv_aI M 14 185 i f = f (xv_I M 185 i.toNat) := xe_aI (xk_185 h) h0 h1 (by decide)
theorem xw_185 {T : Type} {M : xv_M} {i v : Int} {f : xv_M → Option T} (h : xl_OK M) (h0 : 0 ≤ i) (h1 : i < 12) : xv_wI M 185 i v f = f (xv_sI M 185 i.toNat v) := xe_wI (xk_185 h) h0 h1 (by decide)
theorem xa_186 {T : Type} {M : xv_M} {i : Int} {f : Int → Option T} (h : xl_OK M) (h0 : 0 ≤ i) (h1 : i < 12) : xv_aI M 16 186 i f = f (xv_I M 186 i.toNat) := xe_aI (xk_186 h) h0 h1 (by decide)
theorem xw_186 {T : Type} {M : xv_M} {i v : Int} {f : xv_M → Option T} (h : xl_OK M) (h0 : 0 ≤ i) (h1 : i < 12) (hv : v = 0 ∨ v = 1) : xv_wZ M 186 i v f = f (xv_sI M 186 i.toNat v) := xe_wZ (xk_186 h) h0 h1 (by decide) hv
theorem xa_187 {T : Type} {M : xv_M} {i : Int} {f : Int → Option T} (h : xl_OK M) (h0 : 0 ≤ i) (h1 : i < 12) : xv_aI M 16 187 i f = f (xv_I M 187 i.toNat) := xe_aI (xk_187 h) h0 h1 (by decide)
theorem xw_187 {T : Type} {M : xv_M} {i v : Int} {f : xv_M → Option T} (h : xl_OK M) (h0 : 0 ≤ i) (h1 : i < 12) (hv : v = 0 ∨ v = 1) : xv_wZ M 187 i v f = f (xv_sI M 187 i.toNat v) := xe_wZ (xk_187 h) h0 h1 (by decide) hv
theorem xr_188 {α : Type} {M : xv_M} {x : Option α} (h : xl_OK M) : xv_rc M 12 188 x = x := xe_rc (by rw [xk_188 h])
theorem xg_188_0 {T : Type} {M : xv_M} {f : Nat → Option T} (h : xl_OK M) : xv_gP M 12 188 0 f = f 189 := xe_gP (by rw [xk_188 h]) (xp_188_0 h)
theorem xg_188_1 {T : Type} {M : xv_M} {f : Nat → Option T} (h : xl_OK M) : xv_gP M 12 188 1 f = f 190 := xe_gP (by rw [xk_188 h]) (xp_188_1 h)
theorem xg_188_2 {T : Type} {M : xv_M} {f : Int → Option T} (h : xl_OK M) : xv_gI M 12 188 2 f = f (xv_I M 188 2) := xe_gI (by rw [xk_188 h])
theorem xu_188_2 {T : Type} {M : xv_M} {v : Int} {f : xv_M → Option T} (h : xl_OK M) : xv_pI M 12 188 2 v f = f (xv_sI M 188 2 v) := xe_pI (by rw [xk_188 h])
theorem xg_188_3 {T : Type} {M : xv_M} {f : Nat → Option T} (h : xl_OK M) : xv_gP M 12 188 3 f = f 191 := xe_gP (by rw [xk_188 h]) (xp_188_3 h)
theorem xg_188_4 {T : Type} {M : xv_M} {f : Int → Option T} (h : xl_OK M) : xv_gI M 12 188 4 f = f (xv_I M 188 4) := xe_gI (by rw [xk_188 h])
theorem xu_188_4 {T : Type} {M : xv_M} {v : Int} {f : xv_M → Option T} (h : xl_OK M) (hv : v = 0 ∨ v = 1) : xv_pZ M 12 188 4 v f = f (xv_sI M 188 4 v) := xe_pZ (by rw [xk_188 h]) hv
theorem xg_188_5 {T : Type} {M : xv_M} {f : Int → Option T} (h : xl_OK M) : xv_gI M 12 188 5 f = f (xv_I M 188 5) := xe_gI (by rw [xk_188 h])
theorem xu_188_5 {T : Type} {M : xv_M} {v : Int} {f : xv_M → Option T} (h : xl_OK M) : xv_pI M 12 188 5 v f = f (xv_sI M 188 5 v) := xe_pI (by rw [xk_188 h])
theorem xg_188_6 {T : Type} {M : xv_M} {f : Nat → Option T} (h : xl_OK M) : xv_gP M 12 188 6 f = f 192 := xe_gP (by rw [xk_188 h]) (xp_188_6 h)
theorem xg_188_7 {T : Type} {M : xv_M} {f : Int → Option T} (h : xl_OK M) : xv_gI M 12 188 7 f = f (xv_I M 188 7) := xe_gI (by rw [xk_188 h])
theorem xu_188_7 {T : Type} {M : xv_M} {v : Int} {f : xv_M → Option T} (h : xl_OK M) : xv_pI M 12 188 7 v f = f (xv_sI M 188 7 v) := xe_pI (by rw [xk_188 h])
theorem xg_188_8 {T : Type} {M : xv_M} {f : Int → Option T} (h : xl_OK M) : xv_gI M 12 188 8 f = f (xv_I M 188 8) := xe_gI (by rw [xk_188 h])
theorem xu_188_8 {T : Type} {M : xv_M} {v : Int} {f : xv_M → Option T} (h : xl_OK M) : xv_pI M 12 188 8 v f = f (xv_sI M 188 8 v) := xe_pI (by rw [xk_188 h])
theorem xg_188_9 {T : Type} {M : xv_M} {f : Int → Option T} (h : xl_OK M) : xv_gI M 12 188 9 f = f (xv_I M 188 9) := xe_gI (by rw [xk_188 h])
theorem xu_188_9 {T : Type} {M : xv_M} {v : Int} {f : xv_M → Option T} (h : xl_OK M) : xv_pI M 12 188 9 v f = f (xv_sI M 188 9 v) := xe_pI (by rw [xk_188 h])
theorem xg_188_10 {T : Type} {M : xv_M} {f : Int → Option T} (h : xl_OK M) : xv_gI M 12 188 10 f = f (xv_I M 188 10) := xe_gI (by rw [xk_188 h])
theorem xu_188_10 {T : Type} {M : xv_M} {v : Int} {f : xv_M → Option T} (h : xl_OK M) : xv_pI M 12 188 10 v f = f (xv_sI M 188 10 v) := xe_pI (by rw [xk_188 h])
theorem xg_188_11 {T : Type} {M : xv_M} {f : Int → Option T} (h : xl_OK M) : xv_gI M 12 188 11 f = f (xv_I M 188 11) := xe_gI (by rw [xk_188 h])
theorem xu_188_11 {T : Type} {M : xv_M} {v : Int} {f : xv_M → Option T} (h : xl_OK M) : xv_pI M 12 188 11 v f = f (xv_sI M 188 11 v) := xe_pI (by rw [xk_188 h])
theorem xg_188_12 {T : Type} {M : xv_M} {f : Int → Option T} (h : xl_OK M) : xv_gI M 12 188 12 f = f (xv_I M 188 12) := xe_gI (by rw [xk_188 h])
theorem xu_188_12 {T : Type} {M : xv_M} {v : Int} {f : xv_M → Option T} (h : xl_OK M) : xv_pI M 12 188 12 v f = f (xv_sI M 188 12 v) := xe_pI (by rw [xk_188 h])
theorem xg_188_13 {T : Type} {M : xv_M} {f : Int → Option T} (h : xl_OK M) : xv_gI M 12 188 13 f = f (xv_I M 188 13) := xe_gI (by rw [xk_188 h])
theorem xu_188_13 {T : Type} {M : xv_M} {v : Int} {f : xv_M → Option T} (h : xl_OK M) : xv_pI M 12 188 13 v f = f (xv_sI M 188 13 v) := xe_pI (by rw [xk_188 h])
theorem xg_188_14 {T : Type} {M : xv_M} {f : Int → Option T} (h : xl_OK M) : xv_gI M 12 188 14 f = f (xv_I M 188 14) := xe_gI (by rw [xk_188 h])
theorem xu_188_14 {T : Type} {M : xv_M} {v : Int} {f : xv_M → Option T} (h : xl_OK M) : xv_pI M 12 188 14 v f = f (xv_sI M 188 14 v) := xe_pI (by rw [xk_188 h])
theorem xg_188_15 {T : Type} {M : xv_M} {f : Nat → Option T} (h : xl_OK M) : xv_gP M 12 188 15 f = f 193 := xe_gP (by rw [xk_188 h]) (xp_188_15 h)
theorem xg_188_16 {T : Type} {M : xv_M} {f : Nat → Option T} (h : xl_OK M) : xv_gP M 12 188 16 f = f 194 := xe_gP (by rw [xk_188 h]) (xp_188_16 h)
theorem xg_188_17 {T : Type} {M : xv_M} {f : Int → Option T} (h : xl_OK M) : xv_gI M 12 188 17 f = f (xv_I M 188 17) := xe_gI (by rw [xk_188 h])
theorem xu_188_17 {T : Type} {M : xv_M} {v : Int} {f : xv_M → Option T} (h : xl_OK M) : xv_pI M 12 188 17 v f = f (xv_sI M 188 17 v) := xe_pI (by rw [xk_188 h])
theorem xa_189 {T : Type} {M : xv_M} {i : Int} {f : Int → Option T} (h : xl_OK M) (h0 : 0 ≤ i) (h1 : i < 870) : xv_aI M 14 189 i f = f (xv_I M 189 i.toNat) := xe_aI (xk_189 h) h0 h1 (by decide)
theorem xw_189 {T : Type} {M : xv_M} {i v : Int} {f : xv_M → Option T} (h : xl_OK M) (h0 : 0 ≤ i) (h1 : i < 870) : xv_wI M 189 i v f = f (xv_sI M 189 i.toNat v) := xe_wI (xk_189 h) h0 h1 (by decide)
theorem xa_190 {T : Type} {M : xv_M} {i : Int} {f : Int → Option T} (h : xl_OK M) (h0 : 0 ≤ i) (h1 : i < 3480) : xv_aI M 14 190 i f = f (xv_I M 190 i.toNat) := xe_aI (xk_190 h) h0 h1 (by decide)
theorem xw_190 {T : Type} {M : xv_M} {i v : Int} {f : xv_M → Option T} (h : xl_OK M) (h0 : 0 ≤ i) (h1 : i < 3480) : xv_wI M 190 i v f = f (xv_sI M 190 i.toNat v) := xe_wI (xk_190 h) h0 h1 (by decide)
theorem xa_191 {T : Type} {M : xv_M} {i : Int} {f : Int → Option T} (h : xl_OK M) (h0 : 0 ≤ i) (h1 : i < 870) : xv_aI M 14 191 i f = f (xv_I M 191 i.toNat) := xe_aI (xk_191 h) h0 h1 (by decide)
theorem xw_191 {T : Type} {M : xv_M} {i v : Int} {f : xv_M → Option T} (h : xl_OK M) (h0 : 0 ≤ i) (h1 : i < 870) : xv_wI M 191 i v f = f (xv_sI M 191 i.toNat v) := xe_wI (xk_191 h) h0 h1 (by decide)
theorem xa_192 {T : Type} {M : xv_M} {i : Int} {f : Int → Option T} (h : xl_OK M) (h0 : 0 ≤ i) (h1 : i < 60) : xv_aI M 13 192 i f = f (xv_I M 192 i.toNat) := xe_aI (xk_192 h) h0 h1 (by decide)
theorem xw_192 {T : Type} {M : xv_M} {i v : Int} {f : xv_M → Option T} (h : xl_OK M) (h0 : 0 ≤ i) (h1 : i < 60) (hv : 0 ≤ v) (hv2 : v ≤ 65535) : xv_wC M 192 i v f = f (xv_sI M 192 i.toNat v) := xe_wC (xk_192 h) h0 h1 (by decide) hv hv2
theorem xa_193 {T : Type} {M : xv_M} {i : Int} {f : Int → Option T} (h : xl_OK M) (h0 : 0 ≤ i) (h1 : i < 1001) : xv_aI M 16 193 i f = f (xv_I M 193 i.toNat) := xe_aI (xk_193 h) h0 h1 (by decide)
theorem xw_193 {T : Type} {M : xv_M} {i v : Int} {f : xv_M → Option T} (h : xl_OK M) (h0 : 0 ≤ i) (h1 : i < 1001) (hv : v = 0 ∨ v = 1) : xv_wZ M 193 i v f = f (xv_sI M 193 i.toNat v) := xe_wZ (xk_193 h) h0 h1 (by decide) hv
theorem xa_194 {T : Type} {M : xv_M} {i : Int} {f : Int → Option T} (h : xl_OK M) (h0 : 0 ≤ i) (h1 : i < 1001) : xv_aI M 14 194 i f = f (xv_I M 194 i.toNat) := xe_aI (xk_194 h) h0 h1 (by decide)
theorem xw_194 {T : Type} {M : xv_M} {i v : Int} {f : xv_M → Option T} (h : xl_OK M) (h0 : 0 ≤ i) (h1 : i < 1001) : xv_wI M 194 i v f = f (xv_sI M 194 i.toNat v) := xe_wI (xk_194 h) h0 h1 (by decide)
theorem xa_19 {T : Type} {M : xv_M} {i : Int} {f : Nat → Option T} (h : xl_OK M) (h0 : 0 ≤ i) (h1 : i < 6) : xv_aP M 18 19 i f = f (20 + i.toNat) := by
  rw [xe_aP (xk_19 h) h0 h1 (by decide)]
  obtain ⟨k, hk, rfl⟩ : ∃ k : Nat, k < 6 ∧ i = (k : Int) := ⟨i.toNat, by omega, by omega⟩
  rw [Int.toNat_natCast]
  have h9 : ∀ k, k < 6 → xv_P M 19 k = 20 + k
    | 0, _ => xp_19_0 h
    | 1, _ => xp_19_1 h
    | 2, _ => xp_19_2 h
    | 3, _ => xp_19_3 h
    | 4, _ => xp_19_4 h
    | 5, _ => xp_19_5 h
    | k + 6, q => absurd q (by omega)
  rw [h9 k hk]
theorem xl_k20 {M : xv_M} (h : xl_OK M) : ∀ r, 20 ≤ r → r ≤ 25 → xv_kd M r = (14, 60) := by
  intro r h0 h1
  have : r = 20 ∨ r = 21 ∨ r = 22 ∨ r = 23 ∨ r = 24 ∨ r = 25 := by omega
  rcases this with rfl | rfl | rfl | rfl | rfl | rfl
  · exact xk_20 h
  · exact xk_21 h
  · exact xk_22 h
  · exact xk_23 h
  · exact xk_24 h
  · exact xk_25 h
theorem xa_20s {T : Type} {M : xv_M} {w : Nat} {i : Int} {f : Int → Option T} (h : xl_OK M) (hw : w < 6) (h0 : 0 ≤ i) (h1 : i < 60) : xv_aI M 14 (20 + w) i f = f (xv_I M (20 + w) i.toNat) := xe_aI (xl_k20 h _ (by omega) (by omega)) h0 h1 (by decide)
theorem xw_20s {T : Type} {M : xv_M} {w : Nat} {i v : Int} {f : xv_M → Option T} (h : xl_OK M) (hw : w < 6) (h0 : 0 ≤ i) (h1 : i < 60) : xv_wI M (20 + w) i v f = f (xv_sI M (20 + w) i.toNat v) := xe_wI (xl_k20 h _ (by omega) (by omega)) h0 h1 (by decide)
