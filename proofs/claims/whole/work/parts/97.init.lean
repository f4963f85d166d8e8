/-! ## the memory behind the constructors: all is held -/
/-- all numbers are 0 -/
def AZ (M : xv_M) : Prop := (∀ r j, M.2.1 r j = 0) ∧ ∀ r j, M.2.2.1 r j = 0
theorem AZ.new {M : xv_M} (h : AZ M) (k : Nat × Nat) : AZ (xv_new M k) := by
  refine ⟨fun r j => ?_, fun r j => ?_⟩
  · show (if r = M.1.length + 1 then (0 : Int) else M.2.1 r j) = 0
    by_cases e : r = M.1.length + 1
    · rw [if_pos e]
    · rw [if_neg e]; exact h.1 r j
  · show (if r = M.1.length + 1 then (0 : Int64) else M.2.2.1 r j) = 0
    by_cases e : r = M.1.length + 1
    · rw [if_pos e]
    · rw [if_neg e]; exact h.2 r j
theorem AZ.mn6 {M : xv_M} (h : AZ M) : AZ (xv_mn6 M) := by
  refine ⟨fun r j => ?_, fun r j => ?_⟩
  · show (if r ≤ M.1.length then M.2.1 r j else (0 : Int)) = 0
    by_cases e : r ≤ M.1.length
    · rw [if_pos e]; exact h.1 r j
    · rw [if_neg e]
  · show (if r ≤ M.1.length then M.2.2.1 r j else (0 : Int64)) = 0
    by_cases e : r ≤ M.1.length
    · rw [if_pos e]; exact h.2 r j
    · rw [if_neg e]
def PZ {α : Type} (d : Option (α × xv_M)) : Prop := ∀ z M', d = some (z, M') → AZ M'
section PZS
variable {α β : Type} {M : xv_M}
theorem pz_some {z : α} (h : AZ M) : PZ (some (z, M)) := fun z' M' e => by
  cases e
  exact h
theorem pz_none : PZ (none : Option (α × xv_M)) := fun z' M' e => by cases e
theorem pz_ite {c : Prop} [Decidable c] {d e : Option (α × xv_M)} (hd : PZ d) (he : PZ e) : PZ (if c then d else e) := by
  by_cases h : c
  · rw [if_pos h]; exact hd
  · rw [if_neg h]; exact he
theorem pz_g {c : Prop} [Decidable c] {d : Option (α × xv_M)} (hd : PZ d) : PZ (xv_g c d) := pz_ite hd pz_none
theorem pz_nw (hM : AZ M) {k : Nat × Nat} {f : Nat → xv_M → Option (α × xv_M)} (h : ∀ r M', AZ M' → PZ (f r M')) : PZ (xv_nw M k f) := h _ _ (hM.new k)
theorem pz_mnw (hM : AZ M) {f : Nat → xv_M → Option (α × xv_M)} (h : ∀ r M', AZ M' → PZ (f r M')) : PZ (xv_mnw M f) := h _ _ hM.mn6
theorem pz_pP (hM : AZ M) {c r j v : Nat} {f : xv_M → Option (α × xv_M)} (h : ∀ M', AZ M' → PZ (f M')) : PZ (xv_pP M c r j v f) := pz_ite (h _ hM) pz_none
theorem pz_wP (hM : AZ M) {r : Nat} {i : Int} {v : Nat} {f : xv_M → Option (α × xv_M)} (h : ∀ M', AZ M' → PZ (f M')) : PZ (xv_wP M r i v f) := pz_ite (h _ hM) pz_none
theorem pz_gP {c r j : Nat} {f : Nat → Option (α × xv_M)} (h : ∀ v, PZ (f v)) : PZ (xv_gP M c r j f) := pz_ite (h _) pz_none
theorem pz_call {d : Option (β × xv_M)} (hd : PZ d) {k : β → xv_M → Option (α × xv_M)} (h : ∀ z M', AZ M' → PZ (k z M')) : PZ (xv_call d k) := by
  cases d with
  | none => exact pz_none
  | some q => exact h q.1 q.2 (hd q.1 q.2 rfl)
end PZS
theorem PZ_X5 {a0 : Nat} {M : xv_M} (hM : AZ M) : PZ (D_X5_init a0 M) := by
  unfold D_X5_init
  repeat
    with_reducible first
      | exact pz_some (by assumption)
      | refine pz_nw (by assumption) (fun _ _ _ => ?_)
      | refine pz_mnw (by assumption) (fun _ _ _ => ?_)
      | refine pz_pP (by assumption) (fun _ _ => ?_)
      | refine pz_wP (by assumption) (fun _ _ => ?_)
      | refine pz_gP (fun _ => ?_)
      | refine pz_g ?_
theorem PZ_X9 {a0 : Nat} {M : xv_M} (hM : AZ M) : PZ (D_X9_init a0 M) := by
  unfold D_X9_init
  repeat
    with_reducible first
      | exact pz_some (by assumption)
      | refine pz_nw (by assumption) (fun _ _ _ => ?_)
      | refine pz_mnw (by assumption) (fun _ _ _ => ?_)
      | refine pz_pP (by assumption) (fun _ _ => ?_)
      | refine pz_wP (by assumption) (fun _ _ => ?_)
      | refine pz_gP (fun _ => ?_)
      | refine pz_g ?_
theorem PZ_X3 {a0 : Nat} {M : xv_M} (hM : AZ M) : PZ (D_X3_init a0 M) := by
  unfold D_X3_init
  repeat
    with_reducible first
      | exact pz_some (by assumption)
      | refine pz_nw (by assumption) (fun _ _ _ => ?_)
      | refine pz_mnw (by assumption) (fun _ _ _ => ?_)
      | refine pz_pP (by assumption) (fun _ _ => ?_)
      | refine pz_wP (by assumption) (fun _ _ => ?_)
      | refine pz_gP (fun _ => ?_)
      | refine pz_g ?_
theorem PZ_X0 {a0 : Nat} {M : xv_M} (hM : AZ M) : PZ (D_X0_init a0 M) := by
  unfold D_X0_init
  repeat
    with_reducible first
      | exact pz_some (by assumption)
      | refine pz_nw (by assumption) (fun _ _ _ => ?_)
      | refine pz_mnw (by assumption) (fun _ _ _ => ?_)
      | refine pz_pP (by assumption) (fun _ _ => ?_)
      | refine pz_wP (by assumption) (fun _ _ => ?_)
      | refine pz_gP (fun _ => ?_)
      | refine pz_g ?_
theorem PZ_X10 {a0 : Nat} {M : xv_M} (hM : AZ M) : PZ (D_X10_init a0 M) := by
  unfold D_X10_init
  repeat
    with_reducible first
      | exact pz_some (by assumption)
      | refine pz_nw (by assumption) (fun _ _ _ => ?_)
      | refine pz_mnw (by assumption) (fun _ _ _ => ?_)
      | refine pz_pP (by assumption) (fun _ _ => ?_)
      | refine pz_wP (by assumption) (fun _ _ => ?_)
      | refine pz_gP (fun _ => ?_)
      | refine pz_g ?_
theorem PZ_X7 {a0 : Nat} {M : xv_M} (hM : AZ M) : PZ (D_X7_init a0 M) := by
  unfold D_X7_init
  repeat
    with_reducible first
      | exact pz_some (by assumption)
      | refine pz_nw (by assumption) (fun _ _ _ => ?_)
      | refine pz_mnw (by assumption) (fun _ _ _ => ?_)
      | refine pz_pP (by assumption) (fun _ _ => ?_)
      | refine pz_wP (by assumption) (fun _ _ => ?_)
      | refine pz_gP (fun _ => ?_)
      | refine pz_g ?_
theorem PZ_X4 {a0 : Nat} {M : xv_M} (hM : AZ M) : PZ (D_X4_init a0 M) := by
  unfold D_X4_init
  repeat
    with_reducible first
      | exact pz_some (by assumption)
      | refine pz_nw (by assumption) (fun _ _ _ => ?_)
      | refine pz_mnw (by assumption) (fun _ _ _ => ?_)
      | refine pz_pP (by assumption) (fun _ _ => ?_)
      | refine pz_wP (by assumption) (fun _ _ => ?_)
      | refine pz_gP (fun _ => ?_)
      | refine pz_g ?_
theorem PZ_X6 {a0 : Nat} {M : xv_M} (hM : AZ M) : PZ (D_X6_init a0 M) := by
  unfold D_X6_init
  repeat
    with_reducible first
      | exact pz_some (by assumption)
      | refine pz_nw (by assumption) (fun _ _ _ => ?_)
      | refine pz_mnw (by assumption) (fun _ _ _ => ?_)
      | refine pz_pP (by assumption) (fun _ _ => ?_)
      | refine pz_wP (by assumption) (fun _ _ => ?_)
      | refine pz_gP (fun _ => ?_)
      | refine pz_call (pz_g (PZ_X5 (by assumption))) (fun _ _ _ => ?_)
      | refine pz_call (pz_g (PZ_X9 (by assumption))) (fun _ _ _ => ?_)
      | refine pz_call (pz_g (PZ_X3 (by assumption))) (fun _ _ _ => ?_)
      | refine pz_g ?_
theorem PZ_X8 {a0 : Nat} {M : xv_M} (hM : AZ M) : PZ (D_X8_init a0 M) := by
  unfold D_X8_init
  repeat
    with_reducible first
      | exact pz_some (by assumption)
      | refine pz_nw (by assumption) (fun _ _ _ => ?_)
      | refine pz_mnw (by assumption) (fun _ _ _ => ?_)
      | refine pz_pP (by assumption) (fun _ _ => ?_)
      | refine pz_wP (by assumption) (fun _ _ => ?_)
      | refine pz_gP (fun _ => ?_)
      | refine pz_call (pz_g (PZ_X10 (by assumption))) (fun _ _ _ => ?_)
      | refine pz_g ?_
theorem PZ_X1 {a0 : Nat} {M : xv_M} (hM : AZ M) : PZ (D_X1_init a0 M) := by
  unfold D_X1_init
  repeat
    with_reducible first
      | exact pz_some (by assumption)
      | refine pz_nw (by assumption) (fun _ _ _ => ?_)
      | refine pz_mnw (by assumption) (fun _ _ _ => ?_)
      | refine pz_pP (by assumption) (fun _ _ => ?_)
      | refine pz_wP (by assumption) (fun _ _ => ?_)
      | refine pz_gP (fun _ => ?_)
      | refine pz_call (pz_g (PZ_X6 (by assumption))) (fun _ _ _ => ?_)
      | refine pz_g ?_
theorem PZ_X2 {a0 : Nat} {M : xv_M} (hM : AZ M) : PZ (D_X2_init a0 M) := by
  unfold D_X2_init
  repeat
    with_reducible first
      | exact pz_some (by assumption)
      | refine pz_nw (by assumption) (fun _ _ _ => ?_)
      | refine pz_mnw (by assumption) (fun _ _ _ => ?_)
      | refine pz_pP (by assumption) (fun _ _ => ?_)
      | refine pz_wP (by assumption) (fun _ _ => ?_)
      | refine pz_gP (fun _ => ?_)
      | refine pz_call (pz_g (PZ_X6 (by assumption))) (fun _ _ _ => ?_)
      | refine pz_call (pz_g (PZ_X0 (by assumption))) (fun _ _ _ => ?_)
      | refine pz_call (pz_g (PZ_X8 (by assumption))) (fun _ _ _ => ?_)
      | refine pz_g ?_
theorem PZ_X11 {a0 : Nat} {M : xv_M} (hM : AZ M) : PZ (D_X11_init a0 M) := by
  unfold D_X11_init
  repeat
    with_reducible first
      | exact pz_some (by assumption)
      | refine pz_nw (by assumption) (fun _ _ _ => ?_)
      | refine pz_mnw (by assumption) (fun _ _ _ => ?_)
      | refine pz_pP (by assumption) (fun _ _ => ?_)
      | refine pz_wP (by assumption) (fun _ _ => ?_)
      | refine pz_gP (fun _ => ?_)
      | refine pz_call (pz_g (PZ_X2 (by assumption))) (fun _ _ _ => ?_)
      | refine pz_call (pz_g (PZ_X1 (by assumption))) (fun _ _ _ => ?_)
      | refine pz_call (pz_g (PZ_X6 (by assumption))) (fun _ _ _ => ?_)
      | refine pz_call (pz_g (PZ_X7 (by assumption))) (fun _ _ _ => ?_)
      | refine pz_call (pz_g (PZ_X4 (by assumption))) (fun _ _ _ => ?_)
      | refine pz_g ?_
theorem PZ_X12 {a0 : Nat} {M : xv_M} (hM : AZ M) : PZ (D_X12_init a0 M) := by
  unfold D_X12_init
  repeat
    with_reducible first
      | exact pz_some (by assumption)
      | refine pz_nw (by assumption) (fun _ _ _ => ?_)
      | refine pz_mnw (by assumption) (fun _ _ _ => ?_)
      | refine pz_pP (by assumption) (fun _ _ => ?_)
      | refine pz_wP (by assumption) (fun _ _ => ?_)
      | refine pz_gP (fun _ => ?_)
      | refine pz_g ?_
theorem xl_init11 : D_X11_init 1 xl_A0 = some ((), xl_A1) := by
  have h := xl_A1_some
  unfold xl_A1
  cases hd : D_X11_init 1 xl_A0 with
  | none => rw [hd] at h; cases h
  | some q => rfl
theorem xl_init12 : D_X12_init 188 xl_A2 = some ((), xl_A3) := by
  have h := xl_A3_some
  unfold xl_A3
  cases hd : D_X12_init 188 xl_A2 with
  | none => rw [hd] at h; cases h
  | some q => rfl
theorem xl_AZ3 : AZ xl_A3 := by
  have h0 : AZ xl_A0 := AZ.new ⟨fun _ _ => rfl, fun _ _ => rfl⟩ _
  have h1 : AZ xl_A1 := PZ_X11 h0 _ _ xl_init11
  exact PZ_X12 (h1.new _) _ _ xl_init12
theorem xl_OK3 : xl_OK xl_A3 := ⟨xl_A3_K, fun _ _ _ => rfl⟩
set_option maxRecDepth 100000 in
theorem xl_P40 : xl_P0 40 0 = 41 ∧ xl_P0 40 1 = 69 ∧ xl_P0 40 2 = 97 ∧ xl_P0 40 3 = 125 := by decide +kernel
theorem INV_0 {M : xv_M} (hO : xl_OK M) (hz : AZ M) (hP : xv_P M 40 0 = 41 ∧ xv_P M 40 1 = 69 ∧ xv_P M 40 2 = 97 ∧ xv_P M 40 3 = 125) : INV M := by
  have zI : ∀ r j, xv_I M r j = 0 := hz.1
  have zJ : ∀ r j, xv_J M r j = 0 := hz.2
  have zr : ∀ r, xv_I M r = fun _ => 0 := fun r => funext (zI r)
  have hn : ∀ s, ¬ s < rn (fun _ => 0) := fun s => Nat.not_lt_zero s
  have hm : ∀ s, ¬ s < rm (fun _ => 0) := fun s => Nat.not_lt_zero s
  have h5 : ∀ k : Nat, ¬ k < ((fun _ => (0 : Int)) (5 : Nat)).toNat := fun k => Nat.not_lt_zero k
  have i0 : (0 : Int) ≤ 0 ∧ (0 : Int) ≤ 9999 := by decide
  have i1 : (0 : Int) ≤ 0 ∧ (0 : Int) ≤ 60 := by decide
  have i2 : (0 : Int) ≤ 0 ∧ (0 : Int) ≤ 6 := by decide
  have i5 : (0 : Int) ≤ 0 ∧ (0 : Int) ≤ 12 := by decide
  have i3 : (0 : Int) ≤ 0 ∧ (0 : Int) ≤ 0 + 1 := by decide
  have hgd : rGd (fun _ => 0) := by
    refine ⟨i0, i1, i2, rKp_refl i5 (fun w s _ _ => i3), fun s _ => Or.inl rfl, fun s _ h => ?_, fun w h => ?_⟩
    · exact absurd (show (0 : Int) = 1 from h) (by decide)
    · exact absurd h (hm w)
  have hRW : rRW (fun _ => 0) := by
    refine ⟨⟨hgd, fun s h => ?_, ⟨rfl, rfl⟩, fun w s _ _ _ => rfl⟩, fun w s h => ?_⟩
    · exact absurd h (hn s)
    · exact absurd h (hm w)
  have hs : SBs 3 (fun _ => 0) M := by
    refine ⟨zI _ _, fun s hs => ?_, fun s h => absurd h (hn s), fun s _ _ => ⟨zI _ _, zI _ _⟩⟩
    rw [zJ, xb_0]
    exact (decide_eq_false (fun z => hn s z.1)).symm
  have hw : SBw 3 (fun _ => 0) M := ⟨zI _ _, fun w h => absurd h (hm w), fun w _ _ => ⟨zI _ _, zI _ _, zI _ _, zI _ _⟩⟩
  have hl : SBl 3 (fun _ => 0) M := by
    refine ⟨zI _ _, ?_, fun k h => absurd h (h5 k)⟩
    rw [zI]
    decide
  have he : SBe 3 (fun _ => 0) M := fun w s h => absurd h (hm w)
  have cb : CB (fun _ => 0) M := ⟨hO, zI _ _, hs, hw, hl, he⟩
  have ci : CI (fun _ => 0) M := ⟨fun w h => absurd h (hm w), fun w _ _ => zJ _ _⟩
  have cc : CC (fun _ => 0) M := fun x hx s hs => by
    rw [zJ, xb_0]
    exact (decide_eq_false (fun z => hn s z.1)).symm
  have tr : TR (fun _ => 0) M := by
    refine ⟨fun s h => absurd h (hn s), fun x hx => ?_, fun x hx => ?_⟩
    · rw [zI]
      rfl
    · rw [zI]
      refine ⟨by decide, ⟨fun h => absurd h (by decide), fun h => ?_⟩⟩
      obtain ⟨s, h1, _⟩ := h
      exact absurd h1 (hn s)
  obtain ⟨p0, p1, p2, p3⟩ := hP
  have hh : HI (fun _ => 0) 0 M := by
    refine ⟨fun i hi => ?_, fun i j hi hj e => ?_, fun i hi => absurd hi (Nat.not_lt_zero _)⟩
    · have : i = 0 ∨ i = 1 ∨ i = 2 ∨ i = 3 := by omega
      unfold Hk
      rcases this with rfl | rfl | rfl | rfl <;> omega
    · have h1 : i = 0 ∨ i = 1 ∨ i = 2 ∨ i = 3 := by omega
      have h2 : j = 0 ∨ j = 1 ∨ j = 2 ∨ j = 3 := by omega
      rcases h1 with rfl | rfl | rfl | rfl <;> rcases h2 with rfl | rfl | rfl | rfl <;> omega
  refine ⟨0, zI _ _, ?_, ?_, ?_⟩
  · rw [zr 189, zr 190]
    exact ⟨⟨cb, ci, cc, tr⟩, hRW, zI _ _, by decide, hh⟩
  · refine ⟨by rw [zI, zI], Or.inl (zI _ _), fun h => ?_⟩
    rw [zI] at h
    exact absurd h (by decide)
  · exact ⟨0, by decide, zI _ _, zI _ _, fun i hi => absurd hi (Nat.not_lt_zero _)⟩
theorem INV_start : INV xl_A3 := INV_0 xl_OK3 xl_AZ3 xl_P40
