/-! ## the references stay -/
/-- what stays: the references, the kinds, the class's own mark -/
def FQ (N M : xv_M) : Prop := M.2.2.2 = N.2.2.2 ∧ M.1 = N.1 ∧ M.2.1 1 5 = N.2.1 1 5 ∧ N.1.getD 0 (99, 0) = (11, 0)
theorem FQ.r1 {N M : xv_M} (h : FQ N M) {c r : Nat} (hk : (xv_kd M r).1 = c) (hc : c ≠ 11) : r ≠ 1 := fun e => by
  subst e
  have : xv_kd M 1 = M.1.getD 0 (99, 0) := rfl
  rw [this, h.2.1, h.2.2.2] at hk
  exact hc hk.symm
theorem FQ.sI {N M : xv_M} (h : FQ N M) {r j : Nat} {v : Int} (hr : r ≠ 1) : FQ N (xv_sI M r j v) := ⟨h.1, h.2.1, by
  show xv_up M.2.1 r j v 1 5 = _
  unfold xv_up
  rw [if_neg (fun z => hr z.1.symm)]
  exact h.2.2.1, h.2.2.2⟩
theorem FQ.sJ {N M : xv_M} (h : FQ N M) {r j : Nat} {v : Int64} : FQ N (xv_sJ M r j v) := h
theorem fq_abb {M : xv_M} {t r : Nat} {i : Int} (h : xv_abb M t r i = true) : (xv_kd M r).1 = t := by
  unfold xv_abb at h
  rw [Bool.and_eq_true] at h
  exact of_decide_eq_true h.1
/-- behind d it stays -/
def PS {α : Type} (p : xv_M) (d : Option (α × xv_M)) : Prop := ∀ z M', d = some (z, M') → FQ p M'
section PSS
variable {α β : Type} {p : xv_M} {M : xv_M}
theorem ps_some {z : α} (h : FQ p M) : PS p (some (z, M)) := fun z' M' e => by
  cases e
  exact h
theorem ps_none : PS p (none : Option (α × xv_M)) := fun z' M' e => by cases e
theorem ps_ite {c : Prop} [Decidable c] {d e : Option (α × xv_M)} (hd : PS p d) (he : PS p e) : PS p (if c then d else e) := by
  by_cases h : c
  · rw [if_pos h]; exact hd
  · rw [if_neg h]; exact he
theorem ps_g {c : Prop} [Decidable c] {d : Option (α × xv_M)} (hd : PS p d) : PS p (xv_g c d) := ps_ite hd ps_none
theorem ps_if {c : Prop} [Decidable c] {d e : Option (α × xv_M)} (hd : PS p d) (he : PS p e) : PS p (xv_if c d e) := ps_ite hd he
theorem ps_cmp {x y : Int} {c : Prop} [Decidable c] {d e : Option (α × xv_M)} (hd : PS p d) (he : PS p e) : PS p (xv_cmp x y c d e) := ps_g (ps_ite hd he)
theorem ps_rc {c r : Nat} {d : Option (α × xv_M)} (hd : PS p d) : PS p (xv_rc M c r d) := ps_ite hd ps_none
theorem ps_gI {c r j : Nat} {f : Int → Option (α × xv_M)} (h : ∀ v, PS p (f v)) : PS p (xv_gI M c r j f) := ps_ite (h _) ps_none
theorem ps_gJ {c r j : Nat} {f : Int64 → Option (α × xv_M)} (h : ∀ v, PS p (f v)) : PS p (xv_gJ M c r j f) := ps_ite (h _) ps_none
theorem ps_gP {c r j : Nat} {f : Nat → Option (α × xv_M)} (h : ∀ v, PS p (f v)) : PS p (xv_gP M c r j f) := ps_ite (h _) ps_none
theorem ps_aI {c r : Nat} {j : Int} {f : Int → Option (α × xv_M)} (h : ∀ v, PS p (f v)) : PS p (xv_aI M c r j f) := ps_ite (h _) ps_none
theorem ps_aJ {r : Nat} {j : Int} {f : Int64 → Option (α × xv_M)} (h : ∀ v, PS p (f v)) : PS p (xv_aJ M r j f) := ps_ite (h _) ps_none
theorem ps_aP {c r : Nat} {j : Int} {f : Nat → Option (α × xv_M)} (h : ∀ v, PS p (f v)) : PS p (xv_aP M c r j f) := ps_ite (h _) ps_none
theorem ps_len {c r : Nat} {f : Int → Option (α × xv_M)} (h : ∀ v, PS p (f v)) : PS p (xv_len M c r f) := ps_ite (h _) ps_none
theorem ps_abs {x : Int} {f : Int → Option (α × xv_M)} (h : ∀ v, PS p (f v)) : PS p (xv_abs x f) := ps_ite (h _) ps_none
theorem ps_max {x y : Int} {f : Int → Option (α × xv_M)} (h : ∀ v, PS p (f v)) : PS p (xv_max x y f) := ps_ite (h _) ps_none
theorem ps_min {x y : Int} {f : Int → Option (α × xv_M)} (h : ∀ v, PS p (f v)) : PS p (xv_min x y f) := ps_ite (h _) ps_none
theorem ps_pI (hM : FQ p M) {c r j : Nat} (hc : c ≠ 11) {v : Int} {f : xv_M → Option (α × xv_M)} (h : ∀ M', FQ p M' → PS p (f M')) : PS p (xv_pI M c r j v f) := by
  unfold xv_pI
  by_cases q : (xv_kd M r).1 = c
  · rw [if_pos q]
    exact h _ (hM.sI (hM.r1 q hc))
  · rw [if_neg q]
    exact ps_none
theorem ps_pJ (hM : FQ p M) {c r j : Nat} {v : Int64} {f : xv_M → Option (α × xv_M)} (h : ∀ M', FQ p M' → PS p (f M')) : PS p (xv_pJ M c r j v f) := ps_ite (h _ hM) ps_none
theorem ps_pZ (hM : FQ p M) {c r j : Nat} (hc : c ≠ 11) {v : Int} {f : xv_M → Option (α × xv_M)} (h : ∀ M', FQ p M' → PS p (f M')) : PS p (xv_pZ M c r j v f) := by
  unfold xv_pZ
  by_cases q : (xv_kd M r).1 = c ∧ (v = 0 ∨ v = 1)
  · rw [if_pos q]
    exact h _ (hM.sI (hM.r1 q.1 hc))
  · rw [if_neg q]
    exact ps_none
theorem ps_wI (hM : FQ p M) {r : Nat} {j v : Int} {f : xv_M → Option (α × xv_M)} (h : ∀ M', FQ p M' → PS p (f M')) : PS p (xv_wI M r j v f) := by
  unfold xv_wI
  by_cases q : xv_abb M 14 r j = true
  · rw [if_pos q]
    exact h _ (hM.sI (hM.r1 (fq_abb q) (by decide)))
  · rw [if_neg q]
    exact ps_none
theorem ps_wJ (hM : FQ p M) {r : Nat} {j : Int} {v : Int64} {f : xv_M → Option (α × xv_M)} (h : ∀ M', FQ p M' → PS p (f M')) : PS p (xv_wJ M r j v f) := ps_ite (h _ hM) ps_none
theorem ps_wZ (hM : FQ p M) {r : Nat} {j v : Int} {f : xv_M → Option (α × xv_M)} (h : ∀ M', FQ p M' → PS p (f M')) : PS p (xv_wZ M r j v f) := by
  unfold xv_wZ
  by_cases q : xv_abb M 16 r j = true ∧ (v = 0 ∨ v = 1)
  · rw [if_pos q]
    exact h _ (hM.sI (hM.r1 (fq_abb q.1) (by decide)))
  · rw [if_neg q]
    exact ps_none
theorem ps_wC (hM : FQ p M) {r : Nat} {j v : Int} {f : xv_M → Option (α × xv_M)} (h : ∀ M', FQ p M' → PS p (f M')) : PS p (xv_wC M r j v f) := by
  unfold xv_wC
  by_cases q : xv_abb M 13 r j = true ∧ (0 ≤ v ∧ v ≤ 65535)
  · rw [if_pos q]
    exact h _ (hM.sI (hM.r1 (fq_abb q.1) (by decide)))
  · rw [if_neg q]
    exact ps_none
theorem ps_let {γ : Type} {a : γ} {f : γ → Option (α × xv_M)} (h : PS p (f a)) : PS p (xv_let a f) := h
theorem ps_letp {γ : Type} {a : γ} {f : γ → Option (α × xv_M)} (Q : γ → Prop) (ha : Q a) (h : ∀ j, Q j → PS p (f j)) : PS p (xv_let a f) := h a ha
theorem ps_call {d : Option (β × xv_M)} (hd : PS p d) {k : β → xv_M → Option (α × xv_M)} (h : ∀ z M', FQ p M' → PS p (k z M')) : PS p (xv_call d k) := by
  cases d with
  | none => exact ps_none
  | some q =>
    obtain ⟨z, M'⟩ := q
    exact h z M' (hd z M' rfl)
theorem ps_fix {σ : Type} (Q : σ → Prop) {F : (σ → Option (α × xv_M)) → σ → Option (α × xv_M)} (h : ∀ f, (∀ s, Q s → PS p (f s)) → ∀ s, Q s → PS p (F f s)) : ∀ (n : Nat) (s : σ), Q s → PS p (xv_fix F n s)
  | 0, s, _ => ps_none
  | n + 1, s, hs => h (xv_fix F n) (fun s' hs' => ps_fix Q h n s' hs') s hs
end PSS
theorem PS_J7_fill_d0a16 {p : xv_M} {a0 : Nat} {a1 : Int64} {M : xv_M} (hM : FQ p M) : PS p (D_J7_fill_d0a16 a0 a1 M) := by
  unfold D_J7_fill_d0a16
  refine ps_len fun v1 => ?_
  refine ps_fix (fun s => FQ p s.2) (fun f3 h1 x2 h2 => ?_) _ _ (by assumption)
  refine ps_cmp ?_ ?_
  · exact ps_some (by assumption)
  · refine ps_wJ (by assumption) fun M4 h3 => ?_
    exact h1 _ (by assumption)
theorem PS_J7_fill_53178 {p : xv_M} {a0 : Nat} {a1 : Int} {M : xv_M} (hM : FQ p M) : PS p (D_J7_fill_53178 a0 a1 M) := by
  unfold D_J7_fill_53178
  refine ps_len fun v1 => ?_
  refine ps_fix (fun s => FQ p s.2) (fun f3 h1 x2 h2 => ?_) _ _ (by assumption)
  refine ps_cmp ?_ ?_
  · exact ps_some (by assumption)
  · refine ps_wI (by assumption) fun M4 h3 => ?_
    exact h1 _ (by assumption)
theorem PS_X11_isMember {p : xv_M} {a0 : Int64} {a1 : Int} {M : xv_M} (hM : FQ p M) : PS p (D_X11_isMember a0 a1 M) := by
  unfold D_X11_isMember
  refine ps_cmp ?_ ?_
  · refine ps_g ?_
    exact ps_some (by assumption)
  · refine ps_g ?_
    exact ps_some (by assumption)
theorem PS_X5_isThere {p : xv_M} {a0 : Nat} {a1 : Int} {M : xv_M} (hM : FQ p M) : PS p (D_X5_isThere a0 a1 M) := by
  unfold D_X5_isThere
  refine ps_gJ fun v1 => ?_
  refine ps_call ?_ fun z3 M2 h1 => ?_
  · exact PS_X11_isMember (by assumption)
  · refine ps_g ?_
    exact ps_some (by assumption)
theorem PS_X11_isPlace {p : xv_M} {a0 : Int} {M : xv_M} (hM : FQ p M) : PS p (D_X11_isPlace a0 M) := by
  unfold D_X11_isPlace
  refine ps_cmp ?_ ?_
  · refine ps_g ?_
    exact ps_some (by assumption)
  · refine ps_cmp ?_ ?_
    · refine ps_g ?_
      exact ps_some (by assumption)
    · refine ps_g ?_
      exact ps_some (by assumption)
theorem PS_X0_flip {p : xv_M} {a0 : Nat} {a1 : Int} {a2 : Int} {M : xv_M} (hM : FQ p M) : PS p (D_X0_flip a0 a1 a2 M) := by
  unfold D_X0_flip
  refine ps_call ?_ fun z2 M1 h1 => ?_
  · exact PS_X11_isPlace (by assumption)
  · refine ps_cmp ?_ ?_
    · exact ps_some (by assumption)
    · refine ps_gP fun v3 => ?_
      refine ps_aJ fun v4 => ?_
      refine ps_wJ (by assumption) fun M5 h2 => ?_
      exact ps_some (by assumption)
theorem PS_X0_build {p : xv_M} {a0 : Nat} {a1 : Nat} {M : xv_M} (hM : FQ p M) : PS p (D_X0_build a0 a1 M) := by
  unfold D_X0_build
  refine ps_gP fun v1 => ?_
  refine ps_call ?_ fun _ M2 h1 => ?_
  · exact PS_J7_fill_d0a16 (by assumption)
  · refine ps_fix (fun s => FQ p s.2) (fun f4 h2 x3 h3 => ?_) _ _ (by assumption)
    refine ps_gI fun v5 => ?_
    refine ps_cmp ?_ ?_
    · refine ps_fix (fun s => FQ p s.2) (fun f7 h4 x6 h5 => ?_) _ _ (by assumption)
      refine ps_cmp ?_ ?_
      · exact ps_some (by assumption)
      · refine ps_gP fun v8 => ?_
        refine ps_aJ fun v9 => ?_
        refine ps_gP fun v10 => ?_
        refine ps_aJ fun v11 => ?_
        refine ps_wJ (by assumption) fun M12 h6 => ?_
        exact h4 _ (by assumption)
    · refine ps_call ?_ fun z14 M13 h7 => ?_
      · refine ps_rc ?_
        exact PS_X5_isThere (by assumption)
      · refine ps_letp (fun j => ∀ M : xv_M, FQ p M → PS p (j M)) (fun x15 h9 => ?_) (fun j16 h8 => ?_)
        · exact h2 _ (by assumption)
        · refine ps_cmp ?_ ?_
          · exact h8 _ (by assumption)
          · refine ps_gP fun v17 => ?_
            refine ps_aI fun v18 => ?_
            refine ps_call ?_ fun _ M19 h10 => ?_
            · refine ps_rc ?_
              exact PS_X0_flip (by assumption)
            · refine ps_gP fun v20 => ?_
              refine ps_aI fun v21 => ?_
              refine ps_call ?_ fun _ M22 h11 => ?_
              · refine ps_rc ?_
                exact PS_X0_flip (by assumption)
              · exact h8 _ (by assumption)
theorem PS_X0_over {p : xv_M} {a0 : Nat} {a1 : Int} {M : xv_M} (hM : FQ p M) : PS p (D_X0_over a0 a1 M) := by
  unfold D_X0_over
  refine ps_call ?_ fun z2 M1 h1 => ?_
  · exact PS_X11_isPlace (by assumption)
  · refine ps_cmp ?_ ?_
    · exact ps_some (by assumption)
    · refine ps_gP fun v3 => ?_
      refine ps_aJ fun v4 => ?_
      exact ps_some (by assumption)
theorem PS_J13_bitCount_95d88 {p : xv_M} {a0 : Int64} {M : xv_M} (hM : FQ p M) : PS p (D_J13_bitCount_95d88 a0 M) := by
  unfold D_J13_bitCount_95d88
  exact ps_some (by assumption)
theorem PS_X10_halfway {p : xv_M} {a0 : Int} {a1 : Int} {M : xv_M} (hM : FQ p M) : PS p (D_X10_halfway a0 a1 M) := by
  unfold D_X10_halfway
  refine ps_g ?_
  exact ps_some (by assumption)
theorem PS_X10_start {p : xv_M} {a0 : Nat} {M : xv_M} (hM : FQ p M) : PS p (D_X10_start a0 M) := by
  unfold D_X10_start
  refine ps_pI (by assumption) (by decide) fun M1 h1 => ?_
  refine ps_pI (by assumption) (by decide) fun M2 h2 => ?_
  refine ps_gI fun v3 => ?_
  refine ps_gI fun v4 => ?_
  refine ps_call ?_ fun z6 M5 h3 => ?_
  · exact PS_X10_halfway (by assumption)
  · refine ps_pI (by assumption) (by decide) fun M7 h4 => ?_
    refine ps_pI (by assumption) (by decide) fun M8 h5 => ?_
    exact ps_some (by assumption)
theorem PS_X10_hasPlaces {p : xv_M} {a0 : Nat} {M : xv_M} (hM : FQ p M) : PS p (D_X10_hasPlaces a0 M) := by
  unfold D_X10_hasPlaces
  refine ps_gI fun v1 => ?_
  refine ps_gI fun v2 => ?_
  refine ps_cmp ?_ ?_
  · refine ps_g ?_
    exact ps_some (by assumption)
  · refine ps_g ?_
    exact ps_some (by assumption)
theorem PS_X10_goLeft {p : xv_M} {a0 : Nat} {M : xv_M} (hM : FQ p M) : PS p (D_X10_goLeft a0 M) := by
  unfold D_X10_goLeft
  refine ps_gI fun v1 => ?_
  refine ps_pI (by assumption) (by decide) fun M2 h1 => ?_
  refine ps_gI fun v3 => ?_
  refine ps_gI fun v4 => ?_
  refine ps_call ?_ fun z6 M5 h2 => ?_
  · exact PS_X10_halfway (by assumption)
  · refine ps_pI (by assumption) (by decide) fun M7 h3 => ?_
    refine ps_gI fun v8 => ?_
    refine ps_pI (by assumption) (by decide) fun M9 h4 => ?_
    exact ps_some (by assumption)
theorem PS_X10_goRight {p : xv_M} {a0 : Nat} {M : xv_M} (hM : FQ p M) : PS p (D_X10_goRight a0 M) := by
  unfold D_X10_goRight
  refine ps_gI fun v1 => ?_
  refine ps_pI (by assumption) (by decide) fun M2 h1 => ?_
  refine ps_gI fun v3 => ?_
  refine ps_gI fun v4 => ?_
  refine ps_call ?_ fun z6 M5 h2 => ?_
  · exact PS_X10_halfway (by assumption)
  · refine ps_pI (by assumption) (by decide) fun M7 h3 => ?_
    refine ps_gI fun v8 => ?_
    refine ps_pI (by assumption) (by decide) fun M9 h4 => ?_
    exact ps_some (by assumption)
theorem PS_X8_lay {p : xv_M} {a0 : Nat} {a1 : Int} {a2 : Int} {a3 : Int} {M : xv_M} (hM : FQ p M) : PS p (D_X8_lay a0 a1 a2 a3 M) := by
  unfold D_X8_lay
  refine ps_gP fun v1 => ?_
  refine ps_call ?_ fun _ M2 h1 => ?_
  · refine ps_rc ?_
    exact PS_X10_start (by assumption)
  · refine ps_fix (fun s => FQ p s.2) (fun f4 h2 x3 h3 => ?_) _ _ (by assumption)
    refine ps_cmp ?_ ?_
    · exact ps_some (by assumption)
    · refine ps_gP fun v5 => ?_
      refine ps_call ?_ fun z7 M6 h4 => ?_
      · refine ps_rc ?_
        exact PS_X10_hasPlaces (by assumption)
      · refine ps_cmp ?_ ?_
        · exact ps_some (by assumption)
        · refine ps_gP fun v8 => ?_
          refine ps_gI fun v9 => ?_
          refine ps_gP fun v10 => ?_
          refine ps_aI fun v11 => ?_
          refine ps_wI (by assumption) fun M12 h5 => ?_
          refine ps_letp (fun j => ∀ M : xv_M, FQ p M → PS p (j M)) (fun x13 h7 => ?_) (fun j14 h6 => ?_)
          · exact h2 _ (by assumption)
          · refine ps_cmp ?_ ?_
            · refine ps_cmp ?_ ?_
              · refine ps_gP fun v15 => ?_
                refine ps_aI fun v16 => ?_
                refine ps_wI (by assumption) fun M17 h8 => ?_
                refine ps_gP fun v18 => ?_
                refine ps_wI (by assumption) fun M19 h9 => ?_
                refine ps_gP fun v20 => ?_
                refine ps_gP fun v21 => ?_
                refine ps_gI fun v22 => ?_
                refine ps_wI (by assumption) fun M23 h10 => ?_
                exact ps_some (by assumption)
              · refine ps_gP fun v24 => ?_
                refine ps_call ?_ fun _ M25 h11 => ?_
                · refine ps_rc ?_
                  exact PS_X10_goRight (by assumption)
                · exact h6 _ (by assumption)
            · refine ps_gP fun v26 => ?_
              refine ps_call ?_ fun _ M27 h12 => ?_
              · refine ps_rc ?_
                exact PS_X10_goLeft (by assumption)
              · exact h6 _ (by assumption)
theorem PS_X8_build {p : xv_M} {a0 : Nat} {a1 : Nat} {M : xv_M} (hM : FQ p M) : PS p (D_X8_build a0 a1 M) := by
  unfold D_X8_build
  refine ps_gP fun v1 => ?_
  refine ps_call ?_ fun _ M2 h1 => ?_
  · exact PS_J7_fill_53178 (by assumption)
  · refine ps_gP fun v3 => ?_
    refine ps_call ?_ fun _ M4 h2 => ?_
    · exact PS_J7_fill_53178 (by assumption)
    · refine ps_fix (fun s => FQ p s.2) (fun f6 h3 x5 h4 => ?_) _ _ (by assumption)
      refine ps_gI fun v7 => ?_
      refine ps_cmp ?_ ?_
      · exact ps_some (by assumption)
      · refine ps_call ?_ fun z9 M8 h5 => ?_
        · refine ps_rc ?_
          exact PS_X5_isThere (by assumption)
        · refine ps_letp (fun j => ∀ M : xv_M, FQ p M → PS p (j M)) (fun x10 h7 => ?_) (fun j11 h6 => ?_)
          · exact h3 _ (by assumption)
          · refine ps_cmp ?_ ?_
            · exact h6 _ (by assumption)
            · refine ps_gP fun v12 => ?_
              refine ps_aI fun v13 => ?_
              refine ps_gP fun v14 => ?_
              refine ps_aI fun v15 => ?_
              refine ps_call ?_ fun _ M16 h8 => ?_
              · refine ps_rc ?_
                exact PS_X8_lay (by assumption)
              · exact h6 _ (by assumption)
theorem PS_X2_layOut {p : xv_M} {a0 : Nat} {M : xv_M} (hM : FQ p M) : PS p (D_X2_layOut a0 M) := by
  unfold D_X2_layOut
  refine ps_gP fun v1 => ?_
  refine ps_gP fun v2 => ?_
  refine ps_gP fun v3 => ?_
  refine ps_call ?_ fun _ M4 h1 => ?_
  · refine ps_rc ?_
    exact PS_X0_build (by assumption)
  · refine ps_gP fun v5 => ?_
    refine ps_gP fun v6 => ?_
    refine ps_gP fun v7 => ?_
    refine ps_call ?_ fun _ M8 h2 => ?_
    · refine ps_rc ?_
      exact PS_X8_build (by assumption)
    · exact ps_some (by assumption)
theorem PS_X5_append {p : xv_M} {a0 : Nat} {a1 : Int} {a2 : Int} {a3 : Int} {a4 : Int} {M : xv_M} (hM : FQ p M) : PS p (D_X5_append a0 a1 a2 a3 a4 M) := by
  unfold D_X5_append
  refine ps_gI fun v1 => ?_
  refine ps_cmp ?_ ?_
  · refine ps_gI fun v2 => ?_
    refine ps_gI fun v3 => ?_
    refine ps_pI (by assumption) (by decide) fun M4 h1 => ?_
    refine ps_gJ fun v5 => ?_
    refine ps_pJ (by assumption) fun M6 h2 => ?_
    refine ps_gP fun v7 => ?_
    refine ps_wI (by assumption) fun M8 h3 => ?_
    refine ps_gP fun v9 => ?_
    refine ps_wI (by assumption) fun M10 h4 => ?_
    refine ps_gP fun v11 => ?_
    refine ps_letp (fun j => ∀ s, PS p (j s)) (fun x12 => ?_) (fun j13 h5 => ?_)
    · refine ps_wI (by assumption) fun M14 h6 => ?_
      refine ps_gP fun v15 => ?_
      refine ps_cmp ?_ ?_
      · refine ps_wI (by assumption) fun M16 h7 => ?_
        exact ps_some (by assumption)
      · refine ps_wI (by assumption) fun M17 h8 => ?_
        exact ps_some (by assumption)
    · refine ps_cmp ?_ ?_
      · exact h5 _
      · exact h5 _
  · exact ps_some (by assumption)
theorem PS_J9_floorMod_7cf53 {p : xv_M} {a0 : Int} {a1 : Int} {M : xv_M} (hM : FQ p M) : PS p (D_J9_floorMod_7cf53 a0 a1 M) := by
  unfold D_J9_floorMod_7cf53
  refine ps_g ?_
  refine ps_cmp ?_ ?_
  · exact ps_some (by assumption)
  · refine ps_cmp ?_ ?_
    · exact ps_some (by assumption)
    · exact ps_some (by assumption)
theorem PS_X3_write {p : xv_M} {a0 : Nat} {a1 : Int} {a2 : Int} {a3 : Int} {a4 : Int} {M : xv_M} (hM : FQ p M) : PS p (D_X3_write a0 a1 a2 a3 a4 M) := by
  unfold D_X3_write
  refine ps_gI fun v1 => ?_
  refine ps_call ?_ fun z3 M2 h1 => ?_
  · exact PS_J9_floorMod_7cf53 (by assumption)
  · refine ps_pI (by assumption) (by decide) fun M4 h2 => ?_
    refine ps_gP fun v5 => ?_
    refine ps_gI fun v6 => ?_
    refine ps_wI (by assumption) fun M7 h3 => ?_
    refine ps_gP fun v8 => ?_
    refine ps_gI fun v9 => ?_
    refine ps_wI (by assumption) fun M10 h4 => ?_
    refine ps_gP fun v11 => ?_
    refine ps_gI fun v12 => ?_
    refine ps_wI (by assumption) fun M13 h5 => ?_
    refine ps_gP fun v14 => ?_
    refine ps_gI fun v15 => ?_
    refine ps_wI (by assumption) fun M16 h6 => ?_
    refine ps_gI fun v17 => ?_
    refine ps_cmp ?_ ?_
    · exact ps_some (by assumption)
    · refine ps_gI fun v18 => ?_
      refine ps_pI (by assumption) (by decide) fun M19 h7 => ?_
      exact ps_some (by assumption)
theorem PS_X2_tellLeft {p : xv_M} {a0 : Nat} {a1 : Int} {a2 : Int} {M : xv_M} (hM : FQ p M) : PS p (D_X2_tellLeft a0 a1 a2 M) := by
  unfold D_X2_tellLeft
  refine ps_gP fun v1 => ?_
  refine ps_gP fun v2 => ?_
  refine ps_gP fun v3 => ?_
  refine ps_aI fun v4 => ?_
  refine ps_wI (by assumption) fun M5 h1 => ?_
  refine ps_gP fun v6 => ?_
  refine ps_gP fun v7 => ?_
  refine ps_gP fun v8 => ?_
  refine ps_gI fun v9 => ?_
  refine ps_call ?_ fun _ M10 h2 => ?_
  · refine ps_rc ?_
    exact PS_X3_write (by assumption)
  · exact ps_some (by assumption)
theorem PS_X2_tellEntered {p : xv_M} {a0 : Nat} {a1 : Int} {a2 : Int} {M : xv_M} (hM : FQ p M) : PS p (D_X2_tellEntered a0 a1 a2 M) := by
  unfold D_X2_tellEntered
  refine ps_gP fun v1 => ?_
  refine ps_gP fun v2 => ?_
  refine ps_gP fun v3 => ?_
  refine ps_aI fun v4 => ?_
  refine ps_wI (by assumption) fun M5 h1 => ?_
  refine ps_gP fun v6 => ?_
  refine ps_gP fun v7 => ?_
  refine ps_gP fun v8 => ?_
  refine ps_aP fun v9 => ?_
  refine ps_gP fun v10 => ?_
  refine ps_gI fun v11 => ?_
  refine ps_wI (by assumption) fun M12 h2 => ?_
  refine ps_gP fun v13 => ?_
  refine ps_gP fun v14 => ?_
  refine ps_gP fun v15 => ?_
  refine ps_aI fun v16 => ?_
  refine ps_wI (by assumption) fun M17 h3 => ?_
  refine ps_gP fun v18 => ?_
  refine ps_gP fun v19 => ?_
  refine ps_gP fun v20 => ?_
  refine ps_gI fun v21 => ?_
  refine ps_call ?_ fun _ M22 h4 => ?_
  · refine ps_rc ?_
    exact PS_X3_write (by assumption)
  · exact ps_some (by assumption)
theorem PS_X2_tell {p : xv_M} {a0 : Nat} {a1 : Int} {M : xv_M} (hM : FQ p M) : PS p (D_X2_tell a0 a1 M) := by
  unfold D_X2_tell
  refine ps_gP fun v1 => ?_
  refine ps_gP fun v2 => ?_
  refine ps_gP fun v3 => ?_
  refine ps_aJ fun v4 => ?_
  refine ps_gP fun v5 => ?_
  refine ps_gP fun v6 => ?_
  refine ps_gP fun v7 => ?_
  refine ps_gP fun v8 => ?_
  refine ps_aI fun v9 => ?_
  refine ps_call ?_ fun z11 M10 h1 => ?_
  · refine ps_rc ?_
    exact PS_X0_over (by assumption)
  · refine ps_cmp ?_ ?_
    · refine ps_fix (fun s => FQ p s.2) (fun f13 h2 x12 h3 => ?_) _ _ (by assumption)
      refine ps_gP fun v14 => ?_
      refine ps_gP fun v15 => ?_
      refine ps_gI fun v16 => ?_
      refine ps_cmp ?_ ?_
      · refine ps_fix (fun s => FQ p s.2) (fun f18 h4 x17 h5 => ?_) _ _ (by assumption)
        refine ps_gP fun v19 => ?_
        refine ps_gP fun v20 => ?_
        refine ps_gI fun v21 => ?_
        refine ps_cmp ?_ ?_
        · refine ps_gP fun v22 => ?_
          refine ps_gP fun v23 => ?_
          refine ps_gP fun v24 => ?_
          refine ps_wJ (by assumption) fun M25 h6 => ?_
          refine ps_call ?_ fun z27 M26 h7 => ?_
          · exact PS_J13_bitCount_95d88 (by assumption)
          · exact ps_some (by assumption)
        · refine ps_call ?_ fun z29 M28 h8 => ?_
          · exact PS_X11_isMember (by assumption)
          · refine ps_letp (fun j => ∀ M : xv_M, FQ p M → PS p (j M)) (fun x30 h10 => ?_) (fun j31 h9 => ?_)
            · exact h4 _ (by assumption)
            · refine ps_cmp ?_ ?_
              · exact h9 _ (by assumption)
              · refine ps_call ?_ fun _ M32 h11 => ?_
                · refine ps_rc ?_
                  exact PS_X2_tellEntered (by assumption)
                · exact h9 _ (by assumption)
      · refine ps_call ?_ fun z34 M33 h12 => ?_
        · exact PS_X11_isMember (by assumption)
        · refine ps_letp (fun j => ∀ M : xv_M, FQ p M → PS p (j M)) (fun x35 h14 => ?_) (fun j36 h13 => ?_)
          · exact h2 _ (by assumption)
          · refine ps_cmp ?_ ?_
            · exact h13 _ (by assumption)
            · refine ps_call ?_ fun _ M37 h15 => ?_
              · refine ps_rc ?_
                exact PS_X2_tellLeft (by assumption)
              · exact h13 _ (by assumption)
    · exact ps_some (by assumption)
theorem PS_X2_tellAll {p : xv_M} {a0 : Nat} {M : xv_M} (hM : FQ p M) : PS p (D_X2_tellAll a0 M) := by
  unfold D_X2_tellAll
  refine ps_fix (fun s => FQ p s.2.2) (fun f2 h1 x1 h2 => ?_) _ _ (by assumption)
  refine ps_gP fun v3 => ?_
  refine ps_gP fun v4 => ?_
  refine ps_gI fun v5 => ?_
  refine ps_cmp ?_ ?_
  · exact ps_some (by assumption)
  · refine ps_call ?_ fun z7 M6 h3 => ?_
    · refine ps_rc ?_
      exact PS_X2_tell (by assumption)
    · exact h1 _ (by assumption)
theorem PS_X2_addSpan {p : xv_M} {a0 : Nat} {a1 : Int} {a2 : Int} {a3 : Int} {a4 : Int} {M : xv_M} (hM : FQ p M) : PS p (D_X2_addSpan a0 a1 a2 a3 a4 M) := by
  unfold D_X2_addSpan
  refine ps_gP fun v1 => ?_
  refine ps_gP fun v2 => ?_
  refine ps_call ?_ fun z4 M3 h1 => ?_
  · refine ps_rc ?_
    exact PS_X5_append (by assumption)
  · refine ps_call ?_ fun _ M5 h2 => ?_
    · refine ps_rc ?_
      exact PS_X2_layOut (by assumption)
    · refine ps_call ?_ fun z7 M6 h3 => ?_
      · refine ps_rc ?_
        exact PS_X2_tellAll (by assumption)
      · exact ps_some (by assumption)
theorem PS_X5_takeAway {p : xv_M} {a0 : Nat} {a1 : Int} {M : xv_M} (hM : FQ p M) : PS p (D_X5_takeAway a0 a1 M) := by
  unfold D_X5_takeAway
  refine ps_gJ fun v1 => ?_
  refine ps_pJ (by assumption) fun M2 h1 => ?_
  exact ps_some (by assumption)
theorem PS_X2_removeSpan {p : xv_M} {a0 : Nat} {a1 : Int} {M : xv_M} (hM : FQ p M) : PS p (D_X2_removeSpan a0 a1 M) := by
  unfold D_X2_removeSpan
  refine ps_gP fun v1 => ?_
  refine ps_gP fun v2 => ?_
  refine ps_call ?_ fun _ M3 h1 => ?_
  · refine ps_rc ?_
    exact PS_X5_takeAway (by assumption)
  · refine ps_call ?_ fun _ M4 h2 => ?_
    · refine ps_rc ?_
      exact PS_X2_layOut (by assumption)
    · refine ps_call ?_ fun z6 M5 h3 => ?_
      · refine ps_rc ?_
        exact PS_X2_tellAll (by assumption)
      · exact ps_some (by assumption)
theorem PS_X5_shift {p : xv_M} {a0 : Nat} {a1 : Int} {a2 : Int} {M : xv_M} (hM : FQ p M) : PS p (D_X5_shift a0 a1 a2 M) := by
  unfold D_X5_shift
  refine ps_gP fun v1 => ?_
  refine ps_aI fun v2 => ?_
  refine ps_wI (by assumption) fun M3 h1 => ?_
  refine ps_gP fun v4 => ?_
  refine ps_aI fun v5 => ?_
  refine ps_wI (by assumption) fun M6 h2 => ?_
  refine ps_gP fun v7 => ?_
  refine ps_aI fun v8 => ?_
  refine ps_wI (by assumption) fun M9 h3 => ?_
  refine ps_gP fun v10 => ?_
  refine ps_aI fun v11 => ?_
  refine ps_wI (by assumption) fun M12 h4 => ?_
  exact ps_some (by assumption)
theorem PS_X2_moveSpan {p : xv_M} {a0 : Nat} {a1 : Int} {a2 : Int} {M : xv_M} (hM : FQ p M) : PS p (D_X2_moveSpan a0 a1 a2 M) := by
  unfold D_X2_moveSpan
  refine ps_gP fun v1 => ?_
  refine ps_gP fun v2 => ?_
  refine ps_call ?_ fun _ M3 h1 => ?_
  · refine ps_rc ?_
    exact PS_X5_shift (by assumption)
  · refine ps_call ?_ fun _ M4 h2 => ?_
    · refine ps_rc ?_
      exact PS_X2_layOut (by assumption)
    · refine ps_call ?_ fun z6 M5 h3 => ?_
      · refine ps_rc ?_
        exact PS_X2_tellAll (by assumption)
      · exact ps_some (by assumption)
theorem PS_X9_append {p : xv_M} {a0 : Nat} {a1 : Int} {a2 : Int} {M : xv_M} (hM : FQ p M) : PS p (D_X9_append a0 a1 a2 M) := by
  unfold D_X9_append
  refine ps_gI fun v1 => ?_
  refine ps_cmp ?_ ?_
  · refine ps_gI fun v2 => ?_
    refine ps_gI fun v3 => ?_
    refine ps_pI (by assumption) (by decide) fun M4 h1 => ?_
    refine ps_gP fun v5 => ?_
    refine ps_wI (by assumption) fun M6 h2 => ?_
    refine ps_gP fun v7 => ?_
    refine ps_wI (by assumption) fun M8 h3 => ?_
    exact ps_some (by assumption)
  · exact ps_some (by assumption)
theorem PS_X2_addWalker {p : xv_M} {a0 : Nat} {a1 : Int} {a2 : Int} {M : xv_M} (hM : FQ p M) : PS p (D_X2_addWalker a0 a1 a2 M) := by
  unfold D_X2_addWalker
  refine ps_gP fun v1 => ?_
  refine ps_gP fun v2 => ?_
  refine ps_call ?_ fun z4 M3 h1 => ?_
  · refine ps_rc ?_
    exact PS_X9_append (by assumption)
  · refine ps_call ?_ fun z6 M5 h2 => ?_
    · refine ps_rc ?_
      exact PS_X2_tellAll (by assumption)
    · exact ps_some (by assumption)
theorem PS_X2_putWalker {p : xv_M} {a0 : Nat} {a1 : Int} {a2 : Int} {M : xv_M} (hM : FQ p M) : PS p (D_X2_putWalker a0 a1 a2 M) := by
  unfold D_X2_putWalker
  refine ps_gP fun v1 => ?_
  refine ps_gP fun v2 => ?_
  refine ps_gP fun v3 => ?_
  refine ps_wI (by assumption) fun M4 h1 => ?_
  refine ps_call ?_ fun z6 M5 h2 => ?_
  · refine ps_rc ?_
    exact PS_X2_tell (by assumption)
  · exact ps_some (by assumption)
theorem PS_X11_turnsNext {p : xv_M} {a0 : Int} {a1 : Int} {M : xv_M} (hM : FQ p M) : PS p (D_X11_turnsNext a0 a1 M) := by
  unfold D_X11_turnsNext
  refine ps_call ?_ fun z2 M1 h1 => ?_
  · exact PS_X11_isPlace (by assumption)
  · refine ps_cmp ?_ ?_
    · refine ps_g ?_
      exact ps_some (by assumption)
    · refine ps_g ?_
      exact ps_some (by assumption)
theorem PS_X11_nextPlace {p : xv_M} {a0 : Int} {a1 : Int} {M : xv_M} (hM : FQ p M) : PS p (D_X11_nextPlace a0 a1 M) := by
  unfold D_X11_nextPlace
  refine ps_cmp ?_ ?_
  · refine ps_cmp ?_ ?_
    · exact ps_some (by assumption)
    · exact ps_some (by assumption)
  · exact ps_some (by assumption)
theorem PS_X11_nextSpeed {p : xv_M} {a0 : Int} {a1 : Int} {M : xv_M} (hM : FQ p M) : PS p (D_X11_nextSpeed a0 a1 M) := by
  unfold D_X11_nextSpeed
  refine ps_call ?_ fun z2 M1 h1 => ?_
  · exact PS_X11_turnsNext (by assumption)
  · refine ps_cmp ?_ ?_
    · exact ps_some (by assumption)
    · exact ps_some (by assumption)
theorem PS_X9_stepTurns {p : xv_M} {a0 : Nat} {a1 : Int} {M : xv_M} (hM : FQ p M) : PS p (D_X9_stepTurns a0 a1 M) := by
  unfold D_X9_stepTurns
  refine ps_gP fun v1 => ?_
  refine ps_aI fun v2 => ?_
  refine ps_gP fun v3 => ?_
  refine ps_aI fun v4 => ?_
  refine ps_call ?_ fun z6 M5 h1 => ?_
  · exact PS_X11_turnsNext (by assumption)
  · refine ps_gP fun v7 => ?_
    refine ps_call ?_ fun z9 M8 h2 => ?_
    · exact PS_X11_nextPlace (by assumption)
    · refine ps_wI (by assumption) fun M10 h3 => ?_
      refine ps_gP fun v11 => ?_
      refine ps_call ?_ fun z13 M12 h4 => ?_
      · exact PS_X11_nextSpeed (by assumption)
      · refine ps_wI (by assumption) fun M14 h5 => ?_
        refine ps_gP fun v15 => ?_
        refine ps_aI fun v16 => ?_
        refine ps_abs fun v17 => ?_
        refine ps_wI (by assumption) fun M18 h6 => ?_
        refine ps_cmp ?_ ?_
        · refine ps_g ?_
          exact ps_some (by assumption)
        · refine ps_gP fun v19 => ?_
          refine ps_aI fun v20 => ?_
          refine ps_wI (by assumption) fun M21 h7 => ?_
          refine ps_g ?_
          exact ps_some (by assumption)
theorem PS_X2_countTickInside {p : xv_M} {a0 : Nat} {M : xv_M} (hM : FQ p M) : PS p (D_X2_countTickInside a0 M) := by
  unfold D_X2_countTickInside
  refine ps_fix (fun s => FQ p s.2) (fun f2 h1 x1 h2 => ?_) _ _ (by assumption)
  refine ps_gP fun v3 => ?_
  refine ps_gP fun v4 => ?_
  refine ps_gI fun v5 => ?_
  refine ps_cmp ?_ ?_
  · exact ps_some (by assumption)
  · refine ps_fix (fun s => FQ p s.2) (fun f7 h3 x6 h4 => ?_) _ _ (by assumption)
    refine ps_gP fun v8 => ?_
    refine ps_gP fun v9 => ?_
    refine ps_gI fun v10 => ?_
    refine ps_cmp ?_ ?_
    · exact h1 _ (by assumption)
    · refine ps_gP fun v11 => ?_
      refine ps_gP fun v12 => ?_
      refine ps_gP fun v13 => ?_
      refine ps_aJ fun v14 => ?_
      refine ps_call ?_ fun z16 M15 h5 => ?_
      · exact PS_X11_isMember (by assumption)
      · refine ps_letp (fun j => ∀ M : xv_M, FQ p M → PS p (j M)) (fun x17 h7 => ?_) (fun j18 h6 => ?_)
        · exact h3 _ (by assumption)
        · refine ps_cmp ?_ ?_
          · exact h6 _ (by assumption)
          · refine ps_gP fun v19 => ?_
            refine ps_gP fun v20 => ?_
            refine ps_gP fun v21 => ?_
            refine ps_aI fun v22 => ?_
            refine ps_wI (by assumption) fun M23 h8 => ?_
            exact h6 _ (by assumption)
theorem PS_X2_passTick {p : xv_M} {a0 : Nat} {M : xv_M} (hM : FQ p M) : PS p (D_X2_passTick a0 M) := by
  unfold D_X2_passTick
  refine ps_gP fun v1 => ?_
  refine ps_gI fun v2 => ?_
  refine ps_pI (by assumption) (by decide) fun M3 h1 => ?_
  refine ps_fix (fun s => FQ p s.2.2) (fun f5 h2 x4 h3 => ?_) _ _ (by assumption)
  refine ps_gP fun v6 => ?_
  refine ps_gP fun v7 => ?_
  refine ps_gI fun v8 => ?_
  refine ps_cmp ?_ ?_
  · refine ps_call ?_ fun _ M9 h4 => ?_
    · refine ps_rc ?_
      exact PS_X2_countTickInside (by assumption)
    · exact ps_some (by assumption)
  · refine ps_gP fun v10 => ?_
    refine ps_gP fun v11 => ?_
    refine ps_call ?_ fun z13 M12 h5 => ?_
    · refine ps_rc ?_
      exact PS_X9_stepTurns (by assumption)
    · refine ps_letp (fun j => ∀ M : xv_M, FQ p M → PS p (j M)) (fun x14 h7 => ?_) (fun j15 h6 => ?_)
      · refine ps_call ?_ fun z17 M16 h8 => ?_
        · refine ps_rc ?_
          exact PS_X2_tell (by assumption)
        · exact h2 _ (by assumption)
      · refine ps_cmp ?_ ?_
        · exact h6 _ (by assumption)
        · refine ps_gP fun v18 => ?_
          refine ps_gP fun v19 => ?_
          refine ps_gP fun v20 => ?_
          refine ps_gP fun v21 => ?_
          refine ps_gP fun v22 => ?_
          refine ps_aI fun v23 => ?_
          refine ps_gP fun v24 => ?_
          refine ps_gI fun v25 => ?_
          refine ps_call ?_ fun _ M26 h9 => ?_
          · refine ps_rc ?_
            exact PS_X3_write (by assumption)
          · exact h6 _ (by assumption)
