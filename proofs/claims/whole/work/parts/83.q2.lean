/-! ## questions: of a span, of a walker -/
theorem w_r0 {M : xv_M} {a : RW} (h : xl_OK M) (e : xv_I M 189 = a) {T : Type} {f : Int → Option T} : xv_aI M 14 189 0 f = f (a 0) := w_rd h e (i := 0) (by decide)
theorem w_r1 {M : xv_M} {a : RW} (h : xl_OK M) (e : xv_I M 189 = a) {T : Type} {f : Int → Option T} : xv_aI M 14 189 1 f = f (a 1) := w_rd h e (i := 1) (by decide)
theorem w_r2 {M : xv_M} {a : RW} (h : xl_OK M) (e : xv_I M 189 = a) {T : Type} {f : Int → Option T} : xv_aI M 14 189 2 f = f (a 2) := w_rd h e (i := 2) (by decide)
theorem w_r5 {M : xv_M} {a : RW} (h : xl_OK M) (e : xv_I M 189 = a) {T : Type} {f : Int → Option T} : xv_aI M 14 189 5 f = f (a 5) := w_rd h e (i := 5) (by decide)
theorem xi_t {T : Type} {c : Prop} [Decidable c] {d1 d2 : Option T} (h : c) : xv_if c d1 d2 = d1 := if_pos h
theorem xi_f {T : Type} {c : Prop} [Decidable c] {d1 d2 : Option T} (h : ¬ c) : xv_if c d1 d2 = d2 := if_neg h
/-- a loop that may end early -/
theorem xe_invx {σ T : Type} {F : (σ → Option T) → σ → Option T} (I : Nat → σ → Prop) (n : Nat) (P : Option T → Prop) (hs : ∀ k s, k < n → I k s → (∃ s', I (k + 1) s' ∧ ∀ f, F f s = f s') ∨ ∀ f, P (F f s)) (he : ∀ s, I n s → ∀ f, P (F f s)) : ∀ (fuel k : Nat) (s : σ), k ≤ n → n < fuel + k → I k s → P (xv_fix F fuel s)
  | 0, k, s, h1, h2, _ => by omega
  | fuel + 1, k, s, h1, h2, hI => by
    show P (F (xv_fix F fuel) s)
    by_cases hk : k = n
    · subst hk; exact he s hI _
    · rcases hs k s (by omega) hI with ⟨s', h3, h4⟩ | h
      · rw [h4]
        exact xe_invx I n P hs he fuel (k + 1) s' (by omega) (by omega) h3
      · exact h _
theorem xe_invx0 {σ T : Type} {F : (σ → Option T) → σ → Option T} (I : Nat → σ → Prop) (n : Nat) (P : Option T → Prop) {s : σ} (hn : n < 10000) (h0 : I 0 s) (hs : ∀ k s, k < n → I k s → (∃ s', I (k + 1) s' ∧ ∀ f, F f s = f s') ∨ ∀ f, P (F f s)) (he : ∀ s, I n s → ∀ f, P (F f s)) : P (xv_fix F xv_fuel s) := xe_invx I n P hs he xv_fuel 0 s (by omega) (by unfold xv_fuel; omega) h0
theorem xct_s {p : Nat → Bool} {n : Nat} : (xct p (n + 1) : Int) = (xct p n : Int) + (if p n = true then 1 else 0) := by
  show ((xct p n + (if p n = true then 1 else 0) : Nat) : Int) = _
  split <;> omega
/-- how many walkers are inside of s; of how many spans walker w -/
def rGst (a : RW) (s : Nat) : Int := (xct (fun w => decide (rIn a w s)) (rm a) : Int)
def rHou (a : RW) (w : Nat) : Int := (xct (fun s => decide (rIn a w s)) (rn a) : Int)
theorem xm_countInside {M : xv_M} {a : RW} (h : LN a M) (g : rGd a) {s : Nat} (hs : s < rn a) : D_X9_countInside 11 (s : Int) M = some (rGst a s, M) := by
  have hO := h.1.1
  have hm := g.m
  have hn := g.n
  have em := g.em
  have hz : xv_I M 11 0 = a 2 := h.1.2.2.2.1.1
  unfold D_X9_countInside rGst
  refine xe_loop (n := rm a) (fun k => ((xct (fun w => decide (rIn a w s)) k : Int), (k : Int), M)) rfl (by omega) ?_ ?_
  · intro w hw f
    have ek : ((w : Int) + 1) = ((w + 1 : Nat) : Int) := by omega
    have hb := h.2.1.1 w hw s (by omega)
    have hb' : xb (xv_J M 14 w) s = decide (s < rn a ∧ 0 < a (462 + 60 * w + s)) := hb
    dsimp only
    rw [xg_11_0 hO, hz, xe_cmp (by omega) (by omega) (by omega) (by omega), if_neg (by omega), xg_11_3 hO, xa_14 hO (by omega) (by omega), Int.toNat_natCast, xm_isMember (by omega), xe_call, xe_let, xe_b0, hb', xct_s, ek]
    by_cases c : 0 < a (462 + 60 * w + s)
    · rw [if_pos (decide_eq_true ⟨hs, c⟩), if_pos (decide_eq_true c)]
    · rw [if_neg (fun z => c (of_decide_eq_true z).2), if_neg (fun z => c (of_decide_eq_true z)), Int.add_zero]
  · intro f
    dsimp only
    rw [xg_11_0 hO, hz, xe_cmp (by omega) (by omega) (by omega) (by omega), if_pos (by omega)]
theorem md_guests {M : xv_M} {a : RW} (h : xl_OK M) (e : xv_I M 189 = a) (g : rGd a) {s : Nat} (hs : s < 60) : D_X12_guests 188 (s : Int) M = some (rGst a s, M) := by
  have hm := g.m
  have em := g.em
  unfold D_X12_guests rGst
  refine xe_loop (n := rm a) (fun k => ((xct (fun w => decide (rIn a w s)) k : Int), (k : Int), M)) rfl (by omega) ?_ ?_
  · intro w hw f
    have ek : ((w : Int) + 1) = ((w + 1 : Nat) : Int) := by omega
    dsimp only
    rw [xg_188_0 h, w_r2 h e, xe_cmp (by omega) (by omega) (by omega) (by omega), if_neg (by omega), xr_188 h, w_ins h e g (by omega) hs, xe_call, xe_let, xe_b0, xct_s, ek]
    by_cases c : rIn a w s
    · rw [if_pos c, if_pos (decide_eq_true c)]
    · rw [if_neg c, if_neg (fun z => c (of_decide_eq_true z))]
  · intro f
    dsimp only
    rw [xg_188_0 h, w_r2 h e, xe_cmp (by omega) (by omega) (by omega) (by omega), if_pos (by omega)]
theorem md_houses {M : xv_M} {a : RW} (h : xl_OK M) (e : xv_I M 189 = a) (g : rGd a) {w : Nat} (hw : w < 6) : D_X12_houses 188 (w : Int) M = some (rHou a w, M) := by
  have hn := g.n
  have en := g.en
  unfold D_X12_houses rHou
  refine xe_loop (n := rn a) (fun k => ((xct (fun s => decide (rIn a w s)) k : Int), (k : Int), M)) rfl (by omega) ?_ ?_
  · intro s hs f
    have ek : ((s : Int) + 1) = ((s + 1 : Nat) : Int) := by omega
    dsimp only
    rw [xg_188_0 h, w_r1 h e, xe_cmp (by omega) (by omega) (by omega) (by omega), if_neg (by omega), xr_188 h, w_ins h e g hw (by omega), xe_call, xe_let, xe_b0, xct_s, ek]
    by_cases c : rIn a w s
    · rw [if_pos c, if_pos (decide_eq_true c)]
    · rw [if_neg c, if_neg (fun z => c (of_decide_eq_true z))]
  · intro f
    dsimp only
    rw [xg_188_0 h, w_r1 h e, xe_cmp (by omega) (by omega) (by omega) (by omega), if_pos (by omega)]
/-! the span that a walker entered longest ago -/
def rLg (a : RW) (w : Nat) : Nat → Int
  | 0 => -5
  | k + 1 => if rIn a w k ∧ (rLg a w k = -5 ∨ a (462 + 60 * w + k) < a (462 + 60 * w + (rLg a w k).toNat)) then (k : Int) else rLg a w k
theorem rLg_ok {a : RW} {w : Nat} : ∀ k, rLg a w k = -5 ∨ (0 ≤ rLg a w k ∧ rLg a w k < (k : Int) ∧ rIn a w (rLg a w k).toNat)
  | 0 => Or.inl rfl
  | k + 1 => by
    have ih := rLg_ok (a := a) (w := w) k
    show (if _ then _ else _ : Int) = -5 ∨ (0 ≤ (if _ then _ else _ : Int) ∧ (if _ then _ else _ : Int) < _ ∧ rIn a w (if _ then _ else _ : Int).toNat)
    by_cases c : rIn a w k ∧ (rLg a w k = -5 ∨ a (462 + 60 * w + k) < a (462 + 60 * w + (rLg a w k).toNat))
    · rw [if_pos c, Int.toNat_natCast]
      exact Or.inr ⟨by omega, by omega, c.1⟩
    · rw [if_neg c]
      rcases ih with ih | ih
      · exact Or.inl ih
      · exact Or.inr ⟨ih.1, by omega, ih.2.2⟩
theorem rLg_up {a : RW} {w n : Nat} : ∀ d, (∀ s, n ≤ s → s < n + d → ¬ rIn a w s) → rLg a w (n + d) = rLg a w n
  | 0, _ => rfl
  | d + 1, h => by
    show (if _ then _ else _ : Int) = _
    rw [if_neg (fun z => h (n + d) (by omega) (by omega) z.1)]
    exact rLg_up d (fun s h1 h2 => h s h1 (by omega))
theorem xm_oldestSpan {M : xv_M} {a : RW} (h : LN a M) (g : rRW a) {w : Nat} (hw : w < rm a) : D_X9_oldestSpan 11 (w : Int) M = some (rLg a w (rn a), M) := by
  have hO := h.1.1
  have hm := g.1.1.m
  have hn := g.1.1.n
  have hw6 : w < 6 := by omega
  have gi := g.1.1.2.2.2.1.2.2.2.2.2.2
  have g0 := g.1.1.1
  have hu : rLg a w 60 = rLg a w (rn a) := by
    obtain ⟨d, hd⟩ : ∃ d, 60 = rn a + d := ⟨60 - rn a, by omega⟩
    rw [hd]
    exact rLg_up d (fun s h1 h2 z => by
      have := g.1.2.2.2 w s hw6 (by omega) h1
      unfold rIn at z
      omega)
  rw [← hu]
  unfold D_X9_oldestSpan
  refine xe_loop (n := 60) (fun k => (rLg a w k, (if rLg a w k = -5 then 10000 else a (462 + 60 * w + (rLg a w k).toNat) - 1), (k : Int), M)) rfl (by omega) ?_ ?_
  · intro s hs f
    have ek : ((s : Int) + 1) = ((s + 1 : Nat) : Int) := by omega
    have hb' : xb (xv_J M 14 w) s = decide (s < rn a ∧ 0 < a (462 + 60 * w + s)) := h.2.1.1 w hw s (by omega)
    have hk := rLg_ok (a := a) (w := w) s
    have gs := gi w s hw6 hs
    obtain ⟨r, hr⟩ : ∃ r : Int, r = rLg a w s := ⟨_, rfl⟩
    have hsr : rLg a w (s + 1) = if rIn a w s ∧ (r = -5 ∨ a (462 + 60 * w + s) < a (462 + 60 * w + r.toNat)) then (s : Int) else r := by rw [hr]; rfl
    rw [hsr]
    dsimp only
    rw [← hr] at hk ⊢
    rw [xe_cmp (by omega) (by omega) (by decide) (by decide), if_neg (by omega), xg_11_3 hO, xa_14 hO (by omega) (by omega), Int.toNat_natCast, xm_isMember (by omega), xe_call, xe_let, xe_b0, hb', ek]
    by_cases c : s < rn a ∧ 0 < a (462 + 60 * w + s)
    · have e20 : xv_I M (20 + w) s = a (462 + 60 * w + s) - 1 := by
        have := h.1.2.2.2.2.2 w s hw c.1 c.2
        rw [show 3 + 17 + w = 20 + w by omega] at this
        exact this
      rw [if_pos (decide_eq_true c), xg_11_8 hO, xa_19 hO (by omega) (by omega), Int.toNat_natCast, xa_20s hO hw6 (by omega) (by omega), Int.toNat_natCast, e20, xg_11_8 hO, xa_19 hO (by omega) (by omega), Int.toNat_natCast, xa_20s hO hw6 (by omega) (by omega), Int.toNat_natCast, e20]
      by_cases c2 : r = -5
      · rw [if_pos c2, xe_cmp (by omega) (by omega) (by omega) (by omega), if_neg (by omega), if_pos ⟨c.2, Or.inl c2⟩, if_neg (by omega), Int.toNat_natCast]
      · have hk2 : 0 ≤ r ∧ r < (s : Int) ∧ rIn a w r.toNat := by
          rcases hk with hk | hk
          · exact absurd hk c2
          · exact hk
        have gr := gi w r.toNat hw6 (by omega)
        rw [if_neg c2, xe_cmp (by omega) (by omega) (by omega) (by omega)]
        by_cases c3 : a (462 + 60 * w + s) < a (462 + 60 * w + r.toNat)
        · rw [if_neg (by omega), if_pos ⟨c.2, Or.inr c3⟩, if_neg (by omega), Int.toNat_natCast]
        · rw [if_pos (by omega), if_neg (fun z => by rcases z.2 with z | z; exact c2 z; exact c3 z), if_neg c2]
    · have c2 : ¬ rIn a w s := fun z => by
        by_cases hl : s < rn a
        · exact c ⟨hl, z⟩
        · have := g.1.2.2.2 w s hw6 hs (by omega)
          unfold rIn at z
          omega
      rw [if_neg (fun z => c (of_decide_eq_true z)), if_neg (show ¬ (rIn a w s ∧ (r = -5 ∨ a (462 + 60 * w + s) < a (462 + 60 * w + r.toNat))) from fun z => c2 z.1)]
  · intro f
    dsimp only
    rw [xe_cmp (by decide) (by decide) (by decide) (by decide), if_pos (by decide)]
theorem md_longest {M : xv_M} {a : RW} (h : xl_OK M) (e : xv_I M 189 = a) (g : rGd a) {w : Nat} (hw : w < 6) : D_X12_longest 188 (w : Int) M = some (rLg a w (rn a), M) := by
  have hn := g.n
  have en := g.en
  have g0 := g.1
  have gi := g.2.2.2.1.2.2.2.2.2.2
  unfold D_X12_longest
  refine xe_loop (n := rn a) (fun k => (rLg a w k, (k : Int), M)) rfl (by omega) ?_ ?_
  · intro s hs f
    have ek : ((s : Int) + 1) = ((s + 1 : Nat) : Int) := by omega
    have hk := rLg_ok (a := a) (w := w) s
    have gs := gi w s hw (by omega)
    obtain ⟨r, hr⟩ : ∃ r : Int, r = rLg a w s := ⟨_, rfl⟩
    have hsr : rLg a w (s + 1) = if rIn a w s ∧ (r = -5 ∨ a (462 + 60 * w + s) < a (462 + 60 * w + r.toNat)) then (s : Int) else r := by rw [hr]; rfl
    rw [hsr]
    dsimp only
    rw [← hr] at hk ⊢
    rw [xg_188_0 h, w_r1 h e, xe_cmp (by omega) (by omega) (by omega) (by omega), if_neg (by omega), xr_188 h, w_ins h e g hw (by omega), xe_call, xe_let, xe_b0, ek]
    by_cases c : rIn a w s
    · rw [if_pos c, xe_let]
      by_cases c2 : r = -5
      · rw [xe_cmp (by omega) (by omega) (by decide) (by decide), if_pos c2, if_pos ⟨c, Or.inl c2⟩]
      · have hk2 : 0 ≤ r ∧ r < (s : Int) ∧ rIn a w r.toNat := by
          rcases hk with hk | hk
          · exact absurd hk c2
          · exact hk
        have gr := gi w r.toNat hw (by omega)
        have i1 : ((462 : Int) + 60 * (w : Int) + (s : Int)) = ((462 + 60 * w + s : Nat) : Int) := by omega
        have i2 : ((462 : Int) + 60 * (w : Int) + r) = ((462 + 60 * w + r.toNat : Nat) : Int) := by omega
        rw [xe_cmp (by omega) (by omega) (by decide) (by decide), if_neg c2, xg_188_0 h, i1, w_rd h e (by omega), xg_188_0 h, i2, w_rd h e (by omega), xe_cmp (by omega) (by omega) (by omega) (by omega)]
        by_cases c3 : a (462 + 60 * w + s) < a (462 + 60 * w + r.toNat)
        · rw [if_neg (by omega), if_pos ⟨c, Or.inr c3⟩]
        · rw [if_pos (by omega), if_neg (fun z => by rcases z.2 with z | z; exact c2 z; exact c3 z)]
    · rw [if_neg c, if_neg (fun z => c z.1)]
  · intro f
    dsimp only
    rw [xg_188_0 h, w_r1 h e, xe_cmp (by omega) (by omega) (by omega) (by omega), if_pos (by omega)]
def rSpV (a : RW) (s : Nat) (t : Int) : Int := if t = 0 then a (6 + 7 * s + 0) else (if t = 1 then a (6 + 7 * s + 1) else (if t = 2 then a (6 + 7 * s + 2) else (if t = 3 then a (6 + 7 * s + 3) else (if t = 4 then tmid (rF a s) (rG a s) else (if t = 5 then (tdep (rF a s) (rG a s) : Int) else (if t = 6 then rGst a s else (if t = 7 then a (6 + 7 * s + 5) else (if t = 8 then a (6 + 7 * s + 6) else -2))))))))
def rSpQ (a : RW) (x t : Int) : Int := if 0 ≤ x ∧ x < a 1 ∧ a (6 + 7 * x.toNat + 4) = 1 then rSpV a x.toNat t else -1
theorem xc_span {a H : RW} {k : Nat} {M : xv_M} (h : CLh a H k M) {x t : Int} (hx : iR x) (ht : iR t) : ∃ M', D_X11_span 1 x t M = some (rSpQ a x t, M') ∧ Scr M M' := by
  refine ⟨M, ?_, Scr.rf⟩
  have hO := h.1.1.1
  have g := h.2.1
  have en := g.1.1.en
  unfold D_X11_span rSpQ
  rw [xg_1_0 hO, xg_2_0 hO, xg_3_1 hO, xr_4 hO, xm_has5 hO h.1.1.2.2.1 g.1.1.2.1 hx, xe_call, xe_b1]
  by_cases c : 0 ≤ x ∧ x < a 1 ∧ a (6 + 7 * x.toNat + 4) = 1
  · rw [if_pos c, if_pos c, xe_g (xe_inb ht.1 ht.2)]
    obtain ⟨s, rfl⟩ : ∃ s : Nat, x = (s : Int) := ⟨x.toNat, by omega⟩
    rw [Int.toNat_natCast] at c ⊢
    have hs : s < rn a := by omega
    have hn := g.1.1.n
    obtain ⟨r1, r2, r3, r4, r5, r6⟩ := h.1.1.2.2.1.2.2.1 s hs
    obtain ⟨t1, t2⟩ := h.1.2.2.2.1 s hs c.2.2
    unfold rSpV
    have hc : t = 0 ∨ t = 1 ∨ t = 2 ∨ t = 3 ∨ t = 4 ∨ t = 5 ∨ t = 6 ∨ t = 7 ∨ t = 8 ∨ (t ≠ 0 ∧ t ≠ 1 ∧ t ≠ 2 ∧ t ≠ 3 ∧ t ≠ 4 ∧ t ≠ 5 ∧ t ≠ 6 ∧ t ≠ 7 ∧ t ≠ 8) := by omega
    rcases hc with rfl | rfl | rfl | rfl | rfl | rfl | rfl | rfl | rfl | hc
    · rw [xi_t rfl, xg_4_2 hO, xa_5 hO (by omega) (by omega), Int.toNat_natCast, if_pos rfl]
      exact congrArg (fun q => some (q, M)) r1
    · rw [xi_f (by decide), xi_t rfl, xg_4_3 hO, xa_6 hO (by omega) (by omega), Int.toNat_natCast, if_neg (by decide), if_pos rfl]
      exact congrArg (fun q => some (q, M)) r2
    · rw [xi_f (by decide), xi_f (by decide), xi_t rfl, xg_4_4 hO, xa_7 hO (by omega) (by omega), Int.toNat_natCast, if_neg (by decide), if_neg (by decide), if_pos rfl]
      exact congrArg (fun q => some (q, M)) r3
    · rw [xi_f (by decide), xi_f (by decide), xi_f (by decide), xi_t rfl, xg_4_5 hO, xa_8 hO (by omega) (by omega), Int.toNat_natCast, if_neg (by decide), if_neg (by decide), if_neg (by decide), if_pos rfl]
      exact congrArg (fun q => some (q, M)) r4
    · rw [xi_f (by decide), xi_f (by decide), xi_f (by decide), xi_f (by decide), xi_t rfl, xg_1_0 hO, xg_2_2 hO, xg_33_0 hO, xa_34 hO (by omega) (by omega), Int.toNat_natCast, if_neg (by decide), if_neg (by decide), if_neg (by decide), if_neg (by decide), if_pos rfl, t1]
    · rw [xi_f (by decide), xi_f (by decide), xi_f (by decide), xi_f (by decide), xi_f (by decide), xi_t rfl, xg_1_0 hO, xg_2_2 hO, xg_33_1 hO, xa_35 hO (by omega) (by omega), Int.toNat_natCast, if_neg (by decide), if_neg (by decide), if_neg (by decide), if_neg (by decide), if_neg (by decide), if_pos rfl, t2]
    · rw [xi_f (by decide), xi_f (by decide), xi_f (by decide), xi_f (by decide), xi_f (by decide), xi_f (by decide), xi_t rfl, xg_1_0 hO, xg_2_0 hO, xg_3_2 hO, xr_11 hO, xm_countInside h.1 g.1.1 hs, xe_call, if_neg (by decide), if_neg (by decide), if_neg (by decide), if_neg (by decide), if_neg (by decide), if_neg (by decide), if_pos rfl]
    · rw [xi_f (by decide), xi_f (by decide), xi_f (by decide), xi_f (by decide), xi_f (by decide), xi_f (by decide), xi_f (by decide), xi_t rfl, xg_4_6 hO, xa_9 hO (by omega) (by omega), Int.toNat_natCast, if_neg (by decide), if_neg (by decide), if_neg (by decide), if_neg (by decide), if_neg (by decide), if_neg (by decide), if_neg (by decide), if_pos rfl]
      exact congrArg (fun q => some (q, M)) r5
    · rw [xi_f (by decide), xi_f (by decide), xi_f (by decide), xi_f (by decide), xi_f (by decide), xi_f (by decide), xi_f (by decide), xi_f (by decide), xi_t rfl, xg_4_7 hO, xa_10 hO (by omega) (by omega), Int.toNat_natCast, if_neg (by decide), if_neg (by decide), if_neg (by decide), if_neg (by decide), if_neg (by decide), if_neg (by decide), if_neg (by decide), if_neg (by decide), if_pos rfl]
      exact congrArg (fun q => some (q, M)) r6
    · rw [xi_f hc.1, xi_f hc.2.1, xi_f hc.2.2.1, xi_f hc.2.2.2.1, xi_f hc.2.2.2.2.1, xi_f hc.2.2.2.2.2.1, xi_f hc.2.2.2.2.2.2.1, xi_f hc.2.2.2.2.2.2.2.1, xi_f hc.2.2.2.2.2.2.2.2, if_neg hc.1, if_neg hc.2.1, if_neg hc.2.2.1, if_neg hc.2.2.2.1, if_neg hc.2.2.2.2.1, if_neg hc.2.2.2.2.2.1, if_neg hc.2.2.2.2.2.2.1, if_neg hc.2.2.2.2.2.2.2.1, if_neg hc.2.2.2.2.2.2.2.2]
  · rw [if_neg c, if_neg c]
theorem md_span {M : xv_M} {a : RW} (h : xl_OK M) (g : rRW a) (e : xv_I M 189 = a) {x t : Int} (hx : iR x) (ht : iR t) : ∃ M', D_X12_span 188 x t M = some (rSpQ a x t, M') ∧ Scr M M' := by
  have en := g.1.1.en
  unfold D_X12_span rSpQ
  rw [xr_188 h, w_noSpan h e g.1.1 hx, xe_call]
  by_cases c : 0 ≤ x ∧ x < a 1 ∧ a (6 + 7 * x.toNat + 4) = 1
  · rw [if_pos c, if_pos c, xe_cmp (by decide) (by decide) (by decide) (by decide), if_pos rfl, xe_g (xe_inb ht.1 ht.2)]
    obtain ⟨s, rfl⟩ : ∃ s : Nat, x = (s : Int) := ⟨x.toNat, by omega⟩
    rw [Int.toNat_natCast] at c ⊢
    have hs : s < rn a := by omega
    have hn := g.1.1.n
    have hs6 : s < 60 := by omega
    obtain ⟨N, d, ⟨f1, f2, f3, f4, f5⟩, _, _⟩ := md_finds h e hs6 (g.1.2.1.pl s hs c.2.2) (m := 0) (Or.inl rfl)
    have oN : xl_OK N := ⟨f1.trans h.1, fun r j hr => by show N.2.2.2 r j = _; rw [f2]; exact h.2 r j hr⟩
    have sN : Scr M N := ⟨f1, f2, fun r j hr => f3 r j (by omega)⟩
    unfold rSpV
    have hc : t = 0 ∨ t = 1 ∨ t = 2 ∨ t = 3 ∨ t = 4 ∨ t = 5 ∨ t = 6 ∨ t = 7 ∨ t = 8 ∨ (t ≠ 0 ∧ t ≠ 1 ∧ t ≠ 2 ∧ t ≠ 3 ∧ t ≠ 4 ∧ t ≠ 5 ∧ t ≠ 6 ∧ t ≠ 7 ∧ t ≠ 8) := by omega
    rcases hc with rfl | rfl | rfl | rfl | rfl | rfl | rfl | rfl | rfl | hc
    · rw [xi_t rfl, xr_188 h, show D_X12_of 188 (s : Int) 0 M = _ from w_of h e hs6 (j := 0) (by decide), xe_call, if_pos rfl]
      exact ⟨M, rfl, Scr.rf⟩
    · rw [xi_f (by decide), xi_t rfl, xr_188 h, show D_X12_of 188 (s : Int) 1 M = _ from w_of h e hs6 (j := 1) (by decide), xe_call, if_neg (by decide), if_pos rfl]
      exact ⟨M, rfl, Scr.rf⟩
    · rw [xi_f (by decide), xi_f (by decide), xi_t rfl, xr_188 h, show D_X12_of 188 (s : Int) 2 M = _ from w_of h e hs6 (j := 2) (by decide), xe_call, if_neg (by decide), if_neg (by decide), if_pos rfl]
      exact ⟨M, rfl, Scr.rf⟩
    · rw [xi_f (by decide), xi_f (by decide), xi_f (by decide), xi_t rfl, xr_188 h, show D_X12_of 188 (s : Int) 3 M = _ from w_of h e hs6 (j := 3) (by decide), xe_call, if_neg (by decide), if_neg (by decide), if_neg (by decide), if_pos rfl]
      exact ⟨M, rfl, Scr.rf⟩
    · rw [xi_f (by decide), xi_f (by decide), xi_f (by decide), xi_f (by decide), xi_t rfl, xr_188 h, d, xe_call, xg_188_13 oN, f4, if_neg (by decide), if_neg (by decide), if_neg (by decide), if_neg (by decide), if_pos rfl]
      exact ⟨N, rfl, sN⟩
    · rw [xi_f (by decide), xi_f (by decide), xi_f (by decide), xi_f (by decide), xi_f (by decide), xi_t rfl, xr_188 h, d, xe_call, xg_188_14 oN, f5, if_neg (by decide), if_neg (by decide), if_neg (by decide), if_neg (by decide), if_neg (by decide), if_pos rfl]
      exact ⟨N, rfl, sN⟩
    · rw [xi_f (by decide), xi_f (by decide), xi_f (by decide), xi_f (by decide), xi_f (by decide), xi_f (by decide), xi_t rfl, xr_188 h, md_guests h e g.1.1 hs6, xe_call, if_neg (by decide), if_neg (by decide), if_neg (by decide), if_neg (by decide), if_neg (by decide), if_neg (by decide), if_pos rfl]
      exact ⟨M, rfl, Scr.rf⟩
    · rw [xi_f (by decide), xi_f (by decide), xi_f (by decide), xi_f (by decide), xi_f (by decide), xi_f (by decide), xi_f (by decide), xi_t rfl, xr_188 h, show D_X12_of 188 (s : Int) 5 M = _ from w_of h e hs6 (j := 5) (by decide), xe_call, if_neg (by decide), if_neg (by decide), if_neg (by decide), if_neg (by decide), if_neg (by decide), if_neg (by decide), if_neg (by decide), if_pos rfl]
      exact ⟨M, rfl, Scr.rf⟩
    · rw [xi_f (by decide), xi_f (by decide), xi_f (by decide), xi_f (by decide), xi_f (by decide), xi_f (by decide), xi_f (by decide), xi_f (by decide), xi_t rfl, xr_188 h, show D_X12_of 188 (s : Int) 6 M = _ from w_of h e hs6 (j := 6) (by decide), xe_call, if_neg (by decide), if_neg (by decide), if_neg (by decide), if_neg (by decide), if_neg (by decide), if_neg (by decide), if_neg (by decide), if_neg (by decide), if_pos rfl]
      exact ⟨M, rfl, Scr.rf⟩
    · rw [xi_f hc.1, xi_f hc.2.1, xi_f hc.2.2.1, xi_f hc.2.2.2.1, xi_f hc.2.2.2.2.1, xi_f hc.2.2.2.2.2.1, xi_f hc.2.2.2.2.2.2.1, xi_f hc.2.2.2.2.2.2.2.1, xi_f hc.2.2.2.2.2.2.2.2, if_neg hc.1, if_neg hc.2.1, if_neg hc.2.2.1, if_neg hc.2.2.2.1, if_neg hc.2.2.2.2.1, if_neg hc.2.2.2.2.2.1, if_neg hc.2.2.2.2.2.2.1, if_neg hc.2.2.2.2.2.2.2.1, if_neg hc.2.2.2.2.2.2.2.2]
      exact ⟨M, rfl, Scr.rf⟩
  · rw [if_neg c, if_neg c, xe_cmp (by decide) (by decide) (by decide) (by decide), if_neg (by decide)]
    exact ⟨M, rfl, Scr.rf⟩
theorem ok_span {M : xv_M} (hi : INV M) {x t : Int} (hx : iR x) (ht : iR t) : ok2 (D_X11_span 1 x t) (D_X12_span 188 x t) M := ok_q hi (A := fun a => rSpQ a x t) (fun a H k c => xc_span c hx ht) (fun M a h g e => md_span h g e hx ht)
def rWkV (a : RW) (w : Nat) (t : Int) : Int := if t = 0 then a (426 + 6 * w + 0) else (if t = 1 then 1000 + a (426 + 6 * w + 1) else (if t = 2 then rHou a w else (if t = 3 then a (426 + 6 * w + 2) else (if t = 4 then a (426 + 6 * w + 3) else (if t = 5 then (if rLg a w (rn a) = -5 then -5 else a 0 + 1 - a (462 + 60 * w + (rLg a w (rn a)).toNat)) else (if t = 6 then rLg a w (rn a) else (if t = 7 then a (426 + 6 * w + 4) else (if t = 8 then a (426 + 6 * w + 5) else -2))))))))
def rWkQ (a : RW) (x t : Int) : Int := if 0 ≤ x ∧ x < a 2 then rWkV a x.toNat t else -1
theorem xm_ticksInOldest {M : xv_M} {a : RW} (h : LN a M) (g : rRW a) {w : Nat} (hw : w < rm a) : D_X11_ticksInOldest 1 (w : Int) M = some (if rLg a w (rn a) = -5 then -5 else a 0 + 1 - a (462 + 60 * w + (rLg a w (rn a)).toNat), M) := by
  have hO := h.1.1
  have hm := g.1.1.m
  have hn := g.1.1.n
  have hk := rLg_ok (a := a) (w := w) (rn a)
  have ht : xv_I M 3 0 = a 0 := h.1.2.1
  unfold D_X11_ticksInOldest
  rw [xg_1_0 hO, xg_2_0 hO, xg_3_2 hO, xr_11 hO, xm_oldestSpan h g hw, xe_call, xe_cmp (by omega) (by omega) (by decide) (by decide)]
  by_cases c : rLg a w (rn a) = -5
  · rw [if_neg (fun z => z c), if_pos c]
  · have hk2 : 0 ≤ rLg a w (rn a) ∧ rLg a w (rn a) < (rn a : Int) ∧ rIn a w (rLg a w (rn a)).toNat := by
      rcases hk with hk | hk
      · exact absurd hk c
      · exact hk
    have e20 := h.1.2.2.2.2.2 w (rLg a w (rn a)).toNat hw (by omega) hk2.2.2
    rw [show 3 + 17 + w = 20 + w by omega] at e20
    rw [if_pos c, if_neg c, xg_1_0 hO, xg_2_0 hO, xg_3_0 hO, ht, xg_11_8 hO, xa_19 hO (by omega) (by omega), Int.toNat_natCast, xa_20s hO (by omega) (by omega) (by omega), e20]
    refine congrArg (fun q => some (q, M)) ?_
    omega
theorem xpc_in (hbc : BC) {M : xv_M} {a : RW} (h : LN a M) (g : rGd a) {w : Nat} (hw : w < rm a) : D_J13_bitCount_95d88 (xv_J M 14 w) M = some (rHou a w, M) := by
  have hn := g.n
  rw [hbc]
  unfold rHou
  rw [xpc_n (p := fun s => decide (rIn a w s)) (n := rn a) (by omega) (fun s hs => by
    have : xb (xv_J M 14 w) s = decide (s < rn a ∧ 0 < a (462 + 60 * w + s)) := h.2.1.1 w hw s hs
    rw [this]
    simp [rIn])]
theorem xc_walker (hbc : BC) {a H : RW} {k : Nat} {M : xv_M} (h : CLh a H k M) {x t : Int} (hx : iR x) (ht : iR t) : ∃ M', D_X11_walker 1 x t M = some (rWkQ a x t, M') ∧ Scr M M' := by
  refine ⟨M, ?_, Scr.rf⟩
  have hO := h.1.1.1
  have g := h.2.1
  have em := g.1.1.em
  unfold D_X11_walker rWkQ
  rw [xg_1_0 hO, xg_2_0 hO, xg_3_2 hO, xr_11 hO, xm_has9 hO h.1.1.2.2.2.1 g.1.1.2.2.1 hx, xe_call, xe_b1]
  by_cases c : 0 ≤ x ∧ x < a 2
  · rw [if_pos c, if_pos c, xe_g (xe_inb ht.1 ht.2)]
    obtain ⟨w, rfl⟩ : ∃ w : Nat, x = (w : Int) := ⟨x.toNat, by omega⟩
    rw [Int.toNat_natCast]
    have hw : w < rm a := by omega
    have hm := g.1.1.m
    obtain ⟨r1, r2, r3, r4, r5, r6⟩ := h.1.1.2.2.2.1.2.1 w hw
    have r2' : xv_I M 13 w = a (426 + 6 * w + 1) := r2
    unfold rWkV
    have hc : t = 0 ∨ t = 1 ∨ t = 2 ∨ t = 3 ∨ t = 4 ∨ t = 5 ∨ t = 6 ∨ t = 7 ∨ t = 8 ∨ (t ≠ 0 ∧ t ≠ 1 ∧ t ≠ 2 ∧ t ≠ 3 ∧ t ≠ 4 ∧ t ≠ 5 ∧ t ≠ 6 ∧ t ≠ 7 ∧ t ≠ 8) := by omega
    rcases hc with rfl | rfl | rfl | rfl | rfl | rfl | rfl | rfl | rfl | hc
    · rw [xi_t rfl, xg_11_1 hO, xa_12 hO (by omega) (by omega), Int.toNat_natCast, if_pos rfl]
      exact congrArg (fun q => some (q, M)) r1
    · rw [xi_f (by decide), xi_t rfl, xg_11_2 hO, xa_13 hO (by omega) (by omega), Int.toNat_natCast, r2', if_neg (by decide), if_pos rfl]
    · rw [xi_f (by decide), xi_f (by decide), xi_t rfl, xg_11_3 hO, xa_14 hO (by omega) (by omega), Int.toNat_natCast, xpc_in hbc h.1 g.1.1 hw, xe_call, if_neg (by decide), if_neg (by decide), if_pos rfl]
    · rw [xi_f (by decide), xi_f (by decide), xi_f (by decide), xi_t rfl, xg_11_4 hO, xa_15 hO (by omega) (by omega), Int.toNat_natCast, if_neg (by decide), if_neg (by decide), if_neg (by decide), if_pos rfl]
      exact congrArg (fun q => some (q, M)) r3
    · rw [xi_f (by decide), xi_f (by decide), xi_f (by decide), xi_f (by decide), xi_t rfl, xg_11_5 hO, xa_16 hO (by omega) (by omega), Int.toNat_natCast, if_neg (by decide), if_neg (by decide), if_neg (by decide), if_neg (by decide), if_pos rfl]
      exact congrArg (fun q => some (q, M)) r4
    · rw [xi_f (by decide), xi_f (by decide), xi_f (by decide), xi_f (by decide), xi_f (by decide), xi_t rfl, if_neg (by decide), if_neg (by decide), if_neg (by decide), if_neg (by decide), if_neg (by decide), if_pos rfl, xr_1 hO, xm_ticksInOldest h.1 g hw, xe_call]
    · rw [xi_f (by decide), xi_f (by decide), xi_f (by decide), xi_f (by decide), xi_f (by decide), xi_f (by decide), xi_t rfl, xr_11 hO, xm_oldestSpan h.1 g hw, xe_call, if_neg (by decide), if_neg (by decide), if_neg (by decide), if_neg (by decide), if_neg (by decide), if_neg (by decide), if_pos rfl]
    · rw [xi_f (by decide), xi_f (by decide), xi_f (by decide), xi_f (by decide), xi_f (by decide), xi_f (by decide), xi_f (by decide), xi_t rfl, xg_11_6 hO, xa_17 hO (by omega) (by omega), Int.toNat_natCast, if_neg (by decide), if_neg (by decide), if_neg (by decide), if_neg (by decide), if_neg (by decide), if_neg (by decide), if_neg (by decide), if_pos rfl]
      exact congrArg (fun q => some (q, M)) r5
    · rw [xi_f (by decide), xi_f (by decide), xi_f (by decide), xi_f (by decide), xi_f (by decide), xi_f (by decide), xi_f (by decide), xi_f (by decide), xi_t rfl, xg_11_7 hO, xa_18 hO (by omega) (by omega), Int.toNat_natCast, if_neg (by decide), if_neg (by decide), if_neg (by decide), if_neg (by decide), if_neg (by decide), if_neg (by decide), if_neg (by decide), if_neg (by decide), if_pos rfl]
      exact congrArg (fun q => some (q, M)) r6
    · rw [xi_f hc.1, xi_f hc.2.1, xi_f hc.2.2.1, xi_f hc.2.2.2.1, xi_f hc.2.2.2.2.1, xi_f hc.2.2.2.2.2.1, xi_f hc.2.2.2.2.2.2.1, xi_f hc.2.2.2.2.2.2.2.1, xi_f hc.2.2.2.2.2.2.2.2, if_neg hc.1, if_neg hc.2.1, if_neg hc.2.2.1, if_neg hc.2.2.2.1, if_neg hc.2.2.2.2.1, if_neg hc.2.2.2.2.2.1, if_neg hc.2.2.2.2.2.2.1, if_neg hc.2.2.2.2.2.2.2.1, if_neg hc.2.2.2.2.2.2.2.2]
  · rw [if_neg c, if_neg c]
theorem md_walker {M : xv_M} {a : RW} (h : xl_OK M) (g : rRW a) (e : xv_I M 189 = a) {x t : Int} (hx : iR x) (ht : iR t) : ∃ M', D_X12_walker 188 x t M = some (rWkQ a x t, M') ∧ Scr M M' := by
  refine ⟨M, ?_, Scr.rf⟩
  have em := g.1.1.em
  have hn := g.1.1.n
  unfold D_X12_walker rWkQ
  rw [xr_188 h, w_noWalker h e g.1.1 hx, xe_call]
  by_cases c : 0 ≤ x ∧ x < a 2
  · obtain ⟨w, rfl⟩ : ∃ w : Nat, x = (w : Int) := ⟨x.toNat, by omega⟩
    have hw : w < rm a := by omega
    have hm := g.1.1.m
    have hw6 : w < 6 := by omega
    rw [if_pos c, if_pos c, xe_cmp (by decide) (by decide) (by decide) (by decide), if_pos rfl, xr_188 h, md_longest h e g.1.1 hw6, xe_call, xe_g (xe_inb ht.1 ht.2), Int.toNat_natCast]
    unfold rWkV
    have hc : t = 0 ∨ t = 1 ∨ t = 2 ∨ t = 3 ∨ t = 4 ∨ t = 5 ∨ t = 6 ∨ t = 7 ∨ t = 8 ∨ (t ≠ 0 ∧ t ≠ 1 ∧ t ≠ 2 ∧ t ≠ 3 ∧ t ≠ 4 ∧ t ≠ 5 ∧ t ≠ 6 ∧ t ≠ 7 ∧ t ≠ 8) := by omega
    rcases hc with rfl | rfl | rfl | rfl | rfl | rfl | rfl | rfl | rfl | hc
    · rw [xi_t rfl, xr_188 h, show D_X12_its 188 (w : Int) 0 M = _ from w_its h e hw6 (j := 0) (by decide), xe_call, if_pos rfl]
    · rw [xi_f (by decide), xi_t rfl, xr_188 h, show D_X12_its 188 (w : Int) 1 M = _ from w_its h e hw6 (j := 1) (by decide), xe_call, if_neg (by decide), if_pos rfl]
    · rw [xi_f (by decide), xi_f (by decide), xi_t rfl, xr_188 h, md_houses h e g.1.1 hw6, xe_call, if_neg (by decide), if_neg (by decide), if_pos rfl]
    · rw [xi_f (by decide), xi_f (by decide), xi_f (by decide), xi_t rfl, xr_188 h, show D_X12_its 188 (w : Int) 2 M = _ from w_its h e hw6 (j := 2) (by decide), xe_call, if_neg (by decide), if_neg (by decide), if_neg (by decide), if_pos rfl]
    · rw [xi_f (by decide), xi_f (by decide), xi_f (by decide), xi_f (by decide), xi_t rfl, xr_188 h, show D_X12_its 188 (w : Int) 3 M = _ from w_its h e hw6 (j := 3) (by decide), xe_call, if_neg (by decide), if_neg (by decide), if_neg (by decide), if_neg (by decide), if_pos rfl]
    · have hk := rLg_ok (a := a) (w := w) (rn a)
      rw [xi_f (by decide), xi_f (by decide), xi_f (by decide), xi_f (by decide), xi_f (by decide), xi_t rfl, if_neg (by decide), if_neg (by decide), if_neg (by decide), if_neg (by decide), if_neg (by decide), if_pos rfl, xe_cmp (by omega) (by omega) (by decide) (by decide)]
      by_cases c5 : rLg a w (rn a) = -5
      · rw [if_neg (fun z => z c5), if_pos c5]
      · have i2 : ((462 : Int) + 60 * (w : Int) + rLg a w (rn a)) = ((462 + 60 * w + (rLg a w (rn a)).toNat : Nat) : Int) := by
          rcases hk with hk | hk
          · exact absurd hk c5
          · omega
        rw [if_pos c5, if_neg c5, xg_188_0 h, w_r0 h e, xg_188_0 h, i2, w_rd h e (by rcases hk with hk | hk; exact absurd hk c5; omega)]
    · rw [xi_f (by decide), xi_f (by decide), xi_f (by decide), xi_f (by decide), xi_f (by decide), xi_f (by decide), xi_t rfl, if_neg (by decide), if_neg (by decide), if_neg (by decide), if_neg (by decide), if_neg (by decide), if_neg (by decide), if_pos rfl]
    · rw [xi_f (by decide), xi_f (by decide), xi_f (by decide), xi_f (by decide), xi_f (by decide), xi_f (by decide), xi_f (by decide), xi_t rfl, xr_188 h, show D_X12_its 188 (w : Int) 4 M = _ from w_its h e hw6 (j := 4) (by decide), xe_call, if_neg (by decide), if_neg (by decide), if_neg (by decide), if_neg (by decide), if_neg (by decide), if_neg (by decide), if_neg (by decide), if_pos rfl]
    · rw [xi_f (by decide), xi_f (by decide), xi_f (by decide), xi_f (by decide), xi_f (by decide), xi_f (by decide), xi_f (by decide), xi_f (by decide), xi_t rfl, xr_188 h, show D_X12_its 188 (w : Int) 5 M = _ from w_its h e hw6 (j := 5) (by decide), xe_call, if_neg (by decide), if_neg (by decide), if_neg (by decide), if_neg (by decide), if_neg (by decide), if_neg (by decide), if_neg (by decide), if_neg (by decide), if_pos rfl]
    · rw [xi_f hc.1, xi_f hc.2.1, xi_f hc.2.2.1, xi_f hc.2.2.2.1, xi_f hc.2.2.2.2.1, xi_f hc.2.2.2.2.2.1, xi_f hc.2.2.2.2.2.2.1, xi_f hc.2.2.2.2.2.2.2.1, xi_f hc.2.2.2.2.2.2.2.2, if_neg hc.1, if_neg hc.2.1, if_neg hc.2.2.1, if_neg hc.2.2.2.1, if_neg hc.2.2.2.2.1, if_neg hc.2.2.2.2.2.1, if_neg hc.2.2.2.2.2.2.1, if_neg hc.2.2.2.2.2.2.2.1, if_neg hc.2.2.2.2.2.2.2.2]
  · rw [if_neg c, if_neg c, xe_cmp (by decide) (by decide) (by decide) (by decide), if_neg (by decide)]
theorem ok_walker (hbc : BC) {M : xv_M} (hi : INV M) {x t : Int} (hx : iR x) (ht : iR t) : ok2 (D_X11_walker 1 x t) (D_X12_walker 188 x t) M := ok_q hi (A := fun a => rWkQ a x t) (fun a H k c => xc_walker hbc c hx ht) (fun M a h g e => md_walker h g e hx ht)
