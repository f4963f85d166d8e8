/-! ## questions: the way as a place is asked -/
abbrev rRe (a : RW) (s : Nat) (m x : Int) : Prop := (x < m ∧ rF a s ≤ x) ∨ (x = m ∨ (m < x ∧ x ≤ rG a s))
def rL1 (a : RW) (m x : Int) : Nat → Int := fun n => (xct (fun s => decide ((rTh a s ∧ rMi a s = m) ∧ rRe a s m x)) n : Int)
def rL2 (a : RW) (m x : Int) : Nat → Int := fun n => (xct (fun s => decide ((rTh a s ∧ rMi a s = m) ∧ ¬ rRe a s m x)) n : Int)
theorem rL_add {a : RW} {m x : Int} (n : Nat) : rLo a n m = rL1 a m x n + rL2 a m x n := by
  unfold rLo rL1 rL2
  rw [xct_add (p := fun s => decide ((rTh a s ∧ rMi a s = m) ∧ rRe a s m x)) (q := fun s => decide ((rTh a s ∧ rMi a s = m) ∧ ¬ rRe a s m x)) (fun k hk => by
    by_cases c : rTh a k ∧ rMi a k = m
    · by_cases c2 : rRe a k m x
      · rw [if_pos (decide_eq_true c), if_pos (decide_eq_true ⟨c, c2⟩), if_neg (fun z => (of_decide_eq_true z).2 c2)]
      · rw [if_pos (decide_eq_true c), if_neg (fun z => c2 (of_decide_eq_true z).2), if_pos (decide_eq_true ⟨c, c2⟩)]
    · rw [if_neg (fun z => c (of_decide_eq_true z)), if_neg (fun z => c (of_decide_eq_true z).1), if_neg (fun z => c (of_decide_eq_true z).1)])]
  omega
theorem rL_b {a : RW} {m x : Int} {n : Nat} (hn : n ≤ 60) : (0 ≤ rL1 a m x n ∧ rL1 a m x n ≤ 60) ∧ (0 ≤ rL2 a m x n ∧ rL2 a m x n ≤ 60) := by
  have h1 := xct_le (fun s => decide ((rTh a s ∧ rMi a s = m) ∧ rRe a s m x)) n
  have h2 := xct_le (fun s => decide ((rTh a s ∧ rMi a s = m) ∧ ¬ rRe a s m x)) n
  unfold rL1 rL2
  omega
def rLk (a : RW) (m x : Int) : Int := rL1 a m x (rn a) + (if 0 < rL2 a m x (rn a) then 1 else 0)
theorem xm_reaches {M : xv_M} {a : RW} (h : LN a M) (g : rRW a) {s : Nat} (hs : s < rn a) (ht : rTh a s) {x m : Int} (hx : 0 ≤ x ∧ x ≤ 1000) (hm : 0 ≤ m ∧ m ≤ 1000) : D_X8_reaches 4 (s : Int) x m M = some (if rRe a s m x then 1 else 0, M) := by
  have hO := h.1.1
  have hn := g.1.1.n
  obtain ⟨_, _, r3, r4, _, _⟩ := h.1.2.2.1.2.2.1 s hs
  have r3' : xv_I M 7 s = rF a s := r3
  have r4' : xv_I M 8 s = rG a s := r4
  have hp : 0 ≤ rF a s ∧ rF a s ≤ rG a s ∧ rG a s ≤ 1000 := g.1.2.1.pl s hs ht
  unfold D_X8_reaches
  rw [xe_cmp (by omega) (by omega) (by omega) (by omega), xe_cmp (by omega) (by omega) (by omega) (by omega)]
  by_cases c : m ≤ x
  · rw [if_pos c]
    by_cases c2 : x = m
    · rw [if_pos c2, if_pos (Or.inr (Or.inl c2)), xe_g1]
    · rw [if_neg c2, xg_4_5 hO, xa_8 hO (by omega) (by omega), Int.toNat_natCast, r4', xe_cmp (by omega) (by omega) (by omega) (by omega)]
      by_cases c3 : rG a s < x
      · rw [if_pos c3, xe_g0, if_neg]
        rintro (z | z | z) <;> omega
      · rw [if_neg c3, xe_g1, if_pos (Or.inr (Or.inr ⟨by omega, by omega⟩))]
  · rw [if_neg c, xg_4_4 hO, xa_7 hO (by omega) (by omega), Int.toNat_natCast, r3', xe_cmp (by omega) (by omega) (by omega) (by omega)]
    by_cases c3 : x < rF a s
    · rw [if_pos c3, xe_g0, if_neg]
      rintro (z | z | z) <;> omega
    · rw [if_neg c3, xe_g1, if_pos (Or.inl ⟨by omega, by omega⟩)]
theorem xm_lookedAtIn {M : xv_M} {a : RW} (h : LN a M) (g : rRW a) {x m : Int} (hx : 0 ≤ x ∧ x ≤ 1000) (hm : 0 ≤ m ∧ m ≤ 1000) : D_X8_lookedAtIn 33 m x 4 M = some (rLk a m x, M) := by
  have hO := h.1.1
  have hn := g.1.1.n
  have en := g.1.1.en
  have hz : xv_I M 4 0 = a 1 := h.1.2.2.1.1
  unfold D_X8_lookedAtIn
  refine xe_loop (n := rn a) (fun k => (rL1 a m x k, (k : Int), M)) rfl (by omega) ?_ ?_
  · intro s hs f
    have ek : ((s : Int) + 1) = ((s + 1 : Nat) : Int) := by omega
    have hS : rL1 a m x (s + 1) = rL1 a m x s + (if decide ((rTh a s ∧ rMi a s = m) ∧ rRe a s m x) = true then 1 else 0) := by unfold rL1; rw [xct_s]
    dsimp only
    rw [hS, xg_4_0 hO, hz, xe_cmp (by omega) (by omega) (by omega) (by omega), if_neg (by omega), xr_4 hO, xm_isThere hO h.1.2.2.1 (by omega), xe_call, xe_let, xe_b0, ek]
    by_cases c : rTh a s
    · have e34 : xv_I M 34 s = rMi a s := (h.2.2.2.1 s hs c).1
      have hp : 0 ≤ rF a s ∧ rF a s ≤ rG a s ∧ rG a s ≤ 1000 := g.1.2.1.pl s hs c
      have hmi : 0 ≤ rMi a s ∧ rMi a s ≤ 1000 := tm_in hp (k := tdep (rF a s) (rG a s)) (Nat.le_refl _)
      rw [if_pos ⟨hs, c⟩, xg_33_0 hO, xa_34 hO (by omega) (by omega), Int.toNat_natCast, e34, xe_cmp (by omega) (by omega) (by omega) (by omega)]
      by_cases c2 : rMi a s = m
      · rw [if_neg (fun z => z c2), xm_reaches h g hs c hx hm, xe_call, xe_b0]
        by_cases c3 : rRe a s m x
        · rw [if_pos c3, if_pos (decide_eq_true ⟨⟨c, c2⟩, c3⟩)]
        · rw [if_neg c3, if_neg (fun z => c3 (of_decide_eq_true z).2), Int.add_zero]
      · rw [if_pos c2, if_neg (fun z => c2 (of_decide_eq_true z).1.2), Int.add_zero]
    · rw [if_neg (fun z => c z.2), if_neg (fun z => c (of_decide_eq_true z).1.1), Int.add_zero]
  · intro f
    obtain ⟨⟨b1, b2⟩, b3, b4⟩ := rL_b (a := a) (m := m) (x := x) (n := rn a) hn
    have hadd := rL_add (a := a) (m := m) (x := x) (rn a)
    have e36 : xv_I M 36 m.toNat = rLo a (rn a) m := by
      have := xm_lying h (x := m.toNat) (by omega)
      rw [this]
      unfold rLn
      rw [Int.toNat_of_nonneg hm.1]
    dsimp only
    rw [xg_4_0 hO, hz, xe_cmp (by omega) (by omega) (by omega) (by omega), if_pos (by omega), xg_33_2 hO, xa_36 hO (by omega) (by omega), e36]
    unfold xv_min rLk
    rw [if_pos ⟨xe_inb (by omega) (by omega), xe_inb (by omega) (by omega)⟩]
    refine congrArg (fun q => some (q, M)) ?_
    by_cases c : 0 < rL2 a m x (rn a)
    · rw [if_pos c]
      split <;> omega
    · rw [if_neg c]
      split <;> omega
/-! the reference looks -/
theorem xb_or01 {p q : Int} (hp : p = 0 ∨ p = 1) (hq : q = 0 ∨ q = 1) : ((Int32.ofInt p) ||| (Int32.ofInt q)).toInt = if p = 1 ∨ q = 1 then 1 else 0 := by
  rcases hp with rfl | rfl <;> rcases hq with rfl | rfl <;> decide
theorem md_looked {M : xv_M} {a : RW} (h : xl_OK M) (e : xv_I M 189 = a) (g : rRW a) {x m : Int} (hx : 0 ≤ x ∧ x ≤ 1000) (hm : 0 ≤ m ∧ m ≤ 1000) : ∃ M', D_X12_looked 188 m x M = some (rLk a m x, M') ∧ Fl M M' := by
  have hn := g.1.1.n
  have en := g.1.1.en
  unfold D_X12_looked
  refine xe_inv0 (I := fun (k : Nat) (s : Int × Int × Int × xv_M) => s.1 = rL1 a m x k ∧ s.2.1 = (if 0 < rL2 a m x k then 1 else 0) ∧ s.2.2.1 = (k : Int) ∧ Fl M s.2.2.2) (n := rn a) (P := fun z => ∃ M', z = some (rLk a m x, M') ∧ Fl M M') (by omega) ⟨rfl, rfl, rfl, Fl.rf⟩ ?_ ?_
  · rintro k ⟨n1, mo, i, N⟩ hk ⟨h1, h2, h3, fN⟩
    dsimp only at h1 h2 h3 fN ⊢
    subst h1 h2 h3
    have oN := fN.scr.ok h
    have eN : xv_I N 189 = a := by rw [← e]; exact funext fun j => fN.2.2 189 j (by omega)
    have ek : ((k : Int) + 1) = ((k + 1 : Nat) : Int) := by omega
    have hS : rL1 a m x (k + 1) = rL1 a m x k + (if decide ((rTh a k ∧ rMi a k = m) ∧ rRe a k m x) = true then 1 else 0) := by unfold rL1; rw [xct_s]
    have hS2 : rL2 a m x (k + 1) = rL2 a m x k + (if decide ((rTh a k ∧ rMi a k = m) ∧ ¬ rRe a k m x) = true then 1 else 0) := by unfold rL2; rw [xct_s]
    obtain ⟨_, b3, b4⟩ := rL_b (a := a) (m := m) (x := x) (n := k) (by omega)
    obtain ⟨mo, hmo⟩ : ∃ mo : Int, mo = if 0 < rL2 a m x k then 1 else 0 := ⟨_, rfl⟩
    have hmo01 : mo = 0 ∨ mo = 1 := by rw [hmo]; split <;> omega
    rw [← hmo]
    by_cases c : rTh a k
    · have hp := g.1.2.1.pl k hk c
      have hp' : 0 ≤ rF a k ∧ rF a k ≤ rG a k ∧ rG a k ≤ 1000 := hp
      have hmi : 0 ≤ rMi a k ∧ rMi a k ≤ 1000 := tm_in hp' (k := tdep (rF a k) (rG a k)) (Nat.le_refl _)
      obtain ⟨Q, d, ⟨f1, f2, f3, f4, f5⟩, q1, q2⟩ := md_finds oN eN (s := k) (by omega) hp (m := 0) (Or.inl rfl)
      have oQ : xl_OK Q := ⟨f1.trans oN.1, fun r j hr => by show Q.2.2.2 r j = _; rw [f2]; exact oN.2 r j hr⟩
      have fQ : Fl N Q := ⟨f1, f2, fun r j hr => by
        by_cases c1 : r = 193
        · subst c1
          rw [q1 j, if_neg (fun z => absurd z.1 (by decide))]
        · by_cases c2 : r = 194
          · subst c2
            rw [q2 j, if_neg (fun z => absurd z.1 (by decide))]
          · exact f3 r j (by omega)⟩
      have eQ : xv_I Q 189 = a := by rw [← eN]; exact funext fun j => fQ.2.2 189 j (by omega)
      have f4' : xv_I Q 188 13 = rMi a k := f4
      have hof3 : D_X12_of 188 (k : Int) 3 Q = some (rG a k, Q) := w_of3 oQ eQ (by omega)
      have hof2 : D_X12_of 188 (k : Int) 2 Q = some (rF a k, Q) := w_of2 oQ eQ (by omega)
      refine ⟨(rL1 a m x (k + 1), (if 0 < rL2 a m x (k + 1) then 1 else 0), ((k + 1 : Nat) : Int), Q), ⟨rfl, rfl, rfl, fN.tr fQ⟩, fun F => ?_⟩
      rw [xg_188_0 oN, w_r1 oN eN, xe_cmp (by omega) (by omega) (by omega) (by omega), if_neg (by omega), xr_188 oN, w_isThere oN eN g.1.1 (by omega), xe_call]
      refine xe_letp (fun j => ∀ p q, j (p, q, Q) = F (p, q, ((k + 1 : Nat) : Int), Q)) (fun p q => by dsimp only; rw [ek]) (fun j8 hj8 => ?_)
      rw [xe_b1, if_pos c, xr_188 oN, d, xe_call, xg_188_13 oQ, f4', xe_cmp (by omega) (by omega) (by omega) (by omega)]
      by_cases c2 : rMi a k = m
      · rw [if_pos c2]
        -- is it reached
        refine xe_letp (fun j => (rRe a k m x → j (1, Q) = F (rL1 a m x (k + 1), (if 0 < rL2 a m x (k + 1) then 1 else 0), ((k + 1 : Nat) : Int), Q)) ∧ (¬ rRe a k m x → j (0, Q) = F (rL1 a m x (k + 1), (if 0 < rL2 a m x (k + 1) then 1 else 0), ((k + 1 : Nat) : Int), Q))) ⟨fun c3 => ?_, fun c3 => ?_⟩ (fun j12 hj12 => ?_)
        · rw [if_pos (decide_eq_true ⟨⟨c, c2⟩, c3⟩)] at hS
          rw [if_neg (fun z => (of_decide_eq_true z).2 c3), Int.add_zero] at hS2
          rw [hS, hS2, ← hmo]
          dsimp only
          rw [xe_let, xe_cmp (by decide) (by decide) (by decide) (by decide), if_neg (by decide)]
          dsimp only
          rw [xe_let, xe_cmp (by decide) (by decide) (by decide) (by decide), if_pos (by decide)]
          dsimp only
          rw [xb_or01 hmo01 (Or.inl rfl), hj8]
          have : (if mo = 1 ∨ (0 : Int) = 1 then (1 : Int) else 0) = mo := by
            rcases hmo01 with q | q
            · rw [q]; rfl
            · rw [q]; rfl
          rw [this]
        · rw [if_neg (fun z => c3 (of_decide_eq_true z).2), Int.add_zero] at hS
          rw [if_pos (decide_eq_true ⟨⟨c, c2⟩, c3⟩)] at hS2
          rw [hS, hS2, if_pos (by omega)]
          dsimp only
          rw [xe_let, xe_cmp (by decide) (by decide) (by decide) (by decide), if_pos rfl]
          dsimp only
          rw [xe_let, xe_cmp (by decide) (by decide) (by decide) (by decide), if_neg (by decide)]
          dsimp only
          rw [xb_or01 hmo01 (Or.inr rfl), hj8, if_pos (Or.inr rfl), Int.add_zero]
        · rw [xe_let, xe_cmp (by omega) (by omega) (by omega) (by omega)]
          by_cases c4 : x = m
          · rw [if_pos c4]
            exact hj12.1 (Or.inr (Or.inl c4))
          · rw [if_neg c4, xe_let, xe_cmp (by omega) (by omega) (by omega) (by omega)]
            by_cases c5 : m ≤ x
            · rw [if_pos c5, xr_188 oQ, hof3, xe_call, xe_cmp (by omega) (by omega) (by omega) (by omega)]
              by_cases c6 : rG a k < x
              · rw [if_pos c6]
                exact hj12.2 (by rintro (z | z | z) <;> omega)
              · rw [if_neg c6]
                exact hj12.1 (Or.inr (Or.inr ⟨by omega, by omega⟩))
            · rw [if_neg c5, xr_188 oQ, hof2, xe_call, xe_cmp (by omega) (by omega) (by omega) (by omega)]
              by_cases c6 : x < rF a k
              · rw [if_pos c6]
                exact hj12.2 (by rintro (z | z | z) <;> omega)
              · rw [if_neg c6]
                exact hj12.1 (Or.inl ⟨by omega, by omega⟩)
      · rw [if_neg (fun z => c2 (of_decide_eq_true z).1.2), Int.add_zero] at hS
        rw [if_neg (fun z => c2 (of_decide_eq_true z).1.2), Int.add_zero] at hS2
        rw [if_neg c2, hj8, hS, hS2, ← hmo]
    · rw [if_neg (fun z => c (of_decide_eq_true z).1.1), Int.add_zero] at hS
      rw [if_neg (fun z => c (of_decide_eq_true z).1.1), Int.add_zero] at hS2
      refine ⟨(rL1 a m x (k + 1), (if 0 < rL2 a m x (k + 1) then 1 else 0), ((k + 1 : Nat) : Int), N), ⟨rfl, rfl, rfl, fN⟩, fun F => ?_⟩
      rw [xg_188_0 oN, w_r1 oN eN, xe_cmp (by omega) (by omega) (by omega) (by omega), if_neg (by omega), xr_188 oN, w_isThere oN eN g.1.1 (by omega), xe_call, xe_let, xe_b1, if_neg c, hS, hS2, ← hmo, ek]
  · rintro ⟨n1, mo, i, N⟩ ⟨h1, h2, h3, fN⟩ F
    dsimp only at h1 h2 h3 fN ⊢
    subst h1 h2 h3
    have oN := fN.scr.ok h
    have eN : xv_I N 189 = a := by rw [← e]; exact funext fun j => fN.2.2 189 j (by omega)
    rw [xg_188_0 oN, w_r1 oN eN, xe_cmp (by omega) (by omega) (by omega) (by omega), if_pos (by omega)]
    refine ⟨N, ?_, fN⟩
    unfold rLk
    by_cases c : 0 < rL2 a m x (rn a)
    · rw [if_pos c, xe_cmp (by decide) (by decide) (by decide) (by decide), if_neg (by decide)]
    · rw [if_neg c, xe_cmp (by decide) (by decide) (by decide) (by decide), if_pos rfl, Int.add_zero]
/-! the way -/
/-- the sum of lk over the first ones of n, from k on, that are nodes -/
def rWs (q : Nat → Bool) (lk : Nat → Int) : Nat → Nat → Int → Int
  | 0, _, s => s
  | n + 1, k, s => if q k = true then rWs q lk n (k + 1) (s + lk k) else s
theorem xm_isNode {M : xv_M} {a : RW} (h : LN a M) {g : Nat → Nat → Int} (h37 : ∀ j, g 37 j = xv_I M 37 j) {x : Int} (hx : 0 ≤ x ∧ x ≤ 1000) {k : Nat} (hk : k ≤ tdep x x) (w : WY g (tat x x k) k) : D_X8_isNode 33 (mkt M g) = some (if rNd a (rn a) (tm x x k) = true then 1 else 0, mkt M g) := by
  have hO : xl_OK (mkt M g) := h.1.1
  have hf : 0 ≤ x ∧ x ≤ x ∧ x ≤ 1000 := ⟨hx.1, Int.le_refl _, hx.2⟩
  obtain ⟨s1, s2, s3⟩ := tdep_spec hf
  obtain ⟨t1, t2, t3, t4, t5⟩ := tat_in hf k (by omega) (fun i hi => s2 i (by omega))
  obtain ⟨m1, m2⟩ := tm_in hf hk
  have w2 := w.2.2.1
  rw [if_neg (by omega)] at w2
  have w2' : g 38 2 = tm x x k := w2
  have hb := xm_node h.2.2.2 (x := (tm x x k).toNat) (by omega)
  have hr := (h.2.2.2.2.2 (tm x x k).toNat (by omega)).1
  rw [Int.toNat_of_nonneg m1] at hb
  unfold D_X8_isNode
  rw [xg_33_4 hO, xr_38 hO, xm_hasPlaces h.1.1 w (by omega), xe_call, xe_b0, if_pos (by omega), xg_33_3 hO, xg_33_4 hO, xg_38_2 hO, mkt_I (by decide), w2', xa_37 hO (by omega) (by omega), mkt_I (by decide), h37, xe_cmp (by omega) (by omega) (by decide) (by decide)]
  by_cases c : rNd a (rn a) (tm x x k) = true
  · rw [if_neg (by have := hb.mpr c; omega), if_pos c, xe_g1]
  · rw [if_pos (by have : ¬ 0 < xv_I M 37 (tm x x k).toNat := fun z => c (hb.mp z); omega), if_neg c, xe_g0]
theorem xm_goTowards {M : xv_M} (h : xl_OK M) {g : Nat → Nat → Int} {x : Int} (hx : 0 ≤ x ∧ x ≤ 1000) {k : Nat} (hk : k < tdep x x) (w : WY g (tat x x k) k) : ∃ g', D_X8_goTowards 33 x (mkt M g) = some (1, mkt M g') ∧ WY g' (tat x x (k + 1)) (k + 1) ∧ ∀ r j, r ≠ 38 → g' r j = g r j := by
  have hO : ∀ g, xl_OK (mkt M g) := fun _ => h
  have hf : 0 ≤ x ∧ x ≤ x ∧ x ≤ 1000 := ⟨hx.1, Int.le_refl _, hx.2⟩
  obtain ⟨s1, s2, s3⟩ := tdep_spec hf
  obtain ⟨t1, t2, t3, t4, t5⟩ := tat_in hf k (by omega) (fun i hi => s2 i (by omega))
  obtain ⟨m1, m2⟩ := tm_in hf (k := k) (by omega)
  have hnh : ¬ (x ≤ tm x x k ∧ tm x x k ≤ x) := s2 k hk
  have w2 := w.2.2.1
  rw [if_neg (by omega)] at w2
  have w2' : g 38 2 = tm x x k := w2
  unfold D_X8_goTowards
  rw [xg_33_4 (hO _), xg_38_2 (hO _), mkt_I (by decide), w2', xe_cmp (by omega) (by omega) (by omega) (by omega), if_pos (by omega), xg_33_4 (hO _), xg_38_2 (hO _), mkt_I (by decide), w2', xe_cmp (by omega) (by omega) (by omega) (by omega)]
  by_cases c : x < tm x x k
  · obtain ⟨g2, d2, w2, r2⟩ := xm_goLeft h w (by omega)
    rw [if_neg (by omega), xg_33_4 (hO _), xr_38 (hO _), d2, xe_call, xe_g1]
    exact ⟨g2, rfl, by rw [tat_left c]; exact w2, r2⟩
  · obtain ⟨g2, d2, w2, r2⟩ := xm_goRight h w (by omega)
    rw [if_pos (by omega), xg_33_4 (hO _), xr_38 (hO _), d2, xe_call, xe_g1]
    exact ⟨g2, rfl, by rw [tat_right c]; exact w2, r2⟩
theorem xm_goStop {M : xv_M} (h : xl_OK M) {g : Nat → Nat → Int} {x : Int} (hx : 0 ≤ x ∧ x ≤ 1000) (w : WY g (tat x x (tdep x x)) (tdep x x)) : D_X8_goTowards 33 x (mkt M g) = some (0, mkt M g) := by
  have hO : ∀ g, xl_OK (mkt M g) := fun _ => h
  have hf : 0 ≤ x ∧ x ≤ x ∧ x ≤ 1000 := ⟨hx.1, Int.le_refl _, hx.2⟩
  obtain ⟨s1, s2, s3⟩ := tdep_spec hf
  obtain ⟨t1, t2, t3, t4, t5⟩ := tat_in hf (tdep x x) (by omega) (fun i hi => s2 i hi)
  have hh : x ≤ tm x x (tdep x x) ∧ tm x x (tdep x x) ≤ x := s1
  have w2 := w.2.2.1
  rw [if_neg (by omega)] at w2
  have w2' : g 38 2 = tm x x (tdep x x) := w2
  unfold D_X8_goTowards
  rw [xg_33_4 (hO _), xg_38_2 (hO _), mkt_I (by decide), w2', xe_cmp (by omega) (by omega) (by omega) (by omega), if_neg (by omega), xe_g0]
theorem LN_mkt {M : xv_M} {a : RW} (h : LN a M) (gd : rGd a) {g : Nat → Nat → Int} (hg : ∀ r j, r ≠ 38 → g r j = xv_I M r j) : LN a (mkt M g) ∧ Scr M (mkt M g) := by
  have s : Scr M (mkt M g) := ⟨rfl, rfl, fun r j hr => by
    by_cases c : 34 ≤ r ∧ r ≤ 38
    · rw [mkt_I c]; exact hg r j (by omega)
    · exact mkt_In c⟩
  exact ⟨h.fr2 gd h.1.1 (s.sm (by omega)), s⟩
abbrev rQn (a : RW) (x : Int) : Nat → Bool := fun k => rNd a (rn a) (tm x x k)
theorem xm_nodesOnWay {M : xv_M} {a : RW} (h : LN a M) (gd : rGd a) {x : Int} (hx : 0 ≤ x ∧ x ≤ 1000) : ∃ M', D_X8_nodesOnWay 33 x M = some (rWs (rQn a x) (fun _ => 1) (tdep x x + 1) 0 0, M') ∧ Scr M M' := by
  have hO := h.1.1
  have hOg : ∀ g, xl_OK (mkt M g) := fun _ => hO
  have hf : 0 ≤ x ∧ x ≤ x ∧ x ≤ 1000 := ⟨hx.1, Int.le_refl _, hx.2⟩
  obtain ⟨s1, s2, s3⟩ := tdep_spec hf
  obtain ⟨g0, d0, w0, r0⟩ := xm_start hO (xv_I M)
  rw [mkt_self] at d0
  unfold D_X8_nodesOnWay
  rw [xg_33_4 hO, xr_38 hO, d0, xe_call]
  generalize hR : rWs (rQn a x) (fun _ => 1) (tdep x x + 1) 0 0 = R
  refine xe_invx0 (I := fun (k : Nat) (s : Int × Int × xv_M) => s.2.1 = (k : Int) ∧ ∃ g, s.2.2 = mkt M g ∧ WY g (tat x x k) k ∧ (∀ r j, r ≠ 38 → g r j = xv_I M r j) ∧ R = rWs (rQn a x) (fun _ => 1) (tdep x x + 1 - k) k s.1) (n := tdep x x) (P := fun z => ∃ M', z = some (R, M') ∧ Scr M M') (by omega) ⟨rfl, g0, rfl, w0, r0, hR.symm⟩ ?_ ?_
  · rintro k ⟨n, i, N⟩ hk ⟨h1, g, h2, w, hg, h5⟩
    dsimp only at h1 h2 h5 ⊢
    subst h1 h2
    have ek : ((k : Int) + 1) = ((k + 1 : Nat) : Int) := by omega
    have e6 : tdep x x + 1 - k = (tdep x x + 1 - (k + 1)) + 1 := by omega
    have h6 : rWs (rQn a x) (fun _ => 1) (tdep x x + 1 - k) k n = if rQn a x k = true then rWs (rQn a x) (fun _ => 1) (tdep x x + 1 - (k + 1)) (k + 1) (n + 1) else n := by rw [e6]; rfl
    rw [h6] at h5
    have hnode := xm_isNode h (g := g) (fun j => hg 37 j (by decide)) hx (k := k) (by omega) w
    by_cases c : rQn a x k = true
    · rw [if_pos c] at h5
      obtain ⟨g2, d2, w2, r2⟩ := xm_goTowards hO hx hk w
      refine Or.inl ⟨(n + 1, ((k + 1 : Nat) : Int), mkt M g2), ⟨rfl, g2, rfl, w2, fun r j hr => (r2 r j hr).trans (hg r j hr), h5⟩, fun f => ?_⟩
      rw [xe_cmp (by omega) (by omega) (by decide) (by decide), if_neg (by omega), xr_33 (hOg _), hnode, xe_call, xe_b0, if_pos c, xr_33 (hOg _), d2, xe_call, xe_cmp (by decide) (by decide) (by decide) (by decide), if_pos (by decide), ek]
    · rw [if_neg c] at h5
      refine Or.inr (fun f => ?_)
      rw [xe_cmp (by omega) (by omega) (by decide) (by decide), if_neg (by omega), xr_33 (hOg _), hnode, xe_call, xe_b0, if_neg c, h5]
      exact ⟨_, rfl, (LN_mkt h gd hg).2⟩
  · rintro ⟨n, i, N⟩ ⟨h1, g, h2, w, hg, h5⟩ f
    dsimp only at h1 h2 h5 ⊢
    subst h1 h2
    have e6 : tdep x x + 1 - tdep x x = 1 := by omega
    have h6 : rWs (rQn a x) (fun _ => 1) (tdep x x + 1 - tdep x x) (tdep x x) n = if rQn a x (tdep x x) = true then n + 1 else n := by rw [e6]; rfl
    rw [h6] at h5
    have hnode := xm_isNode h (g := g) (fun j => hg 37 j (by decide)) hx (k := tdep x x) (Nat.le_refl _) w
    rw [xe_cmp (by omega) (by omega) (by decide) (by decide), if_neg (by omega), xr_33 (hOg _), hnode, xe_call, xe_b0]
    by_cases c : rQn a x (tdep x x) = true
    · rw [if_pos c] at h5
      rw [if_pos c, xr_33 (hOg _), xm_goStop hO hx w, xe_call, xe_cmp (by decide) (by decide) (by decide) (by decide), if_neg (by decide), h5]
      exact ⟨_, rfl, (LN_mkt h gd hg).2⟩
    · rw [if_neg c] at h5
      rw [if_neg c, h5]
      exact ⟨_, rfl, (LN_mkt h gd hg).2⟩
abbrev rKn (a : RW) (x : Int) : Nat → Int := fun k => rLk a (tm x x k) x
theorem xm_spansLookedAt {M : xv_M} {a : RW} (h : LN a M) (gr : rRW a) {x : Int} (hx : 0 ≤ x ∧ x ≤ 1000) : ∃ M', D_X8_spansLookedAt 33 x 4 M = some (rWs (rQn a x) (rKn a x) (tdep x x + 1) 0 0, M') ∧ Scr M M' := by
  have gd := gr.1.1
  have hO := h.1.1
  have hOg : ∀ g, xl_OK (mkt M g) := fun _ => hO
  have hf : 0 ≤ x ∧ x ≤ x ∧ x ≤ 1000 := ⟨hx.1, Int.le_refl _, hx.2⟩
  obtain ⟨s1, s2, s3⟩ := tdep_spec hf
  obtain ⟨g0, d0, w0, r0⟩ := xm_start hO (xv_I M)
  rw [mkt_self] at d0
  unfold D_X8_spansLookedAt
  rw [xg_33_4 hO, xr_38 hO, d0, xe_call]
  generalize hR : rWs (rQn a x) (rKn a x) (tdep x x + 1) 0 0 = R
  have mid : ∀ k, k ≤ tdep x x → ∀ g, WY g (tat x x k) k → g 38 2 = tm x x k := fun k hk g w => by
    obtain ⟨t1, t2, t3, t4, t5⟩ := tat_in hf k (by omega) (fun i hi => s2 i (by omega))
    have w2 := w.2.2.1
    rw [if_neg (by omega)] at w2
    exact w2
  refine xe_invx0 (I := fun (k : Nat) (s : Int × Int × xv_M) => s.2.1 = (k : Int) ∧ ∃ g, s.2.2 = mkt M g ∧ WY g (tat x x k) k ∧ (∀ r j, r ≠ 38 → g r j = xv_I M r j) ∧ R = rWs (rQn a x) (rKn a x) (tdep x x + 1 - k) k s.1) (n := tdep x x) (P := fun z => ∃ M', z = some (R, M') ∧ Scr M M') (by omega) ⟨rfl, g0, rfl, w0, r0, hR.symm⟩ ?_ ?_
  · rintro k ⟨n, i, N⟩ hk ⟨h1, g, h2, w, hg, h5⟩
    dsimp only at h1 h2 h5 ⊢
    subst h1 h2
    have ek : ((k : Int) + 1) = ((k + 1 : Nat) : Int) := by omega
    have e6 : tdep x x + 1 - k = (tdep x x + 1 - (k + 1)) + 1 := by omega
    have h6 : rWs (rQn a x) (rKn a x) (tdep x x + 1 - k) k n = if rQn a x k = true then rWs (rQn a x) (rKn a x) (tdep x x + 1 - (k + 1)) (k + 1) (n + rKn a x k) else n := by rw [e6]; rfl
    rw [h6] at h5
    have hnode := xm_isNode h (g := g) (fun j => hg 37 j (by decide)) hx (k := k) (by omega) w
    by_cases c : rQn a x k = true
    · rw [if_pos c] at h5
      obtain ⟨g2, d2, w2, r2⟩ := xm_goTowards hO hx hk w
      have hlk := xm_lookedAtIn (LN_mkt h gd hg).1 gr hx (tm_in hf (k := k) (by omega))
      refine Or.inl ⟨(n + rKn a x k, ((k + 1 : Nat) : Int), mkt M g2), ⟨rfl, g2, rfl, w2, fun r j hr => (r2 r j hr).trans (hg r j hr), h5⟩, fun f => ?_⟩
      rw [xe_cmp (by omega) (by omega) (by decide) (by decide), if_neg (by omega), xr_33 (hOg _), hnode, xe_call, xe_b0, if_pos c, xg_33_4 (hOg _), xg_38_2 (hOg _), mkt_I (by decide), mid k (by omega) g w, xr_33 (hOg _), hlk, xe_call, xr_33 (hOg _), d2, xe_call, xe_cmp (by decide) (by decide) (by decide) (by decide), if_pos (by decide), ek]
    · rw [if_neg c] at h5
      refine Or.inr (fun f => ?_)
      rw [xe_cmp (by omega) (by omega) (by decide) (by decide), if_neg (by omega), xr_33 (hOg _), hnode, xe_call, xe_b0, if_neg c, h5]
      exact ⟨_, rfl, (LN_mkt h gd hg).2⟩
  · rintro ⟨n, i, N⟩ ⟨h1, g, h2, w, hg, h5⟩ f
    dsimp only at h1 h2 h5 ⊢
    subst h1 h2
    have e6 : tdep x x + 1 - tdep x x = 1 := by omega
    have h6 : rWs (rQn a x) (rKn a x) (tdep x x + 1 - tdep x x) (tdep x x) n = if rQn a x (tdep x x) = true then n + rKn a x (tdep x x) else n := by rw [e6]; rfl
    rw [h6] at h5
    have hnode := xm_isNode h (g := g) (fun j => hg 37 j (by decide)) hx (k := tdep x x) (Nat.le_refl _) w
    have hlk := xm_lookedAtIn (LN_mkt h gd hg).1 gr hx (tm_in hf (k := tdep x x) (Nat.le_refl _))
    rw [xe_cmp (by omega) (by omega) (by decide) (by decide), if_neg (by omega), xr_33 (hOg _), hnode, xe_call, xe_b0]
    by_cases c : rQn a x (tdep x x) = true
    · rw [if_pos c] at h5
      rw [if_pos c, xg_33_4 (hOg _), xg_38_2 (hOg _), mkt_I (by decide), mid _ (Nat.le_refl _) g w, xr_33 (hOg _), hlk, xe_call, xr_33 (hOg _), xm_goStop hO hx w, xe_call, xe_cmp (by decide) (by decide) (by decide) (by decide), if_neg (by decide), h5]
      exact ⟨_, rfl, (LN_mkt h gd hg).2⟩
    · rw [if_neg c] at h5
      rw [if_neg c, h5]
      exact ⟨_, rfl, (LN_mkt h gd hg).2⟩
