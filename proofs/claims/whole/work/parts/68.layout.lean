/-! ## the tree, built from the spans; both laid out -/
theorem xct_pos {p : Nat → Bool} : ∀ {n : Nat}, 0 < xct p n ↔ ∃ k, k < n ∧ p k = true
  | 0 => ⟨fun h => absurd h (by show ¬ 0 < 0; omega), fun ⟨k, h, _⟩ => absurd h (by omega)⟩
  | n + 1 => by
    show 0 < xct p n + (if p n = true then 1 else 0) ↔ _
    have ih := xct_pos (p := p) (n := n)
    constructor
    · intro h
      by_cases hp : p n = true
      · exact ⟨n, by omega, hp⟩
      · rw [if_neg hp] at h
        obtain ⟨k, h1, h2⟩ := ih.mp (by omega)
        exact ⟨k, by omega, h2⟩
    · rintro ⟨k, h1, h2⟩
      by_cases hk : k = n
      · subst hk
        rw [if_pos h2]
        omega
      · have := ih.mpr ⟨k, by omega, h2⟩
        omega
/-- span s's ends of places -/
abbrev rF (a : RW) (s : Nat) : Int := a (6 + 7 * s + 2)
abbrev rG (a : RW) (s : Nat) : Int := a (6 + 7 * s + 3)
def TR (a : RW) (M : xv_M) : Prop := (∀ s, s < rn a → a (6 + 7 * s + 4) = 1 → xv_I M 34 s = tmid (rF a s) (rG a s) ∧ xv_I M 35 s = (tdep (rF a s) (rG a s) : Int)) ∧
  (∀ x : Nat, x ≤ 1000 → xv_I M 36 x = (xct (fun s => decide (a (6 + 7 * s + 4) = 1 ∧ tmid (rF a s) (rG a s) = (x : Int))) (rn a) : Int)) ∧
  (∀ x : Nat, x ≤ 1000 → (0 ≤ xv_I M 37 x ∧ xv_I M 37 x ≤ 10000) ∧ (0 < xv_I M 37 x ↔ ∃ s, s < rn a ∧ a (6 + 7 * s + 4) = 1 ∧ tpth (rF a s) (rG a s) (x : Int)))
theorem xm_fillI {M : xv_M} (h : xl_OK M) {g : Nat → Nat → Int} {r : Nat} (hr : r = 36 ∨ r = 37) : ∃ g', D_J7_fill_53178 r 0 (mkt M g) = some ((), mkt M g') ∧ (∀ i, i < 1001 → g' r i = 0) ∧ ∀ r' i, r' ≠ r → g' r' i = g r' i := by
  have hO : ∀ g, xl_OK (mkt M g) := fun _ => h
  have hk : ∀ g, xv_kd (mkt M g) r = (14, 1001) := fun g => by rcases hr with rfl | rfl; exact xk_36 (hO g); exact xk_37 (hO g)
  unfold D_J7_fill_53178 xv_len
  rw [if_pos (by rw [hk]), hk]
  refine xe_inv0 (I := fun (k : Nat) (s : Int × xv_M) => s.1 = (k : Int) ∧ ∃ g', s.2 = mkt M g' ∧ (∀ i, i < k → g' r i = 0) ∧ ∀ r' i, r' ≠ r → g' r' i = g r' i) (n := 1001) (P := fun z => ∃ g', z = some ((), mkt M g') ∧ (∀ i, i < 1001 → g' r i = 0) ∧ ∀ r' i, r' ≠ r → g' r' i = g r' i) (by decide) ⟨rfl, g, rfl, fun i hi => by omega, fun _ _ _ => rfl⟩ ?_ ?_
  · rintro k ⟨i, M1⟩ hk2 ⟨hi, g1, hg1, q1, q2⟩
    dsimp only at hi hg1 ⊢
    subst hi hg1
    have ek : ((k : Int) + 1) = ((k + 1 : Nat) : Int) := by omega
    refine ⟨(((k + 1 : Nat) : Int), mkt M (upT g1 r k 0)), ⟨rfl, _, rfl, fun i hi => ?_, fun r' i hr' => by rw [upT_n (fun z => hr' z.1)]; exact q2 r' i hr'⟩, fun f => ?_⟩
    · by_cases hik : i = k
      · subst hik; exact upT_s
      · rw [upT_n (fun z => hik z.2)]; exact q1 i (by omega)
    · rw [xe_cmp (by omega) (by omega) (by decide) (by decide), if_neg (by omega), xe_wI (hk g1) (by omega) (by omega) (by decide), mkt_sI (by omega), Int.toNat_natCast, ek]
  · rintro ⟨i, M1⟩ ⟨hi, g1, hg1, q1, q2⟩ f
    dsimp only at hi hg1 ⊢
    subst hi hg1
    rw [xe_cmp (by decide) (by decide) (by decide) (by decide), if_pos (by decide)]
    exact ⟨g1, rfl, q1, q2⟩
theorem xm_tree {M : xv_M} {a : RW} (h : xl_OK M) (hS : SBs 3 a M) (hn : 0 ≤ a 1 ∧ a 1 ≤ 60) (hpl : rPl a) : ∃ g, D_X8_build 33 4 M = some ((), mkt M g) ∧ TR a (mkt M g) := by
  have hO : ∀ g, xl_OK (mkt M g) := fun _ => h
  have hSG : ∀ g, SBs 3 a (mkt M g) := fun g => hS.sm (mkt_sm (by omega))
  have er : ((rn a : Nat) : Int) = a 1 := by show (((a 1).toNat : Nat) : Int) = a 1; omega
  have hn6 : rn a ≤ 60 := by omega
  have hsz : ∀ g, xv_I (mkt M g) 4 0 = a 1 := fun g => (hSG g).1
  obtain ⟨g1, d1, z1, k1⟩ := xm_fillI (r := 36) h (g := xv_I M) (Or.inl rfl)
  obtain ⟨g2, d2, z2, k2⟩ := xm_fillI (r := 37) h (g := g1) (Or.inr rfl)
  rw [mkt_self] at d1
  unfold D_X8_build
  rw [xg_33_2 h, d1, xe_call, xg_33_3 (hO g1), d2, xe_call]
  refine xe_inv0 (I := fun (k : Nat) (s : Int × xv_M) => s.1 = (k : Int) ∧ ∃ g', s.2 = mkt M g' ∧ (∀ s, s < k → a (6 + 7 * s + 4) = 1 → g' 34 s = tmid (rF a s) (rG a s) ∧ g' 35 s = (tdep (rF a s) (rG a s) : Int)) ∧ (∀ x : Nat, x ≤ 1000 → g' 36 x = (xct (fun s => decide (a (6 + 7 * s + 4) = 1 ∧ tmid (rF a s) (rG a s) = (x : Int))) k : Int)) ∧ (∀ x : Nat, x ≤ 1000 → (0 ≤ g' 37 x ∧ g' 37 x ≤ 16 * (k : Int)) ∧ (0 < g' 37 x ↔ ∃ s, s < k ∧ a (6 + 7 * s + 4) = 1 ∧ tpth (rF a s) (rG a s) (x : Int)))) (n := rn a) (P := fun z => ∃ g, z = some ((), mkt M g) ∧ TR a (mkt M g)) (by omega) ⟨rfl, g2, rfl, fun s hs => by omega, fun x hx => ?_, fun x hx => ?_⟩ ?_ ?_
  · rw [k2 36 x (by decide), z1 x (by omega)]; rfl
  · rw [z2 x (by omega)]
    exact ⟨by omega, fun q => by omega, fun ⟨s, hs, _⟩ => by omega⟩
  · rintro k ⟨i, M1⟩ hk ⟨hi, g', hg', p1, p2, p3⟩
    dsimp only at hi hg' ⊢
    subst hi hg'
    have ek : ((k : Int) + 1) = ((k + 1 : Nat) : Int) := by omega
    by_cases ht : a (6 + 7 * k + 4) = 1
    · have hp := hpl k hk ht
      obtain ⟨g3, d3, m1, m2, m3, m4⟩ := xm_lay (g := g') h (s := k) (f := rF a k) (l := rG a k) (by omega) hp
      refine ⟨(((k + 1 : Nat) : Int), mkt M g3), ⟨rfl, g3, rfl, fun s hs hts => ?_, fun x hx => ?_, fun x hx => ?_⟩, fun f => ?_⟩
      · rw [m1, m2]
        by_cases hsk : s = k
        · subst hsk
          rw [if_pos rfl, if_pos rfl]
          exact ⟨rfl, rfl⟩
        · rw [if_neg hsk, if_neg hsk]
          exact p1 s (by omega) hts
      · rw [m3, p2 x hx]
        show _ = ((xct _ k + (if decide _ = true then 1 else 0) : Nat) : Int)
        by_cases hx2 : (x : Int) = tmid (rF a k) (rG a k)
        · rw [if_pos hx2, if_pos (decide_eq_true ⟨ht, hx2.symm⟩)]
          omega
        · rw [if_neg hx2, if_neg (fun z => hx2 (of_decide_eq_true z).2.symm)]
          omega
      · obtain ⟨q1, q2⟩ := p3 x hx
        have tl := xct_le (fun i => decide (tm (rF a k) (rG a k) i = (x : Int))) (tdep (rF a k) (rG a k) + 1)
        have td : tdep (rF a k) (rG a k) ≤ 9 := (tdep_spec hp).2.2
        rw [m4]
        unfold tct
        refine ⟨by omega, ?_⟩
        have tp := xct_pos (p := fun i => decide (tm (rF a k) (rG a k) i = (x : Int))) (n := tdep (rF a k) (rG a k) + 1)
        constructor
        · intro hz
          by_cases hg : 0 < g' 37 x
          · obtain ⟨s, h1, h2, h3⟩ := q2.mp hg
            exact ⟨s, by omega, h2, h3⟩
          · obtain ⟨i, h1, h2⟩ := tp.mp (by omega)
            exact ⟨k, by omega, ht, i, by omega, of_decide_eq_true h2⟩
        · rintro ⟨s, h1, h2, h3⟩
          by_cases hsk : s = k
          · subst hsk
            obtain ⟨i, h4, h5⟩ := h3
            have := tp.mpr ⟨i, by omega, decide_eq_true h5⟩
            omega
          · have := q2.mpr ⟨s, by omega, h2, h3⟩
            omega
      · have f1 : xv_I (mkt M g') 7 k = a (6 + 7 * k + 2) := ((hSG g').2.2.1 k hk).2.2.1
        have f2 : xv_I (mkt M g') 8 k = a (6 + 7 * k + 3) := ((hSG g').2.2.1 k hk).2.2.2.1
        rw [xg_4_0 (hO g'), hsz, xe_cmp (by omega) (by omega) (by omega) (by omega), if_neg (by omega)]
        rw [xr_4 (hO g'), xm_isThere (hO g') (hSG g') (by omega), xe_call, xe_let, xe_b0, if_pos ⟨hk, ht⟩]
        rw [xg_4_4 (hO g'), xa_7 (hO g') (by omega) (by omega), Int.toNat_natCast, f1, xg_4_5 (hO g'), xa_8 (hO g') (by omega) (by omega), Int.toNat_natCast, f2, xr_33 (hO g'), d3, xe_call, ek]
    · refine ⟨(((k + 1 : Nat) : Int), mkt M g'), ⟨rfl, g', rfl, fun s hs hts => ?_, fun x hx => ?_, fun x hx => ?_⟩, fun f => ?_⟩
      · by_cases hsk : s = k
        · subst hsk; exact absurd hts ht
        · exact p1 s (by omega) hts
      · rw [p2 x hx]
        show _ = ((xct _ k + (if decide _ = true then 1 else 0) : Nat) : Int)
        rw [if_neg (fun z => ht (of_decide_eq_true z).1)]
        omega
      · obtain ⟨q1, q2⟩ := p3 x hx
        refine ⟨by omega, fun hz => ?_, ?_⟩
        · obtain ⟨s, h1, h2, h3⟩ := q2.mp hz
          exact ⟨s, by omega, h2, h3⟩
        · rintro ⟨s, h1, h2, h3⟩
          by_cases hsk : s = k
          · subst hsk; exact absurd h2 ht
          · exact q2.mpr ⟨s, by omega, h2, h3⟩
      · rw [xg_4_0 (hO g'), hsz, xe_cmp (by omega) (by omega) (by omega) (by omega), if_neg (by omega)]
        rw [xr_4 (hO g'), xm_isThere (hO g') (hSG g') (by omega), xe_call, xe_let, xe_b0, if_neg (fun q => ht q.2), ek]
  · rintro ⟨i, M1⟩ ⟨hi, g', hg', p1, p2, p3⟩ f
    dsimp only at hi hg' ⊢
    subst hi hg'
    rw [xg_4_0 (hO g'), hsz, xe_cmp (by omega) (by omega) (by omega) (by omega), if_pos (by omega)]
    refine ⟨g', rfl, fun s hs hts => ?_, fun x hx => ?_, fun x hx => ?_⟩
    · rw [mkt_I (by decide), mkt_I (by decide)]; exact p1 s hs hts
    · rw [mkt_I (by decide)]; exact p2 x hx
    · rw [mkt_I (by decide)]
      obtain ⟨q1, q2⟩ := p3 x hx
      exact ⟨by omega, q2⟩
/-- what laying out touches -/
def LF (M M' : xv_M) : Prop := xl_OK M' ∧ (∀ r j, ¬ (34 ≤ r ∧ r ≤ 38) → xv_I M' r j = xv_I M r j) ∧ (∀ r j, r ≠ 32 → xv_J M' r j = xv_J M r j) ∧ M'.2.2.2 = M.2.2.2
theorem xm_layOut {M : xv_M} {a : RW} (h : xl_OK M) (hS : SBs 3 a M) (hn : 0 ≤ a 1 ∧ a 1 ≤ 60) (hpl : rPl a) : ∃ M', D_X2_layOut 2 M = some ((), M') ∧ CC a M' ∧ TR a M' ∧ LF M M' := by
  obtain ⟨G, d1, c1⟩ := xm_cover h hS hn hpl
  have hO : xl_OK (mkc M G) := h
  obtain ⟨g, d2, t2⟩ := xm_tree (M := mkc M G) hO hS.cov hn hpl
  have hO2 : xl_OK (mkt (mkc M G) g) := h
  unfold D_X2_layOut
  rw [xg_2_1 h, xg_2_0 h, xg_3_1 h, xr_31 h, d1, xe_call, xg_2_2 hO, xg_2_0 hO, xg_3_1 hO, xr_33 hO, d2, xe_call]
  exact ⟨_, rfl, fun x hx s hs => c1 x hx s hs, t2, hO2, fun r j hr => mkt_In hr, fun r j hr => mkc_Jn hr, rfl⟩
