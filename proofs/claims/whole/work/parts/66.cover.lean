/-! ## the cover, built from the spans -/
/-- the memory, but the cover's sets are F -/
def mkc (M : xv_M) (F : Nat → Int64) : xv_M := xv_rJ M 32 F
theorem mkc_J {M : xv_M} {F : Nat → Int64} {i : Nat} : xv_J (mkc M F) 32 i = F i := by simp [mkc, xv_J, xv_rJ, xv_rw]
theorem mkc_Jn {M : xv_M} {F : Nat → Int64} {r i : Nat} (h : r ≠ 32) : xv_J (mkc M F) r i = xv_J M r i := by simp [mkc, xv_J, xv_rJ, xv_rw, h]
theorem mkc_I {M : xv_M} {F : Nat → Int64} {r i : Nat} : xv_I (mkc M F) r i = xv_I M r i := rfl
theorem mkc_OK {M : xv_M} {F : Nat → Int64} : xl_OK (mkc M F) = xl_OK M := rfl
def upJ (F : Nat → Int64) (i : Nat) (v : Int64) : Nat → Int64 := fun j => if j = i then v else F j
theorem upJ_s {F : Nat → Int64} {i : Nat} {v : Int64} : upJ F i v i = v := if_pos rfl
theorem upJ_n {F : Nat → Int64} {i j : Nat} {v : Int64} (h : j ≠ i) : upJ F i v j = F j := if_neg h
theorem mkc_sJ {M : xv_M} {F : Nat → Int64} {i : Nat} {v : Int64} : xv_sJ (mkc M F) 32 i v = mkc M (upJ F i v) := by
  unfold mkc xv_sJ xv_rJ
  simp only [Prod.mk.injEq, true_and, and_true]
  funext r j
  by_cases h : r = 32
  · subst h
    simp [xv_up, xv_rw, upJ]
  · simp [xv_up, xv_rw, h]
theorem mkc_self (M : xv_M) : mkc M (xv_J M 32) = M := by
  unfold mkc xv_rJ
  obtain ⟨K, I, J, P⟩ := M
  simp only [Prod.mk.injEq, true_and, and_true]
  funext r j
  by_cases h : r = 32
  · subst h
    simp [xv_rw, xv_J]
  · simp [xv_rw, h]
theorem mkc_sm {M : xv_M} {F : Nat → Int64} {l u : Nat} (h : ¬ (l ≤ 32 ∧ 32 ≤ u)) : Sm l u M (mkc M F) := fun r j h1 h2 => ⟨rfl, mkc_Jn (by omega)⟩
theorem xm_fillJ {M : xv_M} {F : Nat → Int64} (h : xl_OK M) {v : Int64} : ∃ G, D_J7_fill_d0a16 32 v (mkc M F) = some ((), mkc M G) ∧ ∀ i, i < 1001 → G i = v := by
  have hO : ∀ G, xl_OK (mkc M G) := fun _ => h
  unfold D_J7_fill_d0a16 xv_len
  rw [if_pos (by rw [xk_32 (hO F)]), xk_32 (hO F)]
  refine xe_inv0 (I := fun (k : Nat) (s : Int × xv_M) => s.1 = (k : Int) ∧ ∃ G, s.2 = mkc M G ∧ ∀ i, i < k → G i = v) (n := 1001) (P := fun z => ∃ G, z = some ((), mkc M G) ∧ ∀ i, i < 1001 → G i = v) (by decide) ⟨rfl, F, rfl, fun i hi => by omega⟩ ?_ ?_
  · rintro k ⟨i, M1⟩ hk ⟨hi, G, hG, hv⟩
    dsimp only at hi hG ⊢
    subst hi hG
    have ek : ((k : Int) + 1) = ((k + 1 : Nat) : Int) := by omega
    refine ⟨(((k + 1 : Nat) : Int), mkc M (upJ G k v)), ⟨rfl, _, rfl, fun i hi => ?_⟩, fun f => ?_⟩
    · by_cases hik : i = k
      · subst hik; exact upJ_s
      · rw [upJ_n hik]; exact hv i (by omega)
    · rw [xe_cmp (by omega) (by omega) (by decide) (by decide), if_neg (by omega), xw_32 (hO G) (by omega) (by omega), mkc_sJ, Int.toNat_natCast, ek]
  · rintro ⟨i, M1⟩ ⟨hi, G, hG, hv⟩ f
    dsimp only at hi hG ⊢
    subst hi hG
    rw [xe_cmp (by decide) (by decide) (by decide) (by decide), if_pos (by decide)]
    exact ⟨G, rfl, hv⟩
theorem xm_flip {M : xv_M} {F : Nat → Int64} (h : xl_OK M) {x : Int} {s : Nat} (hx : 0 ≤ x ∧ x ≤ 100000) (hs : s < 60) : ∃ G, D_X0_flip 31 x (s : Int) (mkc M F) = some ((), mkc M G) ∧ ∀ i, i ≤ 1000 → ∀ t, t < 64 → xb (G i) t = (xb (F i) t ^^ decide (x = (i : Int) ∧ t = s)) := by
  have hO : ∀ G, xl_OK (mkc M G) := fun _ => h
  unfold D_X0_flip
  rw [xm_isPlace (by omega), xe_call, xe_b0]
  by_cases hp : 0 ≤ x ∧ x ≤ 1000
  · rw [if_pos hp, xg_31_0 (hO F), xa_32 (hO F) (by omega) (by omega), mkc_J, xw_32 (hO F) (by omega) (by omega), mkc_sJ]
    refine ⟨_, rfl, fun i hi t ht => ?_⟩
    by_cases hix : i = x.toNat
    · subst hix
      rw [upJ_s, xb_xor, xb_shl (by omega)]
      have : (x = ((x.toNat : Nat) : Int)) := by omega
      by_cases hts : t = s <;> simp [hts, ← this]
    · rw [upJ_n hix]
      have : ¬ x = (i : Int) := by omega
      simp [this]
  · rw [if_neg hp]
    refine ⟨F, rfl, fun i hi t ht => ?_⟩
    have : ¬ x = (i : Int) := by omega
    simp [this]
theorem xm_isThere {M : xv_M} {a : RW} (h : xl_OK M) (hS : SBs 3 a M) {s : Nat} (hs : s < 60) : D_X5_isThere 4 (s : Int) M = some (if s < rn a ∧ a (6 + 7 * s + 4) = 1 then 1 else 0, M) := by
  unfold D_X5_isThere
  rw [xg_4_1 h, xm_isMember (by omega), xe_call]
  have e : xb (xv_J M 4 1) s = decide (s < rn a ∧ a (6 + 7 * s + 4) = 1) := hS.2.1 s (by omega)
  rw [e]
  by_cases hc : s < rn a ∧ a (6 + 7 * s + 4) = 1
  · rw [if_pos (decide_eq_true hc), if_pos hc, xe_g1]
  · rw [if_neg (fun q => hc (of_decide_eq_true q)), if_neg hc, xe_g0]
/-- spans that are there have their places on the line -/
def rPl (a : RW) : Prop := ∀ s : Nat, s < rn a → a (6 + 7 * s + 4) = 1 → 0 ≤ a (6 + 7 * s + 2) ∧ a (6 + 7 * s + 2) ≤ a (6 + 7 * s + 3) ∧ a (6 + 7 * s + 3) ≤ 1000
theorem SBs.cov {M : xv_M} {a : RW} {F : Nat → Int64} (h : SBs 3 a M) : SBs 3 a (mkc M F) := h.sm (mkc_sm (by omega))
theorem xm_cover {M : xv_M} {a : RW} (h : xl_OK M) (hS : SBs 3 a M) (hn : 0 ≤ a 1 ∧ a 1 ≤ 60) (hpl : rPl a) : ∃ G, D_X0_build 31 4 M = some ((), mkc M G) ∧ CC a (mkc M G) := by
  have hO : ∀ G, xl_OK (mkc M G) := fun _ => h
  have hSG : ∀ G, SBs 3 a (mkc M G) := fun G => hS.cov
  have er : ((rn a : Nat) : Int) = a 1 := by show (((a 1).toNat : Nat) : Int) = a 1; omega
  have hn6 : rn a ≤ 60 := by omega
  have hsz : ∀ G, xv_I (mkc M G) 4 0 = a 1 := fun G => hS.1
  obtain ⟨G0, d0, z0⟩ := xm_fillJ (F := xv_J M 32) h (v := 0)
  rw [mkc_self] at d0
  unfold D_X0_build
  rw [xg_31_0 h, d0, xe_call]
  refine xe_inv0 (I := fun (k : Nat) (s : Int × xv_M) => s.1 = (k : Int) ∧ ∃ G, s.2 = mkc M G ∧ ∀ i, i ≤ 1000 → ∀ t, t < 64 → xb (G i) t = decide (t < k ∧ a (6 + 7 * t + 4) = 1 ∧ ((i : Int) = a (6 + 7 * t + 2) ∨ (i : Int) = a (6 + 7 * t + 3) + 1))) (n := rn a) (P := fun z => ∃ G, z = some ((), mkc M G) ∧ CC a (mkc M G)) (by omega) ⟨rfl, G0, rfl, fun i hi t ht => ?_⟩ ?_ ?_
  · rw [z0 i (by omega), xb_0]
    simp
  · rintro k ⟨i, M1⟩ hk ⟨hi, G, hG, hv⟩
    dsimp only at hi hG ⊢
    subst hi hG
    have ek : ((k : Int) + 1) = ((k + 1 : Nat) : Int) := by omega
    by_cases ht : a (6 + 7 * k + 4) = 1
    · have hp := hpl k hk ht
      obtain ⟨G1, d1, v1⟩ := xm_flip (F := G) h (x := a (6 + 7 * k + 2)) (s := k) (by omega) (by omega)
      obtain ⟨G2, d2, v2⟩ := xm_flip (F := G1) h (x := a (6 + 7 * k + 3) + 1) (s := k) (by omega) (by omega)
      refine ⟨(((k + 1 : Nat) : Int), mkc M G2), ⟨rfl, G2, rfl, fun i hi t htt => ?_⟩, fun f => ?_⟩
      · rw [v2 i hi t htt, v1 i hi t htt, hv i hi t htt]
        by_cases htk : t = k
        · subst htk
          have e1 : decide (t < t ∧ a (6 + 7 * t + 4) = 1 ∧ ((i : Int) = a (6 + 7 * t + 2) ∨ (i : Int) = a (6 + 7 * t + 3) + 1)) = false := by simp
          rw [e1]
          by_cases q1 : (i : Int) = a (6 + 7 * t + 2)
          · have q2 : ¬ a (6 + 7 * t + 3) + 1 = (i : Int) := by omega
            simp [q1.symm, q2, ht]
          · by_cases q2 : a (6 + 7 * t + 3) + 1 = (i : Int)
            · simp [Ne.symm q1, q2, ht]
            · simp [Ne.symm q1, q2, ht, q1, Ne.symm q2]
        · have : (t < k + 1) = (t < k) := by apply propext; omega
          simp [htk, this]
      · rw [xg_4_0 (hO G), hsz, xe_cmp (by omega) (by omega) (by omega) (by omega), if_neg (by omega)]
        have f1 : xv_I (mkc M G) 7 k = a (6 + 7 * k + 2) := (hS.2.2.1 k hk).2.2.1
        have f2 : xv_I (mkc M G1) 8 k = a (6 + 7 * k + 3) := (hS.2.2.1 k hk).2.2.2.1
        rw [xr_4 (hO G), xm_isThere (hO G) (hSG G) (by omega), xe_call, xe_let, xe_b0, if_pos ⟨hk, ht⟩]
        rw [xg_4_4 (hO G), xa_7 (hO G) (by omega) (by omega), Int.toNat_natCast, f1, xr_31 (hO G), d1, xe_call]
        rw [xg_4_5 (hO G1), xa_8 (hO G1) (by omega) (by omega), Int.toNat_natCast, f2, xr_31 (hO G1), d2, xe_call, ek]
    · refine ⟨(((k + 1 : Nat) : Int), mkc M G), ⟨rfl, G, rfl, fun i hi t htt => ?_⟩, fun f => ?_⟩
      · rw [hv i hi t htt]
        by_cases htk : t = k
        · subst htk
          simp [ht]
        · have : (t < k + 1) = (t < k) := by apply propext; omega
          simp [this]
      · rw [xg_4_0 (hO G), hsz, xe_cmp (by omega) (by omega) (by omega) (by omega), if_neg (by omega)]
        rw [xr_4 (hO G), xm_isThere (hO G) (hSG G) (by omega), xe_call, xe_let, xe_b0, if_neg (fun q => ht q.2), ek]
  · rintro ⟨i, M1⟩ ⟨hi, G, hG, hv⟩ f
    dsimp only at hi hG ⊢
    subst hi hG
    rw [xg_4_0 (hO G), hsz, xe_cmp (by omega) (by omega) (by omega) (by omega), if_pos (by omega)]
    refine xe_inv (I := fun (k : Nat) (s : Int × xv_M) => s.1 = (k : Int) ∧ 1 ≤ k ∧ ∃ G', s.2 = mkc M G' ∧ (∀ i, i ≤ 1000 → k ≤ i → G' i = G i) ∧ ∀ i, i < k → i ≤ 1000 → ∀ t, t < 64 → xb (G' i) t = decide (t < rn a ∧ rCov a t (i : Int))) (n := 1001) (P := fun z => ∃ G, z = some ((), mkc M G) ∧ CC a (mkc M G)) ?_ ?_ xv_fuel 1 _ (by decide) (by unfold xv_fuel; decide) ⟨rfl, by omega, G, rfl, fun _ _ _ => rfl, fun i hi hi2 t ht => ?_⟩
    · rintro k ⟨i, M1⟩ hk ⟨hi, h1, G', hG', hs, hv'⟩
      dsimp only at hi hG' ⊢
      subst hi hG'
      have ek : ((k : Int) + 1) = ((k + 1 : Nat) : Int) := by omega
      have em : ((k : Int) - 1).toNat = k - 1 := by omega
      refine ⟨(((k + 1 : Nat) : Int), mkc M (upJ G' k (G' k ^^^ G' (k - 1)))), ⟨rfl, by omega, _, rfl, fun i q1 q2 => by rw [upJ_n (by omega)]; exact hs i q1 (by omega), fun i q1 q2 t ht => ?_⟩, fun f => ?_⟩
      · by_cases hik : i = k
        · subst hik
          rw [upJ_s, xb_xor, hs i q2 (by omega), hv i q2 t ht, hv' (i - 1) (by omega) (by omega) t ht]
          have ec : ((i - 1 : Nat) : Int) = (i : Int) - 1 := by omega
          rw [ec]
          by_cases c1 : t < rn a ∧ a (6 + 7 * t + 4) = 1
          · have hp := hpl t c1.1 c1.2
            unfold rCov
            by_cases q3 : (i : Int) = a (6 + 7 * t + 2)
            · have : ¬ (a (6 + 7 * t + 2) ≤ (i : Int) - 1) := by omega
              have h9 : (i : Int) ≤ a (6 + 7 * t + 3) := by omega
              have h8 : a (6 + 7 * t + 2) ≤ (i : Int) := by omega
              rw [decide_eq_true (show t < rn a ∧ a (6 + 7 * t + 4) = 1 ∧ ((i : Int) = a (6 + 7 * t + 2) ∨ (i : Int) = a (6 + 7 * t + 3) + 1) from ⟨c1.1, c1.2, Or.inl q3⟩), decide_eq_false (show ¬ (t < rn a ∧ a (6 + 7 * t + 4) = 1 ∧ a (6 + 7 * t + 2) ≤ (i : Int) - 1 ∧ (i : Int) - 1 ≤ a (6 + 7 * t + 3)) from fun z => this z.2.2.1), decide_eq_true (show t < rn a ∧ a (6 + 7 * t + 4) = 1 ∧ a (6 + 7 * t + 2) ≤ (i : Int) ∧ (i : Int) ≤ a (6 + 7 * t + 3) from ⟨c1.1, c1.2, h8, h9⟩)]
              rfl
            · by_cases q4 : (i : Int) = a (6 + 7 * t + 3) + 1
              · have z1 : a (6 + 7 * t + 2) ≤ (i : Int) - 1 := by omega
                have z2 : (i : Int) - 1 ≤ a (6 + 7 * t + 3) := by omega
                have z3 : ¬ (i : Int) ≤ a (6 + 7 * t + 3) := by omega
                rw [decide_eq_true (show t < rn a ∧ a (6 + 7 * t + 4) = 1 ∧ ((i : Int) = a (6 + 7 * t + 2) ∨ (i : Int) = a (6 + 7 * t + 3) + 1) from ⟨c1.1, c1.2, Or.inr q4⟩), decide_eq_true (show t < rn a ∧ a (6 + 7 * t + 4) = 1 ∧ a (6 + 7 * t + 2) ≤ (i : Int) - 1 ∧ (i : Int) - 1 ≤ a (6 + 7 * t + 3) from ⟨c1.1, c1.2, z1, z2⟩), decide_eq_false (show ¬ (t < rn a ∧ a (6 + 7 * t + 4) = 1 ∧ a (6 + 7 * t + 2) ≤ (i : Int) ∧ (i : Int) ≤ a (6 + 7 * t + 3)) from fun z => z3 z.2.2.2)]
                rfl
              · have z1 : (a (6 + 7 * t + 2) ≤ (i : Int) - 1 ∧ (i : Int) - 1 ≤ a (6 + 7 * t + 3)) ↔ (a (6 + 7 * t + 2) ≤ (i : Int) ∧ (i : Int) ≤ a (6 + 7 * t + 3)) := by omega
                have z4 : ¬ ((i : Int) = a (6 + 7 * t + 2) ∨ (i : Int) = a (6 + 7 * t + 3) + 1) := by omega
                rw [decide_eq_false (fun z => z4 z.2.2), Bool.false_xor]
                apply decide_eq_decide.mpr
                constructor
                · intro z; exact ⟨z.1, z.2.1, z1.mp z.2.2⟩
                · intro z; exact ⟨z.1, z.2.1, z1.mpr z.2.2⟩
          · have w1 : ¬ (t < rn a ∧ a (6 + 7 * t + 4) = 1 ∧ ((i : Int) = a (6 + 7 * t + 2) ∨ (i : Int) = a (6 + 7 * t + 3) + 1)) := fun z => c1 ⟨z.1, z.2.1⟩
            have w2 : ¬ (t < rn a ∧ rCov a t ((i : Int) - 1)) := fun z => c1 ⟨z.1, z.2.1⟩
            have w3 : ¬ (t < rn a ∧ rCov a t (i : Int)) := fun z => c1 ⟨z.1, z.2.1⟩
            rw [decide_eq_false w1, decide_eq_false w2, decide_eq_false w3]
            rfl
        · rw [upJ_n hik]
          exact hv' i (by omega) q2 t ht
      · rw [xe_cmp (by omega) (by omega) (by decide) (by decide), if_neg (by omega)]
        rw [xg_31_0 (hO G'), xa_32 (hO G') (by omega) (by omega), mkc_J, xg_31_0 (hO G'), xa_32 (hO G') (by omega) (by omega), mkc_J, xw_32 (hO G') (by omega) (by omega), mkc_sJ, em, Int.toNat_natCast, ek]
    · rintro ⟨i, M1⟩ ⟨hi, h1, G', hG', hs, hv'⟩ f
      dsimp only at hi hG' ⊢
      subst hi hG'
      rw [xe_cmp (by decide) (by decide) (by decide) (by decide), if_pos (by decide)]
      refine ⟨G', rfl, fun x hx s hs' => ?_⟩
      rw [mkc_J]
      exact hv' x (by omega) hx s hs'
    · have : i = 0 := by omega
      subst this
      rw [hv 0 (by omega) t ht]
      apply decide_eq_decide.mpr
      constructor
      · rintro ⟨z1, z2, z3⟩
        have hp := hpl t z1 z2
        exact ⟨z1, z2, by omega⟩
      · rintro ⟨z1, z2, z3⟩
        have hp := hpl t z1 z2
        exact ⟨z1, z2, by omega⟩
