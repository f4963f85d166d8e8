/-! ## the class: readSpans; type, clearText of both -/
section TXS
variable {M : xv_M} {t : Nat → Int} {n : Nat} {a H : RW} {k : Nat}
theorem xc_rdA (h : CLh a H k M) (tc : TC t n M) (tk : tOK t n) {N : Nat} (hN : N ≤ 10) (hg : ∀ i, i < N → tGo t n i) (hx : ¬ tGo t n N) (hf : ¬ tFine t n N) : ∃ M', D_X11_readSpans 1 M = some (-100 - (tEnd t n (tPk t n N) : Int), M') ∧ RdF M M' := by
  have hO := h.1.1.1
  have hn := tk.1
  obtain ⟨_, b2⟩ := tPk_le N hg
  have b3 := tEnd_le (t := t) b2
  obtain ⟨M1, d1, r1, _⟩ := xm_readRow hO tc tk hN hg hx
  unfold D_X11_readSpans
  rw [xg_1_4 hO, xg_1_3 hO, xr_183 hO, d1, xe_call, if_neg hf, xe_cmp (by omega) (by omega) (by decide) (by decide), if_neg (by omega)]
  exact ⟨M1, rfl, r1⟩
theorem xc_rdB (h : CLh a H k M) (tc : TC t n M) (tk : tOK t n) {N : Nat} (hN : N ≤ 10) (hg : ∀ i, i < N → tGo t n i) (hx : ¬ tGo t n N) (hf : tFine t n N) {b : Nat} (hb : b < N + 1) (hv : ∀ k, k < b → tVok t n (tPk t n k)) (hbx : ¬ tVok t n (tPk t n b)) : ∃ M', D_X11_readSpans 1 M = some (-2, M') ∧ RdF M M' := by
  have hO := h.1.1.1
  obtain ⟨M1, d1, r1, c1⟩ := xm_readRow hO tc tk hN hg hx
  obtain ⟨s1, c1⟩ := c1 hf
  have o1 := r1.ok hO
  unfold D_X11_readSpans
  rw [xg_1_4 hO, xg_1_3 hO, xr_183 hO, d1, xe_call, if_pos hf, xe_cmp (by decide) (by decide) (by decide) (by decide), if_pos rfl, xg_1_4 o1, xr_183 o1, xm_allAre0 o1 hN s1 c1 hb hv hbx, xe_call, xe_cmp (by decide) (by decide) (by decide) (by decide), if_neg (by decide)]
  exact ⟨M1, rfl, r1⟩
theorem xc_rdC (h : CLh a H k M) (tc : TC t n M) (tk : tOK t n) {N : Nat} (hN : N ≤ 10) (hg : ∀ i, i < N → tGo t n i) (hx : ¬ tGo t n N) (hf : tFine t n N) (hv : ∀ k, k < N + 1 → tVok t n (tPk t n k)) (hr : ¬ a 1 + ((N + 1 : Nat) : Int) ≤ 60) : ∃ M', D_X11_readSpans 1 M = some (-3, M') ∧ RdF M M' := by
  have hO := h.1.1.1
  have g1 := h.2.1.1.1.2.1
  obtain ⟨M1, d1, r1, c1⟩ := xm_readRow hO tc tk hN hg hx
  obtain ⟨s1, c1⟩ := c1 hf
  have o1 := r1.ok hO
  have hz : xv_I M1 4 0 = a 1 := (h.scr r1.scr).1.1.2.2.1.1
  unfold D_X11_readSpans
  rw [xg_1_4 hO, xg_1_3 hO, xr_183 hO, d1, xe_call, if_pos hf, xe_cmp (by decide) (by decide) (by decide) (by decide), if_pos rfl, xg_1_4 o1, xr_183 o1, xm_allAre o1 hN s1 c1 hv, xe_call, xe_cmp (by decide) (by decide) (by decide) (by decide), if_pos (by decide)]
  rw [xg_1_0 o1, xg_2_0 o1, xg_3_1 o1, xg_4_0 o1, hz, xg_1_4 o1, xg_183_0 o1, s1, xe_cmp (by omega) (by omega) (by decide) (by decide), if_neg hr]
  exact ⟨M1, rfl, r1⟩
theorem tF_if (t : Nat → Int) (n p : Nat) : (if (if tCh t n p 91 then (1 : Int) else 0) = 0 then tL t n p + 1 else tL t n p) = tF t n p := by
  unfold tF
  by_cases c : tCh t n p 91
  · rw [if_pos c, if_neg (by decide), if_pos c]
  · rw [if_neg c, if_pos rfl, if_neg c]
theorem tG_if (t : Nat → Int) (n p : Nat) : (if (if tCh t n (tE t n p) 93 then (1 : Int) else 0) = 0 then tR t n p - 1 else tR t n p) = tG t n p := by
  unfold tG
  by_cases c : tCh t n (tE t n p) 93
  · rw [if_pos c, if_neg (by decide), if_pos c]
  · rw [if_neg c, if_pos rfl, if_neg c]
theorem t01 (c : Prop) [Decidable c] : (if c then (1 : Int) else 0) = 0 ∨ (if c then (1 : Int) else 0) = 1 := by
  by_cases hc : c
  · rw [if_pos hc]; exact Or.inr rfl
  · rw [if_neg hc]; exact Or.inl rfl
theorem xc_rdD (hbc : BC) (h : CLh a H k M) (tc : TC t n M) (tk : tOK t n) {N : Nat} (hN : N ≤ 10) (hg : ∀ i, i < N → tGo t n i) (hx : ¬ tGo t n N) (hf : tFine t n N) (hv : ∀ k, k < N + 1 → tVok t n (tPk t n k)) (hr : a 1 + ((N + 1 : Nat) : Int) ≤ 60) : ∃ M0 M', Scr M M0 ∧ D_X11_readSpans 1 M = some (((N + 1 : Nat) : Int), M') ∧ CAct a H k M0 M' (some (rRow a t n (N + 1))) := by
  have hO := h.1.1.1
  have g1 := h.2.1.1.1.2.1
  obtain ⟨M1, d1, r1, c1⟩ := xm_readRow hO tc tk hN hg hx
  obtain ⟨s1, c1⟩ := c1 hf
  have o1 := r1.ok hO
  have h1 := h.scr r1.scr
  have hz : xv_I M1 4 0 = a 1 := h1.1.1.2.2.1.1
  obtain ⟨M2, d2, rc, f2, _⟩ := xc_rec h1
  have o2 := rc.1.1.1
  have gv : ∀ i, i < N + 1 → tGood t n (tPk t n i) ∧ tVok t n (tPk t n i) := fun i hi => by
    refine ⟨?_, hv i hi⟩
    by_cases e : i = N
    · rw [e]; exact hf.1
    · exact (hg i (by omega)).1
  have ro := rRow_ok h.2.1 hr gv
  suffices L : ∃ M', xv_fix (fun (f19 : (Int × xv_M) → Option (Int × xv_M)) (x18 : Int × xv_M) => (xv_gP x18.2 11 1 4 (fun v20 => (xv_gI x18.2 4 v20 0 (fun v21 => (xv_cmp x18.1 v21 (v21 ≤ x18.1) (xv_gP x18.2 11 1 4 (fun v22 => (xv_gI x18.2 4 v22 0 (fun v23 => (some (v23, x18.2)))))) (xv_gP x18.2 11 1 0 (fun v24 => (xv_gP x18.2 11 1 4 (fun v25 => (xv_gP x18.2 4 v25 1 (fun v26 => (xv_aI x18.2 14 v26 x18.1 (fun v27 => (xv_gP x18.2 11 1 4 (fun v28 => (xv_gP x18.2 4 v28 2 (fun v29 => (xv_aI x18.2 14 v29 x18.1 (fun v30 => (xv_gP x18.2 11 1 4 (fun v31 => (xv_gP x18.2 4 v31 3 (fun v32 => (xv_aI x18.2 16 v32 x18.1 (fun v33 => (xv_gP x18.2 11 1 4 (fun v34 => (xv_gP x18.2 4 v34 4 (fun v35 => (xv_aI x18.2 16 v35 x18.1 (fun v36 => (xv_call (xv_rc x18.2 2 v24 (D_X2_addSpan v24 v27 v30 v33 v36 x18.2)) (fun z38 M37 => (f19 ((x18.1 + 1), M37)))))))))))))))))))))))))))))))))))) xv_fuel ((0 : Int), M2) = some (((N + 1 : Nat) : Int), M') ∧ CAct a H k M1 M' (some (rRow a t n (N + 1))) by
    obtain ⟨M', e, c⟩ := L
    refine ⟨M1, M', r1.scr, ?_, c⟩
    unfold D_X11_readSpans
    rw [xg_1_4 hO, xg_1_3 hO, xr_183 hO, d1, xe_call, if_pos hf, xe_cmp (by decide) (by decide) (by decide) (by decide), if_pos rfl, xg_1_4 o1, xr_183 o1, xm_allAre o1 hN s1 c1 hv, xe_call, xe_cmp (by decide) (by decide) (by decide) (by decide), if_pos (by decide)]
    rw [xg_1_0 o1, xg_2_0 o1, xg_3_1 o1, xg_4_0 o1, hz, xg_1_4 o1, xg_183_0 o1, s1, xe_cmp (by omega) (by omega) (by decide) (by decide), if_pos hr]
    rw [xg_1_1 o1, xg_1_0 o1, xg_2_0 o1, xr_39 o1, d2, xe_call, e]
  refine xe_inv0 (I := fun (i : Nat) (s : Int × xv_M) => s.1 = (i : Int) ∧ LN (rRow a t n i) s.2 ∧ Sm 39 1000 M2 s.2 ∧ FQ M2 s.2) (n := N + 1) (P := fun d => ∃ M', d = some (((N + 1 : Nat) : Int), M') ∧ CAct a H k M1 M' (some (rRow a t n (N + 1)))) (by omega) ⟨rfl, rc.1, Sm.rf, fq0 o2⟩ ?_ ?_
  · rintro i ⟨j, X⟩ hi ⟨hj, lx, sx, px⟩
    dsimp only at hj lx sx px ⊢
    subst hj
    have ox := lx.1.1
    have ei : ((i : Int)).toNat = i := Int.toNat_natCast i
    have sm : ∀ r j, 183 ≤ r → r ≤ 187 → xv_I X r j = xv_I M1 r j := fun r j q1 q2 => ((sx r j (by omega) (by omega)).1).trans ((f2.1 r j (by omega) (by omega)).1)
    have sz : xv_I X 183 0 = ((N + 1 : Nat) : Int) := (sm 183 0 (by decide) (by decide)).trans s1
    obtain ⟨e1, e2, e3, e4⟩ := (c1 i hi).mv (M' := X) (fun r q1 q2 => sm r i (by omega) q2)
    obtain ⟨i1, i2⟩ := ro i (by omega)
    obtain ⟨g, v⟩ := gv i hi
    have hb := tVok_b g v
    obtain ⟨M3, d3, l3, s3, p3⟩ := xm_addSpan hbc lx i1.1 (by omega) (l := tL t n (tPk t n i)) (r := tR t n (tPk t n i)) (t01 (tCh t n (tPk t n i) 91)) (t01 (tCh t n (tE t n (tPk t n i)) 93)) (by rw [tF_if, tG_if]; exact hb)
    rw [tF_if, tG_if] at l3
    refine ⟨((i : Int) + 1, M3), ⟨by show (i : Int) + 1 = ((i + 1 : Nat) : Int); omega, l3, sx.tr s3, px.tr p3⟩, fun f => ?_⟩
    rw [xg_1_4 ox, xg_183_0 ox, sz, xe_cmp (by omega) (by omega) (by omega) (by omega), if_neg (by omega), xg_1_0 ox, xg_1_4 ox, xg_183_1 ox, xa_184 ox (by omega) (by omega), ei, e1, xg_1_4 ox, xg_183_2 ox, xa_185 ox (by omega) (by omega), ei, e2, xg_1_4 ox, xg_183_3 ox, xa_186 ox (by omega) (by omega), ei, e3, xg_1_4 ox, xg_183_4 ox, xa_187 ox (by omega) (by omega), ei, e4, xr_2 ox, d3, xe_call]
  · rintro ⟨j, X⟩ ⟨hj, lx, sx, px⟩ f
    dsimp only at hj lx sx px ⊢
    subst hj
    have ox := lx.1.1
    have sz : xv_I X 183 0 = ((N + 1 : Nat) : Int) := (((sx 183 0 (by omega) (by omega)).1).trans ((f2.1 183 0 (by omega) (by omega)).1)).trans s1
    obtain ⟨cl, fr⟩ := xc_fin rc h.2.2.2.1 lx (ro (N + 1) (Nat.le_refl _)).1 sx px
    rw [xg_1_4 ox, xg_183_0 ox, sz, xe_cmp (by omega) (by omega) (by omega) (by omega), if_pos (by omega), xg_1_4 ox, xg_183_0 ox, sz]
    exact ⟨X, rfl, cl, f2.tr fr⟩
end TXS
/-! type, clearText -/
theorem ok_type {M : xv_M} (hi : INV M) {c : Int} (hc : 0 ≤ c ∧ c ≤ 65535) : ok2 (D_X11_type 1 c) (D_X12_type 188 c) M := by
  have hO := hi.ok
  obtain ⟨k, hk, cl, sl, tx⟩ := hi
  obtain ⟨n, hn, h1, h2, h3⟩ := tx
  have in1 : ((n : Int)).toNat = n := Int.toNat_natCast n
  by_cases e : n = 60
  · refine ⟨-3, M, M, hO, ?_, ?_, k, hk, cl, sl, n, hn, h1, h2, h3⟩
    · unfold D_X11_type D_X7_append
      rw [xg_1_3 hO, xr_181 hO, xg_181_0 hO, h1, xe_cmp (by omega) (by omega) (by decide) (by decide), if_neg (by omega), xe_g0, xe_call, xe_cmp (by decide) (by decide) (by decide) (by decide), if_pos rfl]
    · unfold D_X12_type
      rw [xg_188_5 hO, h2, xe_cmp (by omega) (by omega) (by decide) (by decide), if_neg (by omega)]
  · obtain ⟨M1, hM1⟩ : ∃ M1, M1 = xv_sI M 182 n c := ⟨_, rfl⟩
    obtain ⟨M2, hM2⟩ : ∃ M2, M2 = xv_sI M1 181 0 ((n : Int) + 1) := ⟨_, rfl⟩
    obtain ⟨M3, hM3⟩ : ∃ M3, M3 = xv_sI M2 192 n c := ⟨_, rfl⟩
    obtain ⟨M4, hM4⟩ : ∃ M4, M4 = xv_sI M3 188 5 ((n : Int) + 1) := ⟨_, rfl⟩
    have o1 : xl_OK M1 := by rw [hM1]; exact hO
    have o2 : xl_OK M2 := by rw [hM2]; exact o1
    have o3 : xl_OK M3 := by rw [hM3]; exact o2
    have o4 : xl_OK M4 := by rw [hM4]; exact o3
    have q1 : xv_I M1 181 0 = (n : Int) := by rw [hM1, xe_I_sI, if_neg (by omega)]; exact h1
    have q2 : xv_I M2 181 0 = (n : Int) + 1 := by rw [hM2, xe_I_sI, if_pos ⟨rfl, rfl⟩]
    have q3 : xv_I M2 188 5 = (n : Int) := by rw [hM2, xe_I_sI, if_neg (by omega), hM1, xe_I_sI, if_neg (by omega)]; exact h2
    have q4 : xv_I M3 188 5 = (n : Int) := by rw [hM3, xe_I_sI, if_neg (by omega)]; exact q3
    have q5 : xv_I M4 188 5 = (n : Int) + 1 := by rw [hM4, xe_I_sI, if_pos ⟨rfl, rfl⟩]
    have fr : ∀ r j, r ≠ 181 → r ≠ 182 → r ≠ 192 → ¬ (r = 188 ∧ j = 5) → xv_I M4 r j = xv_I M r j := fun r j z1 z2 z3 z4 => by
      rw [hM4, xe_I_sI, if_neg (by omega), hM3, xe_I_sI, if_neg (by omega), hM2, xe_I_sI, if_neg (by omega), hM1, xe_I_sI, if_neg (by omega)]
    have sm : ∀ l u, u < 181 → Sm l u M M4 := fun l u z r j z1 z2 => ⟨fr r j (by omega) (by omega) (by omega) (by omega), by rw [hM4, hM3, hM2, hM1]; rfl⟩
    have e189 : xv_I M4 189 = xv_I M 189 := funext fun j => fr 189 j (by decide) (by decide) (by decide) (by omega)
    have e190 : xv_I M4 190 = xv_I M 190 := funext fun j => fr 190 j (by decide) (by decide) (by decide) (by omega)
    have e191 : xv_I M4 191 = xv_I M 191 := funext fun j => fr 191 j (by decide) (by decide) (by decide) (by omega)
    refine ⟨(n : Int) + 1, M2, M4, o2, ?_, ?_, k, (fr 188 2 (by decide) (by decide) (by decide) (by decide)).trans hk, ?_, ?_, n + 1, by omega, ?_, ?_, ?_⟩
    · unfold D_X11_type D_X7_append
      rw [xg_1_3 hO, xr_181 hO, xg_181_0 hO, h1, xe_cmp (by omega) (by omega) (by decide) (by decide), if_pos (by omega), xg_181_1 hO, xg_181_0 hO, h1, xw_182 hO (by omega) (by omega) hc.1 hc.2, in1, ← hM1, xg_181_0 o1, q1, xu_181_0 o1, ← hM2, xe_g1, xe_call, xe_cmp (by decide) (by decide) (by decide) (by decide), if_neg (by decide), xg_1_3 o2, xg_181_0 o2, q2]
    · unfold D_X12_type
      rw [xg_188_5 o2, q3, xe_cmp (by omega) (by omega) (by decide) (by decide), if_pos (by omega), xg_188_6 o2, xg_188_5 o2, q3, xw_192 o2 (by omega) (by omega) hc.1 hc.2, in1, ← hM3, xg_188_5 o3, q4, xu_188_5 o3, ← hM4, xg_188_5 o4, q5]
    · rw [e189, e190]
      exact cl.fr o4 (by rw [hM4, hM3, hM2, hM1]; rfl) (sm _ _ (by omega))
    · exact sl.fr (fr 188 4 (by decide) (by decide) (by decide) (by decide)) (fr 1 5 (by decide) (by decide) (by decide) (by decide)) (sm _ _ (by omega)) e191
    · rw [hM4, xe_I_sI, if_neg (by omega), hM3, xe_I_sI, if_neg (by omega), q2]; omega
    · rw [q5]; omega
    · intro i hi
      by_cases ei : i = n
      · subst ei
        have w1 : xv_I M4 182 i = c := by rw [hM4, xe_I_sI, if_neg (by omega), hM3, xe_I_sI, if_neg (by omega), hM2, xe_I_sI, if_neg (by omega), hM1, xe_I_sI, if_pos ⟨rfl, rfl⟩]
        have w2 : xv_I M4 192 i = c := by rw [hM4, xe_I_sI, if_neg (by omega), hM3, xe_I_sI, if_pos ⟨rfl, rfl⟩]
        rw [w1, w2]
        exact ⟨rfl, hc⟩
      · have w1 : xv_I M4 182 i = xv_I M 182 i := by rw [hM4, xe_I_sI, if_neg (by omega), hM3, xe_I_sI, if_neg (by omega), hM2, xe_I_sI, if_neg (by omega), hM1, xe_I_sI, if_neg (by omega)]
        have w2 : xv_I M4 192 i = xv_I M 192 i := by rw [hM4, xe_I_sI, if_neg (by omega), hM3, xe_I_sI, if_neg (by omega), hM2, xe_I_sI, if_neg (by omega), hM1, xe_I_sI, if_neg (by omega)]
        rw [w1, w2]
        exact h3 i (by omega)
theorem ok_clearText {M : xv_M} (hi : INV M) : ok2 (D_X11_clearText 1) (D_X12_clearText 188) M := by
  have hO := hi.ok
  obtain ⟨k, hk, cl, sl, tx⟩ := hi
  obtain ⟨n, hn, h1, h2, h3⟩ := tx
  obtain ⟨M1, hM1⟩ : ∃ M1, M1 = xv_sI M 181 0 0 := ⟨_, rfl⟩
  obtain ⟨M2, hM2⟩ : ∃ M2, M2 = xv_sI M1 188 5 0 := ⟨_, rfl⟩
  have o1 : xl_OK M1 := by rw [hM1]; exact hO
  have o2 : xl_OK M2 := by rw [hM2]; exact o1
  have q1 : xv_I M1 188 5 = (n : Int) := by rw [hM1, xe_I_sI, if_neg (by omega)]; exact h2
  have fr : ∀ r j, r ≠ 181 → ¬ (r = 188 ∧ j = 5) → xv_I M2 r j = xv_I M r j := fun r j z1 z2 => by
    rw [hM2, xe_I_sI, if_neg (by omega), hM1, xe_I_sI, if_neg (by omega)]
  have sm : ∀ l u, u < 181 → Sm l u M M2 := fun l u z r j z1 z2 => ⟨fr r j (by omega) (by omega), by rw [hM2, hM1]; rfl⟩
  have e189 : xv_I M2 189 = xv_I M 189 := funext fun j => fr 189 j (by decide) (by omega)
  have e190 : xv_I M2 190 = xv_I M 190 := funext fun j => fr 190 j (by decide) (by omega)
  have e191 : xv_I M2 191 = xv_I M 191 := funext fun j => fr 191 j (by decide) (by omega)
  refine ⟨(n : Int), M1, M2, o1, ?_, ?_, k, (fr 188 2 (by decide) (by decide)).trans hk, ?_, ?_, 0, by omega, ?_, ?_, fun i hi => absurd hi (Nat.not_lt_zero _)⟩
  · unfold D_X11_clearText
    rw [xg_1_3 hO, xg_181_0 hO, h1, xg_1_3 hO, xu_181_0 hO, ← hM1]
  · unfold D_X12_clearText
    rw [xg_188_5 o1, q1, xu_188_5 o1, ← hM2]
  · rw [e189, e190]
    exact cl.fr o2 (by rw [hM2, hM1]; rfl) (sm _ _ (by omega))
  · exact sl.fr (fr 188 4 (by decide) (by decide)) (fr 1 5 (by decide) (by decide)) (sm _ _ (by omega)) e191
  · rw [hM2, xe_I_sI, if_neg (by omega), hM1, xe_I_sI, if_pos ⟨rfl, rfl⟩]; rfl
  · rw [hM2, xe_I_sI, if_pos ⟨rfl, rfl⟩]; rfl
