/-! ## the class tells a walker -/
/-- the class's one state beside a row, but what walkers are inside of -/
def CB (a : RW) (M : xv_M) : Prop := xl_OK M ∧ xv_I M 3 0 = a 0 ∧ SBs 3 a M ∧ SBw 3 a M ∧ SBl 3 a M ∧ SBe 3 a M
theorem SBw.row {p : Nat} {a b : RW} {M : xv_M} (h : SBw p a M) (h2 : b 2 = a 2) (hw : ∀ w j : Nat, w < 6 → j < 6 → b (426 + 6 * w + j) = a (426 + 6 * w + j)) (hm : rm a ≤ 6) : SBw p b M := by
  obtain ⟨g1, g2, g3⟩ := h
  have em : rm b = rm a := by show (b 2).toNat = (a 2).toNat; rw [h2]
  refine ⟨by rw [h2]; exact g1, fun w hw' => ?_, fun w q1 q2 => g3 w q1 (by rw [em] at q2; exact q2)⟩
  rw [em] at hw'
  rw [hw w 0 (by omega) (by omega), hw w 1 (by omega) (by omega), hw w 2 (by omega) (by omega), hw w 3 (by omega) (by omega), hw w 4 (by omega) (by omega), hw w 5 (by omega) (by omega)]
  exact g2 w hw'
theorem SBl.row {p : Nat} {a b : RW} {M : xv_M} (h : SBl p a M) (h5 : b 5 = a 5) (hl : ∀ i, 822 ≤ i → b i = a i) : SBl p b M := by
  obtain ⟨g1, g2, g3⟩ := h
  refine ⟨by rw [h5]; exact g1, g2, fun k hk => ?_⟩
  rw [h5] at hk ⊢
  rw [hl _ (by omega), hl _ (by omega), hl _ (by omega), hl _ (by omega)]
  exact g3 k hk
theorem SBe.sm {p : Nat} {a : RW} {M M' : xv_M} (h : SBe p a M) (s : Sm (p + 17) (p + 22) M M') (hm : rm a ≤ 6) : SBe p a M' := fun w i q1 q2 q3 => by
  rw [(s (p + 17 + w) i (by omega) (by omega)).1]
  exact h w i q1 q2 q3
theorem SBe.row {p : Nat} {a b : RW} {M : xv_M} (h : SBe p a M) (h1 : b 1 = a 1) (h2 : b 2 = a 2) (hi : ∀ w s : Nat, w < rm a → s < rn a → 0 < b (462 + 60 * w + s) → b (462 + 60 * w + s) = a (462 + 60 * w + s)) : SBe p b M := fun w s q1 q2 q3 => by
  have en : rn b = rn a := by show (b 1).toNat = (a 1).toNat; rw [h1]
  have em : rm b = rm a := by show (b 2).toNat = (a 2).toNat; rw [h2]
  rw [em] at q1
  rw [en] at q2
  have e := hi w s q1 q2 q3
  rw [e] at q3 ⊢
  exact h w s q1 q2 q3
theorem xm_tellLeft {M : xv_M} {b : RW} {w s : Nat} (h : CB b M) (h5 : 0 ≤ b 5 ∧ b 5 ≤ 12) (hm : rm b ≤ 6) (hn : rn b ≤ 60) (hw : w < rm b) (hs : s < 60) : ∃ M', D_X2_tellLeft 2 (w : Int) (s : Int) M = some ((), M') ∧ CB (rLeave b w s) M' ∧ (∀ j, xv_J M' 14 j = xv_J M 14 j) ∧ Sm 31 1000 M M' := by
  obtain ⟨hM, ht, hS, hW, hL, hE⟩ := h
  have hw6 : w < 6 := by omega
  have hv : xv_I M 16 w = b (426 + 6 * w + 3) := (hW.2.1 w hw).2.2.2.1
  obtain ⟨c, hc⟩ : ∃ c : RW, c = rLv3 (rLv2 (rLv1 b w s) w) := ⟨_, rfl⟩
  have cx : ∀ i, i ≠ 4 → i ≠ 426 + 6 * w + 3 → i ≠ 462 + 60 * w + s → c i = b i := fun i q1 q2 q3 => by
    rw [hc]
    unfold rLv3 rLv2 rLv1
    rw [up1_n q1, up1_n q2, up1_n q3]
  have cl : c (426 + 6 * w + 3) = b (426 + 6 * w + 3) + 1 := by
    rw [hc]
    unfold rLv3 rLv2 rLv1
    rw [up1_n (by omega), up1_s, up1_n (by omega)]
  have ci : c (462 + 60 * w + s) = 0 := by
    rw [hc]
    unfold rLv3 rLv2 rLv1
    rw [up1_n (by omega), up1_n (by omega), up1_s]
  have e0 : c 0 = b 0 := cx 0 (by omega) (by omega) (by omega)
  have e1 : c 1 = b 1 := cx 1 (by omega) (by omega) (by omega)
  have e2 : c 2 = b 2 := cx 2 (by omega) (by omega) (by omega)
  have e5 : c 5 = b 5 := cx 5 (by omega) (by omega) (by omega)
  have em : rm c = rm b := by show (c 2).toNat = (b 2).toNat; rw [e2]
  have en : rn c = rn b := by show (c 1).toNat = (b 1).toNat; rw [e1]
  have iw : ((w : Int)).toNat = w := Int.toNat_natCast w
  obtain ⟨M1, hM1⟩ : ∃ M1 : xv_M, M1 = xv_sI M 16 w (b (426 + 6 * w + 3) + 1) := ⟨_, rfl⟩
  have hO1 : xl_OK M1 := by rw [hM1]; exact hM
  have hL1 : SBl 3 c M1 := (hL.row e5 (fun i hi => cx i (by omega) (by omega) (by omega))).sm (by rw [hM1]; exact Sm.sI (by omega))
  obtain ⟨M', d, k1, k2, k3, k4⟩ := xm_write (a := c) (k := 1) (w := (w : Int)) (x := (s : Int)) hO1 hL1 (by rw [e5]; exact h5)
  have hrl : rLeave b w s = rTells c 1 w s := by rw [hc]; rfl
  have s01 : Sm 0 15 M M1 := by rw [hM1]; exact Sm.sI (by omega)
  have s17 : Sm 17 1000 M M1 := by rw [hM1]; exact Sm.sI (by omega)
  refine ⟨M', ?_, ⟨k4, ?_, ?_, ?_, ?_, ?_⟩, fun j => ?_, (s17.sub (by omega) (by omega)).tr k3⟩
  · unfold D_X2_tellLeft
    rw [xg_2_0 hM, xg_3_2 hM, xg_11_5 hM, xa_16 hM (by omega) (by omega), iw, hv, xw_16 hM (by omega) (by omega), iw, ← hM1]
    rw [xg_2_0 hO1, xg_3_3 hO1, xg_2_0 hO1, xg_3_0 hO1, (s01 3 0 (by omega) (by omega)).1, ht, ← e0, xr_26 hO1, d, xe_call]
  · rw [(k2 3 0 (by omega) (by omega)).1, (s01 3 0 (by omega) (by omega)).1, ht, hrl, rTells_lo (by omega) (by omega), e0]
  · refine SBs.row (a := b) (hS.sm ((s01.sub (by omega) (by omega)).tr (k2.sub (by omega) (by omega)))) ?_ (fun s' j q1 q2 => ?_) hn
    · rw [hrl, rTells_lo (by omega) (by omega), e1]
    · rw [hrl, rTells_lo (by omega) (by omega), cx _ (by omega) (by omega) (by omega)]
  · rw [hrl]
    refine SBw.row (a := c) ?_ (rTells_lo (by omega) (by omega)) (fun w' j q1 q2 => rTells_lo (by omega) (by omega)) (by rw [em]; exact hm)
    have hW1 : SBw 3 c M1 := by
      obtain ⟨g1, g2, g3⟩ := hW
      refine ⟨by rw [(s01 11 0 (by omega) (by omega)).1, e2]; exact g1, fun w' q => ?_, fun w' q1 q2 => ?_⟩
      · rw [em] at q
        obtain ⟨r1, r2, r3, r4, r5, r6⟩ := g2 w' q
        rw [cx (426 + 6 * w' + 0) (by omega) (by omega) (by omega), cx (426 + 6 * w' + 1) (by omega) (by omega) (by omega), cx (426 + 6 * w' + 2) (by omega) (by omega) (by omega), cx (426 + 6 * w' + 4) (by omega) (by omega) (by omega), cx (426 + 6 * w' + 5) (by omega) (by omega) (by omega)]
        rw [(s01 12 w' (by omega) (by omega)).1, (s01 13 w' (by omega) (by omega)).1, (s01 15 w' (by omega) (by omega)).1, (s17 17 w' (by omega) (by omega)).1, (s17 18 w' (by omega) (by omega)).1]
        refine ⟨r1, r2, r3, ?_, r5, r6⟩
        show xv_I M1 16 w' = _
        rw [hM1, xe_I_sI]
        by_cases hq : w' = w
        · subst hq
          rw [if_pos ⟨rfl, rfl⟩, cl]
        · rw [if_neg (fun z => hq z.2), cx _ (by omega) (by omega) (by omega)]
          exact r4
      · rw [em] at q2
        obtain ⟨r1, r2, r3, r4⟩ := g3 w' q1 q2
        rw [(s01 15 w' (by omega) (by omega)).1, (s17 17 w' (by omega) (by omega)).1, (s17 18 w' (by omega) (by omega)).1]
        refine ⟨r1, ?_, r3, r4⟩
        show xv_I M1 16 w' = _
        rw [hM1, xe_I_sI, if_neg (fun z => by omega)]
        exact r2
    exact hW1.sm (k2.sub (by omega) (by omega))
  · rw [hrl]; exact k1
  · rw [hrl]
    refine SBe.row (a := c) ?_ (rTells_lo (by omega) (by omega)) (rTells_lo (by omega) (by omega)) (fun w' s' q1 q2 q3 => rTells_lo (by omega) (by omega))
    have hE1 : SBe 3 c M := SBe.row hE e1 e2 (fun w' s' q1 q2 q3 => by
      by_cases hq : 462 + 60 * w' + s' = 462 + 60 * w + s
      · rw [hq, ci] at q3; omega
      · exact cx _ (by omega) (by omega) hq)
    exact hE1.sm ((s17.sub (by omega) (by omega)).tr (k2.sub (by omega) (by omega))) (by rw [em]; exact hm)
  · rw [(k2 14 j (by omega) (by omega)).2, (s01 14 j (by omega) (by omega)).2]
theorem xm_tellEntered {M : xv_M} {b : RW} {w s : Nat} (h : CB b M) (h5 : 0 ≤ b 5 ∧ b 5 ≤ 12) (h0 : 0 ≤ b 0) (hm : rm b ≤ 6) (hn : rn b ≤ 60) (hw : w < rm b) (hs : s < rn b) : ∃ M', D_X2_tellEntered 2 (w : Int) (s : Int) M = some ((), M') ∧ CB (rEnter b w s) M' ∧ (∀ j, xv_J M' 14 j = xv_J M 14 j) ∧ Sm 31 1000 M M' := by
  obtain ⟨hM, ht, hS, hW, hL, hE⟩ := h
  have hw6 : w < 6 := by omega
  have hs6 : s < 60 := by omega
  have hv : xv_I M 15 w = b (426 + 6 * w + 2) := (hW.2.1 w hw).2.2.1
  have hv2 : xv_I M 10 s = b (6 + 7 * s + 6) := (hS.2.2.1 s hs).2.2.2.2.2
  obtain ⟨c, hc⟩ : ∃ c : RW, c = rEn4 (rEn3 (rEn2 (rEn1 b w s) w) s) := ⟨_, rfl⟩
  have cx : ∀ i, i ≠ 3 → i ≠ 6 + 7 * s + 6 → i ≠ 426 + 6 * w + 2 → i ≠ 462 + 60 * w + s → c i = b i := fun i q1 q2 q3 q4 => by
    rw [hc]
    unfold rEn4 rEn3 rEn2 rEn1
    rw [up1_n q1, up1_n q2, up1_n q3, up1_n q4]
  have cl : c (426 + 6 * w + 2) = b (426 + 6 * w + 2) + 1 := by
    rw [hc]
    unfold rEn4 rEn3 rEn2 rEn1
    rw [up1_n (by omega), up1_n (by omega), up1_s, up1_n (by omega)]
  have ct : c (6 + 7 * s + 6) = b (6 + 7 * s + 6) + 1 := by
    rw [hc]
    unfold rEn4 rEn3 rEn2 rEn1
    rw [up1_n (by omega), up1_s, up1_n (by omega), up1_n (by omega)]
  have ci : c (462 + 60 * w + s) = b 0 + 1 := by
    rw [hc]
    unfold rEn4 rEn3 rEn2 rEn1
    rw [up1_n (by omega), up1_n (by omega), up1_n (by omega), up1_s]
  have e0 : c 0 = b 0 := cx 0 (by omega) (by omega) (by omega) (by omega)
  have e1 : c 1 = b 1 := cx 1 (by omega) (by omega) (by omega) (by omega)
  have e2 : c 2 = b 2 := cx 2 (by omega) (by omega) (by omega) (by omega)
  have e5 : c 5 = b 5 := cx 5 (by omega) (by omega) (by omega) (by omega)
  have em : rm c = rm b := by show (c 2).toNat = (b 2).toNat; rw [e2]
  have en : rn c = rn b := by show (c 1).toNat = (b 1).toNat; rw [e1]
  have iw : ((w : Int)).toNat = w := Int.toNat_natCast w
  have is : ((s : Int)).toNat = s := Int.toNat_natCast s
  obtain ⟨M1, hM1⟩ : ∃ M1 : xv_M, M1 = xv_sI M 15 w (b (426 + 6 * w + 2) + 1) := ⟨_, rfl⟩
  obtain ⟨M2, hM2⟩ : ∃ M2 : xv_M, M2 = xv_sI M1 (20 + w) s (b 0) := ⟨_, rfl⟩
  obtain ⟨M3, hM3⟩ : ∃ M3 : xv_M, M3 = xv_sI M2 10 s (b (6 + 7 * s + 6) + 1) := ⟨_, rfl⟩
  have hO1 : xl_OK M1 := by rw [hM1]; exact hM
  have hO2 : xl_OK M2 := by rw [hM2]; exact hO1
  have hO3 : xl_OK M3 := by rw [hM3]; exact hO2
  have s1a : Sm 0 14 M M1 := by rw [hM1]; exact Sm.sI (by omega)
  have s1b : Sm 16 1000 M M1 := by rw [hM1]; exact Sm.sI (by omega)
  have s2a : Sm 0 19 M1 M2 := by rw [hM2]; exact Sm.sI (by omega)
  have s2b : Sm 26 1000 M1 M2 := by rw [hM2]; exact Sm.sI (by omega)
  have s3a : Sm 0 9 M2 M3 := by rw [hM3]; exact Sm.sI (by omega)
  have s3b : Sm 11 1000 M2 M3 := by rw [hM3]; exact Sm.sI (by omega)
  have sA : Sm 0 9 M M3 := ((s1a.sub (by omega) (by omega)).tr (s2a.sub (by omega) (by omega))).tr s3a
  have sB : Sm 11 14 M M3 := ((s1a.sub (by omega) (by omega)).tr (s2a.sub (by omega) (by omega))).tr (s3b.sub (by omega) (by omega))
  have sC : Sm 16 19 M M3 := ((s1b.sub (by omega) (by omega)).tr (s2a.sub (by omega) (by omega))).tr (s3b.sub (by omega) (by omega))
  have sD : Sm 26 1000 M M3 := ((s1b.sub (by omega) (by omega)).tr s2b).tr (s3b.sub (by omega) (by omega))
  have hL1 : SBl 3 c M3 := (hL.row e5 (fun i hi => cx i (by omega) (by omega) (by omega) (by omega))).sm (sD.sub (by omega) (by omega))
  obtain ⟨M', d, k1, k2, k3, k4⟩ := xm_write (a := c) (k := 0) (w := (w : Int)) (x := (s : Int)) hO3 hL1 (by rw [e5]; exact h5)
  have hrl : rEnter b w s = rTells c 0 w s := by rw [hc]; rfl
  refine ⟨M', ?_, ⟨k4, ?_, ?_, ?_, ?_, ?_⟩, fun j => ?_, (sD.sub (by omega) (by omega)).tr k3⟩
  · unfold D_X2_tellEntered
    rw [xg_2_0 hM, xg_3_2 hM, xg_11_4 hM, xa_15 hM (by omega) (by omega), iw, hv, xw_15 hM (by omega) (by omega), iw, ← hM1]
    rw [xg_2_0 hO1, xg_3_2 hO1, xg_11_8 hO1, xa_19 hO1 (by omega) (by omega), iw, xg_2_0 hO1, xg_3_0 hO1, (s1a 3 0 (by omega) (by omega)).1, ht, xw_20s hO1 hw6 (by omega) (by omega), is, ← hM2]
    rw [xg_2_0 hO2, xg_3_1 hO2, xg_4_7 hO2, xa_10 hO2 (by omega) (by omega), is, (s2a 10 s (by omega) (by omega)).1, (s1a 10 s (by omega) (by omega)).1, hv2, xw_10 hO2 (by omega) (by omega), is, ← hM3]
    rw [xg_2_0 hO3, xg_3_3 hO3, xg_2_0 hO3, xg_3_0 hO3, (sA 3 0 (by omega) (by omega)).1, ht, ← e0, xr_26 hO3, d, xe_call]
  · rw [(k2 3 0 (by omega) (by omega)).1, (sA 3 0 (by omega) (by omega)).1, ht, hrl, rTells_lo (by omega) (by omega), e0]
  · rw [hrl]
    refine SBs.row (a := c) ?_ (rTells_lo (by omega) (by omega)) (fun s' j q1 q2 => rTells_lo (by omega) (by omega)) (by rw [en]; exact hn)
    have hS1 : SBs 3 c M3 := by
      obtain ⟨g1, g2, g3, g4⟩ := hS
      refine ⟨by rw [(sA 4 0 (by omega) (by omega)).1, e1]; exact g1, fun s' q => ?_, fun s' q => ?_, fun s' q1 q2 => ?_⟩
      · rw [(sA 4 1 (by omega) (by omega)).2, g2 s' q, en]
        by_cases hl : s' < rn b
        · rw [cx (6 + 7 * s' + 4) (by omega) (by omega) (by omega) (by omega)]
        · simp [hl]
      · rw [en] at q
        obtain ⟨r1, r2, r3, r4, r5, r6⟩ := g3 s' q
        rw [cx (6 + 7 * s' + 0) (by omega) (by omega) (by omega) (by omega), cx (6 + 7 * s' + 1) (by omega) (by omega) (by omega) (by omega), cx (6 + 7 * s' + 2) (by omega) (by omega) (by omega) (by omega), cx (6 + 7 * s' + 3) (by omega) (by omega) (by omega) (by omega), cx (6 + 7 * s' + 5) (by omega) (by omega) (by omega) (by omega)]
        rw [(sA 5 s' (by omega) (by omega)).1, (sA 6 s' (by omega) (by omega)).1, (sA 7 s' (by omega) (by omega)).1, (sA 8 s' (by omega) (by omega)).1, (sA 9 s' (by omega) (by omega)).1]
        refine ⟨r1, r2, r3, r4, r5, ?_⟩
        show xv_I M3 10 s' = _
        rw [hM3, xe_I_sI]
        by_cases hq : s' = s
        · subst hq
          rw [if_pos ⟨rfl, rfl⟩, ct]
        · rw [if_neg (fun z => hq z.2), (s2a 10 s' (by omega) (by omega)).1, (s1a 10 s' (by omega) (by omega)).1, cx _ (by omega) (by omega) (by omega) (by omega)]
          exact r6
      · rw [en] at q2
        obtain ⟨r1, r2⟩ := g4 s' q1 q2
        rw [(sA 9 s' (by omega) (by omega)).1]
        refine ⟨r1, ?_⟩
        show xv_I M3 10 s' = _
        rw [hM3, xe_I_sI, if_neg (fun z => by omega), (s2a 10 s' (by omega) (by omega)).1, (s1a 10 s' (by omega) (by omega)).1]
        exact r2
    exact hS1.sm (k2.sub (by omega) (by omega))
  · rw [hrl]
    refine SBw.row (a := c) ?_ (rTells_lo (by omega) (by omega)) (fun w' j q1 q2 => rTells_lo (by omega) (by omega)) (by rw [em]; exact hm)
    have hW1 : SBw 3 c M3 := by
      obtain ⟨g1, g2, g3⟩ := hW
      have e15 : ∀ j, xv_I M3 15 j = xv_I M1 15 j := fun j => by rw [(s3b 15 j (by omega) (by omega)).1, (s2a 15 j (by omega) (by omega)).1]
      refine ⟨by rw [(sB 11 0 (by omega) (by omega)).1, e2]; exact g1, fun w' q => ?_, fun w' q1 q2 => ?_⟩
      · rw [em] at q
        obtain ⟨r1, r2, r3, r4, r5, r6⟩ := g2 w' q
        rw [cx (426 + 6 * w' + 0) (by omega) (by omega) (by omega) (by omega), cx (426 + 6 * w' + 1) (by omega) (by omega) (by omega) (by omega), cx (426 + 6 * w' + 3) (by omega) (by omega) (by omega) (by omega), cx (426 + 6 * w' + 4) (by omega) (by omega) (by omega) (by omega), cx (426 + 6 * w' + 5) (by omega) (by omega) (by omega) (by omega)]
        rw [(sB 12 w' (by omega) (by omega)).1, (sB 13 w' (by omega) (by omega)).1, (sC 16 w' (by omega) (by omega)).1, (sC 17 w' (by omega) (by omega)).1, (sC 18 w' (by omega) (by omega)).1]
        refine ⟨r1, r2, ?_, r4, r5, r6⟩
        show xv_I M3 15 w' = _
        rw [e15, hM1, xe_I_sI]
        by_cases hq : w' = w
        · subst hq
          rw [if_pos ⟨rfl, rfl⟩, cl]
        · rw [if_neg (fun z => hq z.2), cx _ (by omega) (by omega) (by omega) (by omega)]
          exact r3
      · rw [em] at q2
        obtain ⟨r1, r2, r3, r4⟩ := g3 w' q1 q2
        rw [(sC 16 w' (by omega) (by omega)).1, (sC 17 w' (by omega) (by omega)).1, (sC 18 w' (by omega) (by omega)).1]
        refine ⟨?_, r2, r3, r4⟩
        show xv_I M3 15 w' = _
        rw [e15, hM1, xe_I_sI, if_neg (fun z => by omega)]
        exact r1
    exact hW1.sm (k2.sub (by omega) (by omega))
  · rw [hrl]; exact k1
  · rw [hrl]
    refine SBe.row (a := c) ?_ (rTells_lo (by omega) (by omega)) (rTells_lo (by omega) (by omega)) (fun w' s' q1 q2 q3 => rTells_lo (by omega) (by omega))
    intro w' s' q1 q2 q3
    rw [em] at q1
    rw [en] at q2
    have e20 : ∀ r j, 20 ≤ r → r ≤ 25 → xv_I M' r j = xv_I M2 r j := fun r j z1 z2 => by rw [(k2 r j (by omega) (by omega)).1, (s3b r j (by omega) (by omega)).1]
    show xv_I M' (20 + w') s' = _
    rw [e20 _ _ (by omega) (by omega), hM2, xe_I_sI]
    by_cases hq : w' = w ∧ s' = s
    · obtain ⟨rfl, rfl⟩ := hq
      rw [if_pos ⟨rfl, rfl⟩, ci]
      omega
    · rw [if_neg (fun z => hq ⟨by omega, z.2⟩), (s1b (20 + w') s' (by omega) (by omega)).1]
      have ec : c (462 + 60 * w' + s') = b (462 + 60 * w' + s') := cx _ (by omega) (by omega) (by omega) (by omega)
      rw [ec] at q3 ⊢
      exact hE w' s' q1 q2 q3
  · rw [(k2 14 j (by omega) (by omega)).2, (sB 14 j (by omega) (by omega)).2]
