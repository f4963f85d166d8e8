/-! ## all walkers are told -/
def BC : Prop := ∀ (v : Int64) (M : xv_M), D_J13_bitCount_95d88 v M = some ((xpc v : Int), M)
def CI (a : RW) (M : xv_M) : Prop := (∀ w, w < rm a → SBi 3 a M w) ∧ ∀ w, w < 6 → rm a ≤ w → xv_J M 14 w = 0
theorem SBi.row {a b : RW} {M M' : xv_M} {w : Nat} (h : SBi 3 a M w) (hJ : xv_J M' 14 w = xv_J M 14 w) (h1 : b 1 = a 1) (hn : rn a ≤ 60) (hi : ∀ s : Nat, s < 60 → b (462 + 60 * w + s) = a (462 + 60 * w + s)) : SBi 3 b M' w := fun s hs => by
  have e : xv_J M' (3 + 11) w = xv_J M (3 + 11) w := hJ
  have en : rn b = rn a := by show (b 1).toNat = (a 1).toNat; rw [h1]
  rw [e, h s hs, en]
  by_cases hl : s < rn a
  · rw [hi s (by omega)]
  · simp [hl]
theorem CC.kp {a b : RW} {M M' : xv_M} (h : CC a M) (k : rKp a b) (hn : rn a ≤ 60) (hJ : ∀ j, xv_J M' 32 j = xv_J M 32 j) : CC b M' := fun x hx s hs => by
  have en : rn b = rn a := by show (b 1).toNat = (a 1).toNat; rw [k.2.1]
  rw [hJ, h x hx s hs, en]
  by_cases hl : s < rn a
  · apply decide_eq_decide.mpr
    constructor
    · intro q; exact ⟨q.1, (rCov_kp k (by omega)).mpr q.2⟩
    · intro q; exact ⟨q.1, (rCov_kp k (by omega)).mp q.2⟩
  · simp [hl]
theorem xm_tellAll (hbc : BC) {M : xv_M} {a : RW} (h : CB a M) (g : rGd a) (hc : CC a M) (hi : CI a M) : ∃ M', D_X2_tellAll 2 M = some ((rAll a).1, M') ∧ CB (rAll a).2 M' ∧ CI (rAll a).2 M' ∧ Sm 31 1000 M M' := by
  have g0 := g.1.1
  have g1 := g.2.1
  have g2 := g.2.2.1
  have ha := g.2.2.2.1
  have hm6 : rm a ≤ 6 := by show (a 2).toNat ≤ 6; omega
  have hn6 : rn a ≤ 60 := by show (a 1).toNat ≤ 60; omega
  have er : ((rm a : Nat) : Int) = a 2 := by show (((a 2).toNat : Nat) : Int) = a 2; omega
  unfold D_X2_tellAll
  refine xe_inv0 (I := fun (k : Nat) (s : Int × Int × xv_M) => s.1 = (rAllN a k).1 ∧ s.2.1 = (k : Int) ∧ CB (rAllN a k).2 s.2.2 ∧ CI (rAllN a k).2 s.2.2 ∧ Sm 31 1000 M s.2.2) (n := rm a) (P := fun z => ∃ M', z = some ((rAll a).1, M') ∧ CB (rAll a).2 M' ∧ CI (rAll a).2 M' ∧ Sm 31 1000 M M') (by omega) ⟨rfl, rfl, h, hi, Sm.rf⟩ ?_ ?_
  · rintro k ⟨c, i, M1⟩ hk ⟨hc1, hi1, hC, hI, hS⟩
    dsimp only at hc1 hi1 hC hI hS ⊢
    subst hc1 hi1
    have hM1 := hC.1
    have kp := rAllN_keep ha g0 g1.2 k (by omega)
    have gp := rGd_kp g kp
    have em : rm (rAllN a k).2 = rm a := by show ((rAllN a k).2 2).toNat = (a 2).toNat; rw [kp.2.2.1]
    have en : xv_I M1 11 0 = a 2 := by rw [← kp.2.2.1]; exact hC.2.2.2.1.1
    have hcc : CC (rAllN a k).2 M1 := hc.kp kp hn6 (fun j => (hS 32 j (by omega) (by omega)).2)
    obtain ⟨M2, d2, c2, i2, j2, s2⟩ := xm_tell hbc hC gp hcc (w := k) (by rw [em]; exact hk) (hI.1 k (by rw [em]; exact hk))
    have hb : rKp (rAllN a k).2 (rAllN a k).2 := gp.2.2.2.1
    have hb0 : 0 ≤ (rAllN a k).2 0 := gp.1.1
    have hb1 : (rAllN a k).2 1 ≤ 60 := gp.2.1.2
    have kc := rChg_keep (w := k) hb hb0 hb1 (by omega)
    have em2 : rm (rChg (rAllN a k).2 k).2 = rm a := by show ((rChg (rAllN a k).2 k).2 2).toNat = (a 2).toNat; rw [kc.2.2.1, kp.2.2.1]
    refine ⟨((rAllN a (k + 1)).1, ((k + 1 : Nat) : Int), M2), ⟨rfl, rfl, c2, ⟨fun w hw => ?_, fun w q1 q2 => ?_⟩, hS.tr s2⟩, fun f => ?_⟩
    · show SBi 3 (rChg (rAllN a k).2 k).2 M2 w
      by_cases hwk : w = k
      · subst hwk; exact i2
      · have hw2 : w < rm a := by rw [← em2]; exact hw
        refine SBi.row (hI.1 w (by rw [em]; exact hw2)) (j2 w hwk) kc.2.1 (by show ((rAllN a k).2 1).toNat ≤ 60; omega) (fun s hs => ?_)
        exact rChg_out hb hb0 hb1 (by omega) (by omega) hs (Or.inl hwk)
    · have q3 : rm a ≤ w := by rw [← em2]; exact q2
      rw [j2 w (by omega)]
      exact hI.2 w q1 (by rw [em]; exact q3)
    · have ek : ((k : Int) + 1) = ((k + 1 : Nat) : Int) := by omega
      rw [xg_2_0 hM1, xg_3_2 hM1, xg_11_0 hM1, en, xe_cmp (by omega) (by omega) (by omega) (by omega), if_neg (by omega), xr_2 hM1, d2, xe_call, ek]
      rfl
  · rintro ⟨c, i, M1⟩ ⟨hc1, hi1, hC, hI, hS⟩ f
    dsimp only at hc1 hi1 hC hI hS ⊢
    subst hc1 hi1
    have hM1 := hC.1
    have kp := rAllN_keep ha g0 g1.2 (rm a) hm6
    have en : xv_I M1 11 0 = a 2 := by rw [← kp.2.2.1]; exact hC.2.2.2.1.1
    rw [xg_2_0 hM1, xg_3_2 hM1, xg_11_0 hM1, en, xe_cmp (by omega) (by omega) (by omega) (by omega), if_pos (by omega)]
    exact ⟨M1, rfl, hC, hI, hS⟩
