/-! ## what the acts keep of a row -/
theorem rsm_up {a b : RW} {j w : Nat} {d : Int} (hw : b (426 + 6 * w + j) = a (426 + 6 * w + j) + d) : ∀ {n : Nat}, (∀ v, v < n → v ≠ w → b (426 + 6 * v + j) = a (426 + 6 * v + j)) → w < n → rsm b j n = rsm a j n + d
  | 0, _, h => absurd h (by omega)
  | n + 1, h, hn => by
    show rsm b j n + _ = rsm a j n + _ + d
    by_cases e : n = w
    · subst e
      rw [hw, rsm_cg (fun v hv => h v (by omega) (by omega))]
      omega
    · rw [rsm_up hw (fun v hv => h v (by omega)) (by omega), h n (by omega) e]
      omega
theorem rSum_leave {a : RW} {w s : Nat} (h : rSum a) (hm : rm a ≤ 6) (hw : w < rm a) (hs : s < 60) : rSum (rLeave a w s) := by
  have e2 : rLeave a w s 2 = a 2 := by rw [rLeave_lo (by omega) hs (by omega) (by omega), if_neg (by omega), if_neg (by omega), if_neg (by omega)]
  have em : rm (rLeave a w s) = rm a := by show (rLeave a w s 2).toNat = (a 2).toNat; rw [e2]
  refine ⟨?_, ?_⟩
  · rw [em, rsm_cg (a := a) (fun v hv => ?_), rLeave_lo (by omega) hs (by omega) (by omega), if_neg (by omega), if_neg (by omega), if_neg (by omega)]
    · exact h.1
    · rw [rLeave_lo (by omega) hs (by omega) (by omega), if_neg (by omega), if_neg (by omega), if_neg (by omega)]
  · rw [em, rsm_up (a := a) (w := w) (d := 1) ?_ (fun v hv hne => ?_) hw, rLeave_lo (by omega) hs (by omega) (by omega), if_pos rfl, h.2]
    · rw [rLeave_lo (by omega) hs (by omega) (by omega), if_neg (by omega), if_pos rfl]
    · rw [rLeave_lo (by omega) hs (by omega) (by omega), if_neg (by omega), if_neg (by omega), if_neg (by omega)]
theorem rSum_enter {a : RW} {w s : Nat} (h : rSum a) (hm : rm a ≤ 6) (hw : w < rm a) (hs : s < 60) : rSum (rEnter a w s) := by
  have e2 : rEnter a w s 2 = a 2 := by rw [rEnter_lo (by omega) hs (by omega) (by omega), if_neg (by omega), if_neg (by omega), if_neg (by omega), if_neg (by omega)]
  have em : rm (rEnter a w s) = rm a := by show (rEnter a w s 2).toNat = (a 2).toNat; rw [e2]
  refine ⟨?_, ?_⟩
  · rw [em, rsm_up (a := a) (w := w) (d := 1) ?_ (fun v hv hne => ?_) hw, rEnter_lo (by omega) hs (by omega) (by omega), if_pos rfl, h.1]
    · rw [rEnter_lo (by omega) hs (by omega) (by omega), if_neg (by omega), if_neg (by omega), if_pos rfl]
    · rw [rEnter_lo (by omega) hs (by omega) (by omega), if_neg (by omega), if_neg (by omega), if_neg (by omega), if_neg (by omega)]
  · rw [em, rsm_cg (a := a) (fun v hv => ?_), rEnter_lo (by omega) hs (by omega) (by omega), if_neg (by omega), if_neg (by omega), if_neg (by omega), if_neg (by omega)]
    · exact h.2
    · rw [rEnter_lo (by omega) hs (by omega) (by omega), if_neg (by omega), if_neg (by omega), if_neg (by omega), if_neg (by omega)]
theorem rLv_sum {a : RW} {w : Nat} {x : Int} (ha : rKp a a) (h0 : 0 ≤ a 0) (hm : rm a ≤ 6) (hw : w < rm a) (h : rSum a) : ∀ k, k ≤ 60 → rSum (rLv a w x k).2
  | 0, _ => h
  | k + 1, hk => by
    have ih := rLv_sum (x := x) ha h0 hm hw h k (by omega)
    have kp := rLv_keep (x := x) ha h0 (show w < 6 by omega) k (by omega)
    have em : rm (rLv a w x k).2 = rm a := by show ((rLv a w x k).2 2).toNat = (a 2).toNat; rw [kp.2.2.1]
    show rSum (if _ then _ else _ : Int × RW).2
    by_cases hc : rIn (rLv a w x k).2 w k ∧ ¬ rCov (rLv a w x k).2 k x
    · rw [if_pos hc]
      exact rSum_leave ih (by rw [em]; exact hm) (by rw [em]; exact hw) (by omega)
    · rw [if_neg hc]
      exact ih
theorem rEn_sum {a : RW} {p : Int × RW} {w : Nat} {x : Int} (ha : rKp a p.2) (h0 : 0 ≤ a 0) (hm : rm a ≤ 6) (hw : w < rm a) (h : rSum p.2) : ∀ k, k ≤ 60 → rSum (rEn p w x k).2
  | 0, _ => h
  | k + 1, hk => by
    have ih := rEn_sum (x := x) ha h0 hm hw h k (by omega)
    have kp := rEn_keep (x := x) ha h0 (show w < 6 by omega) k (by omega)
    have em : rm (rEn p w x k).2 = rm a := by show ((rEn p w x k).2 2).toNat = (a 2).toNat; rw [kp.2.2.1]
    show rSum (if _ then _ else _ : Int × RW).2
    by_cases hc : ¬ rIn (rEn p w x k).2 w k ∧ rCov (rEn p w x k).2 k x
    · rw [if_pos hc]
      exact rSum_enter ih (by rw [em]; exact hm) (by rw [em]; exact hw) (by omega)
    · rw [if_neg hc]
      exact ih
theorem rChg_sum {a : RW} {w : Nat} (g : rGd a) (hw : w < rm a) (h : rSum a) : rSum (rChg a w).2 := by
  have hm := g.m
  have hn := g.n
  exact rEn_sum (rLv_keep g.2.2.2.1 g.1.1 (by omega) _ hn) g.1.1 hm hw (rLv_sum g.2.2.2.1 g.1.1 hm hw h _ hn) _ hn
theorem rSp.kp {a b : RW} (k : rKp a b) (hn : rn a ≤ 60) (h : rSp a) : rSp b := fun s hs ht => by
  have en : rn b = rn a := by show (b 1).toNat = (a 1).toNat; rw [k.2.1]
  rw [en] at hs
  have ks := k.2.2.2.2.1
  rw [ks s 4 (by omega) (by omega)] at ht
  rw [ks s 0 (by omega) (by omega), ks s 1 (by omega) (by omega), ks s 2 (by omega) (by omega), ks s 3 (by omega) (by omega)]
  exact h s hs ht
theorem rChg_kp {a : RW} {w : Nat} (g : rGd a) (hw : w < rm a) : rKp a (rChg a w).2 := rChg_keep g.2.2.2.1 g.1.1 g.2.1.2 (by have := g.m; omega)
theorem rRQ.chg {a : RW} {w : Nat} (q : rRQ a) (hw : w < rm a) : rRQ (rChg a w).2 := by
  obtain ⟨g, sp, sm, z⟩ := q
  have kp := rChg_kp g hw
  have hm := g.m
  refine ⟨rGd_kp g kp, sp.kp kp g.n, rChg_sum g hw sm, fun w' s hw' hs hr => ?_⟩
  have en : rn (rChg a w).2 = rn a := by show ((rChg a w).2 1).toNat = (a 1).toNat; rw [kp.2.1]
  rw [en] at hr
  rw [rChg_out g.2.2.2.1 g.1.1 g.2.1.2 (by omega) hw' hs (Or.inr hr)]
  exact z w' s hw' hs hr
/-- all but w know what covers them -/
def rSynX (a : RW) (w : Nat) : Prop := ∀ w' s : Nat, w' < rm a → w' ≠ w → s < rn a → (0 < a (462 + 60 * w' + s) ↔ rCov a s (a (426 + 6 * w')))
def rSynN (a : RW) (k : Nat) : Prop := ∀ w s : Nat, w < k → s < rn a → (0 < a (462 + 60 * w + s) ↔ rCov a s (a (426 + 6 * w)))
theorem rChg_syn {a : RW} {w w' s : Nat} (g : rGd a) (hw : w < rm a) (hw' : w' < rm a) (hs : s < rn a) (h : w' ≠ w → (0 < a (462 + 60 * w' + s) ↔ rCov a s (a (426 + 6 * w')))) : 0 < (rChg a w).2 (462 + 60 * w' + s) ↔ rCov (rChg a w).2 s ((rChg a w).2 (426 + 6 * w')) := by
  have kp := rChg_kp g hw
  have hm := g.m
  have hn := g.n
  have e0 := kp.2.2.2.2.2.1 w' 0 (by omega) (by omega)
  rw [Nat.add_zero] at e0
  rw [rCov_kp kp (by omega), e0]
  by_cases e : w' = w
  · subst e
    exact rChg_in g.2.2.2.1 g.1.1 g.2.1.2 (by omega) hs
  · rw [rChg_out g.2.2.2.1 g.1.1 g.2.1.2 (by omega) (by omega) (by omega) (Or.inl e)]
    exact h e
theorem rRW_chg {a : RW} {w : Nat} (q : rRQ a) (hw : w < rm a) (x : rSynX a w) : rRW (rChg a w).2 := by
  have kp := rChg_kp q.1 hw
  have en : rn (rChg a w).2 = rn a := by show ((rChg a w).2 1).toNat = (a 1).toNat; rw [kp.2.1]
  have em : rm (rChg a w).2 = rm a := by show ((rChg a w).2 2).toNat = (a 2).toNat; rw [kp.2.2.1]
  refine ⟨q.chg hw, fun w' s hw' hs => ?_⟩
  rw [em] at hw'
  rw [en] at hs
  exact rChg_syn q.1 hw hw' hs (fun e => x w' s hw' e hs)
theorem rRQ_allN {a : RW} (q : rRQ a) : ∀ k, k ≤ rm a → rRQ (rAllN a k).2 ∧ rSynN (rAllN a k).2 k
  | 0, _ => ⟨q, fun w s hw => absurd hw (by omega)⟩
  | k + 1, hk => by
    obtain ⟨q', s'⟩ := rRQ_allN q k (by omega)
    have kp := rAllN_keep q.1.2.2.2.1 q.1.1.1 q.1.2.1.2 k (by have := q.1.m; omega)
    have em : rm (rAllN a k).2 = rm a := by show ((rAllN a k).2 2).toNat = (a 2).toNat; rw [kp.2.2.1]
    have hw : k < rm (rAllN a k).2 := by rw [em]; omega
    refine ⟨q'.chg hw, fun w s hw' hs => ?_⟩
    have kc := rChg_kp q'.1 hw
    have en : rn (rChg (rAllN a k).2 k).2 = rn (rAllN a k).2 := by show ((rChg (rAllN a k).2 k).2 1).toNat = ((rAllN a k).2 1).toNat; rw [kc.2.1]
    have hs2 : s < rn (rAllN a k).2 := by rw [← en]; exact hs
    exact rChg_syn q'.1 hw (by rw [em]; omega) hs2 (fun e => s' w s (by omega) hs2)
theorem rRW_all {a : RW} (q : rRQ a) : rRW (rAll a).2 := by
  obtain ⟨q', s'⟩ := rRQ_allN q (rm a) (Nat.le_refl _)
  have kp := rAllN_keep q.1.2.2.2.1 q.1.1.1 q.1.2.1.2 (rm a) q.1.m
  have em : rm (rAll a).2 = rm a := by show ((rAllN a (rm a)).2 2).toNat = (a 2).toNat; rw [kp.2.2.1]
  exact ⟨q', fun w s hw hs => s' w s (by rw [em] at hw; exact hw) hs⟩
theorem rChg_same {a : RW} {w : Nat} (h : ∀ s, s < rn a → (0 < a (462 + 60 * w + s) ↔ rCov a s (a (426 + 6 * w)))) : rChg a w = (0, a) := by
  unfold rChg
  rw [rLv_same h _ (Nat.le_refl _), rEn_same h _ (Nat.le_refl _)]
theorem rAllN_same {a : RW} : ∀ k, rSynN a k → rAllN a k = (0, a)
  | 0, _ => rfl
  | k + 1, h => by
    show ((rAllN a k).1 + (rChg (rAllN a k).2 k).1, (rChg (rAllN a k).2 k).2) = (0, a)
    rw [rAllN_same k (fun w s hw hs => h w s (by omega) hs)]
    show ((0 : Int) + (rChg a k).1, (rChg a k).2) = (0, a)
    rw [rChg_same (fun s hs => h k s (by omega) hs)]
    rfl
/-- rows that differ in what no bound speaks of, and in places and speeds -/
theorem rRQ.cgx {a b : RW} (q : rRQ a) (h0 : (0 ≤ b 0 ∧ b 0 ≤ 9999) ∧ a 0 ≤ b 0) (h1 : b 1 = a 1) (h2 : b 2 = a 2) (h3 : b 3 = a 3) (h4 : b 4 = a 4) (h5 : 0 ≤ b 5 ∧ b 5 ≤ 12) (hs : ∀ s j : Nat, s < 60 → j < 5 → b (6 + 7 * s + j) = a (6 + 7 * s + j)) (hw : ∀ w : Nat, w < rm a → (0 ≤ b (426 + 6 * w) ∧ b (426 + 6 * w) ≤ 1000) ∧ (-50 ≤ b (426 + 6 * w + 1) ∧ b (426 + 6 * w + 1) ≤ 50)) (hw2 : ∀ w j : Nat, w < 6 → (j = 2 ∨ j = 3) → b (426 + 6 * w + j) = a (426 + 6 * w + j)) (hi : ∀ w s : Nat, w < 6 → s < 60 → b (462 + 60 * w + s) = a (462 + 60 * w + s)) : rRQ b := by
  obtain ⟨g, sp, sm, z⟩ := q
  have en : rn b = rn a := by show (b 1).toNat = (a 1).toNat; rw [h1]
  have em : rm b = rm a := by show (b 2).toNat = (a 2).toNat; rw [h2]
  have hn := g.n
  have hm := g.m
  obtain ⟨g0, g1, g2, gk, g4, gb, gw⟩ := g
  refine ⟨⟨h0.1, by rw [h1]; exact g1, by rw [h2]; exact g2, rKp_refl h5 (fun w s q1 q2 => ?_), fun s q1 => ?_, fun s q1 => ?_, fun w q1 => ?_⟩, fun s q1 => ?_, ⟨?_, ?_⟩, fun w s q1 q2 q3 => ?_⟩
  · rw [hi w s q1 q2]
    have := gk.2.2.2.2.2.2 w s q1 q2
    omega
  · rw [hs s 4 q1 (by omega)]; exact g4 s q1
  · rw [hs s 4 q1 (by omega), hs s 2 q1 (by omega), hs s 3 q1 (by omega)]; exact gb s q1
  · rw [h2] at q1
    exact hw w q1
  · rw [en] at q1
    rw [hs s 0 (by omega) (by omega), hs s 1 (by omega) (by omega), hs s 2 (by omega) (by omega), hs s 3 (by omega) (by omega), hs s 4 (by omega) (by omega)]
    exact sp s q1
  · rw [h3, em, rsm_cg (fun w q1 => hw2 w 2 (by omega) (Or.inl rfl))]; exact sm.1
  · rw [h4, em, rsm_cg (fun w q1 => hw2 w 3 (by omega) (Or.inr rfl))]; exact sm.2
  · rw [en] at q3
    rw [hi w s q1 q2]; exact z w s q1 q2 q3
