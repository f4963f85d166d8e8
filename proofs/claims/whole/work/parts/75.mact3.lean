/-! ## the reference's ticks -/
def rTrn (x : Int) : Int := if x < 0 then -x else if 1000 < x then 2000 - x else x
def rAb (v : Int) : Int := if 0 ≤ v then v else -v
abbrev rTo (a : RW) (w : Nat) : Int := a (426 + 6 * w + 0) + a (426 + 6 * w + 1)
def rGo1 (a : RW) (w : Nat) : RW := up1 (up1 a (426 + 6 * w + 0) (rTrn (rTo a w))) (426 + 6 * w + 4) (a (426 + 6 * w + 4) + rAb (a (426 + 6 * w + 1)))
def rGo2 (a : RW) (w : Nat) : RW := up1 (up1 (rGo1 a w) (426 + 6 * w + 1) (-(a (426 + 6 * w + 1)))) (426 + 6 * w + 5) (a (426 + 6 * w + 5) + 1)
def rGo (a : RW) (w : Nat) : RW := if rTrn (rTo a w) = rTo a w then rGo1 a w else rTells (rGo2 a w) 2 w (rTrn (rTo a w))
theorem rTrn_b {x : Int} (h : -50 ≤ x ∧ x ≤ 1050) : 0 ≤ rTrn x ∧ rTrn x ≤ 1000 := by
  unfold rTrn
  split
  · omega
  · split <;> omega
theorem rGo_o {a : RW} {w i : Nat} (h5 : i ≠ 5) (hi : i < 822) (h : ¬ (i = 426 + 6 * w + 0 ∨ i = 426 + 6 * w + 1 ∨ i = 426 + 6 * w + 4 ∨ i = 426 + 6 * w + 5)) : rGo a w i = a i := by
  unfold rGo
  split
  · unfold rGo1
    rw [up1_n (by omega), up1_n (by omega)]
  · rw [rTells_lo h5 hi]
    unfold rGo2 rGo1
    rw [up1_n (by omega), up1_n (by omega), up1_n (by omega), up1_n (by omega)]
theorem rGo_p {a : RW} {w : Nat} (hw : w < 6) : rGo a w (426 + 6 * w + 0) = rTrn (rTo a w) := by
  unfold rGo
  split
  · unfold rGo1
    rw [up1_n (by omega), up1_s]
  · rw [rTells_lo (by omega) (by omega)]
    unfold rGo2 rGo1
    rw [up1_n (by omega), up1_n (by omega), up1_n (by omega), up1_s]
theorem rGo_v {a : RW} {w : Nat} (hw : w < 6) : rGo a w (426 + 6 * w + 1) = a (426 + 6 * w + 1) ∨ rGo a w (426 + 6 * w + 1) = -(a (426 + 6 * w + 1)) := by
  unfold rGo
  split
  · unfold rGo1
    rw [up1_n (by omega), up1_n (by omega)]
    exact Or.inl rfl
  · rw [rTells_lo (by omega) (by omega)]
    unfold rGo2
    rw [up1_n (by omega), up1_s]
    exact Or.inr rfl
theorem rGo_5 {a : RW} {w : Nat} (h : 0 ≤ a 5 ∧ a 5 ≤ 12) : 0 ≤ rGo a w 5 ∧ rGo a w 5 ≤ 12 := by
  unfold rGo
  split
  · unfold rGo1
    rw [up1_n (by omega), up1_n (by omega)]
    exact h
  · refine rTells_5 ?_
    unfold rGo2 rGo1
    rw [up1_n (by omega), up1_n (by omega), up1_n (by omega), up1_n (by omega)]
    exact h
theorem rRQ_go {a : RW} (q : rRQ a) {w : Nat} (hw : w < rm a) : rRQ (rGo a w) := by
  have hm := q.1.m
  have o : ∀ i, i ≠ 5 → i < 822 → ¬ (i = 426 + 6 * w + 0 ∨ i = 426 + 6 * w + 1 ∨ i = 426 + 6 * w + 4 ∨ i = 426 + 6 * w + 5) → rGo a w i = a i := fun i h1 h2 h3 => rGo_o h1 h2 h3
  have e0 := o 0 (by omega) (by omega) (by omega)
  refine q.cgx ?_ (o 1 (by omega) (by omega) (by omega)) (o 2 (by omega) (by omega) (by omega)) (o 3 (by omega) (by omega) (by omega)) (o 4 (by omega) (by omega) (by omega)) (rGo_5 q.1.2.2.2.1.2.2.2.1) (fun s i q1 q2 => o _ (by omega) (by omega) (by omega)) (fun w' q1 => ?_) (fun w' i q1 q2 => o _ (by omega) (by omega) (by omega)) (fun w' s q1 q2 => o _ (by omega) (by omega) (by omega))
  · rw [e0]
    exact ⟨q.1.1, Int.le_refl _⟩
  · obtain ⟨b1, b2⟩ := q.1.2.2.2.2.2.2 w' q1
    by_cases hw' : w' = w
    · subst hw'
      have hp := rGo_p (a := a) (w := w') (by omega)
      have hv := rGo_v (a := a) (w := w') (by omega)
      rw [Nat.add_zero] at hp
      have ht := rTrn_b (x := rTo a w') (by unfold rTo; rw [Nat.add_zero]; omega)
      rw [hp]
      refine ⟨ht, ?_⟩
      rcases hv with hv | hv
      · rw [hv]; exact b2
      · rw [hv]; omega
    · rw [o _ (by omega) (by omega) (by omega), o _ (by omega) (by omega) (by omega)]
      exact ⟨b1, b2⟩
theorem rGo_m {a : RW} {w : Nat} : rm (rGo a w) = rm a ∧ rn (rGo a w) = rn a := ⟨by show (rGo a w 2).toNat = _; rw [rGo_o (by omega) (by omega) (by omega)], by show (rGo a w 1).toNat = _; rw [rGo_o (by omega) (by omega) (by omega)]⟩
theorem rRW_go {a : RW} (g : rRW a) {w : Nat} (hw : w < rm a) : rRW (rChg (rGo a w) w).2 := by
  have hm := g.1.1.m
  have hn := g.1.1.n
  have o : ∀ i, i ≠ 5 → i < 822 → ¬ (i = 426 + 6 * w + 0 ∨ i = 426 + 6 * w + 1 ∨ i = 426 + 6 * w + 4 ∨ i = 426 + 6 * w + 5) → rGo a w i = a i := fun i h1 h2 h3 => rGo_o h1 h2 h3
  obtain ⟨em, en⟩ := rGo_m (a := a) (w := w)
  refine rRW_chg (rRQ_go g.1 hw) (by rw [em]; exact hw) (fun w' s q1 q2 q3 => ?_)
  rw [em] at q1
  rw [en] at q3
  unfold rCov
  rw [o _ (by omega) (by omega) (by omega), o _ (by omega) (by omega) (by omega), o _ (by omega) (by omega) (by omega), o _ (by omega) (by omega) (by omega), o _ (by omega) (by omega) (by omega)]
  exact g.2 w' s q1 q3
theorem rGoc_kp {a : RW} (g : rRW a) {w : Nat} (hw : w < rm a) : (rChg (rGo a w) w).2 0 = a 0 ∧ (rChg (rGo a w) w).2 1 = a 1 ∧ (rChg (rGo a w) w).2 2 = a 2 := by
  have kp := rChg_kp (rRQ_go g.1 hw).1 (w := w) (by rw [rGo_m.1]; exact hw)
  exact ⟨kp.1.trans (rGo_o (by omega) (by omega) (by omega)), kp.2.1.trans (rGo_o (by omega) (by omega) (by omega)), kp.2.2.1.trans (rGo_o (by omega) (by omega) (by omega))⟩
def rGoN (a : RW) : Nat → Int × RW
  | 0 => (0, a)
  | k + 1 => ((rGoN a k).1 + (rChg (rGo (rGoN a k).2 k) k).1, (rChg (rGo (rGoN a k).2 k) k).2)
theorem rGoN_ok {a : RW} (g : rRW a) : ∀ k, k ≤ rm a → rRW (rGoN a k).2 ∧ (rGoN a k).2 0 = a 0 ∧ (rGoN a k).2 1 = a 1 ∧ (rGoN a k).2 2 = a 2
  | 0, _ => ⟨g, rfl, rfl, rfl⟩
  | k + 1, hk => by
    obtain ⟨ih, i0, i1, i2⟩ := rGoN_ok g k (by omega)
    have hw : k < rm (rGoN a k).2 := by show k < ((rGoN a k).2 2).toNat; rw [i2]; exact hk
    obtain ⟨k0, k1, k2⟩ := rGoc_kp ih hw
    exact ⟨rRW_go ih hw, k0.trans i0, k1.trans i1, k2.trans i2⟩
/-! the ticks inside are counted -/
def rCt (a : RW) (w : Nat) : Nat → RW
  | 0 => a
  | k + 1 => up1 (rCt a w k) (6 + 7 * k + 5) (rCt a w k (6 + 7 * k + 5) + (if rIn (rCt a w k) w k then 1 else 0))
def rCtA (a : RW) : Nat → RW
  | 0 => a
  | k + 1 => rCt (rCtA a k) k (rn a)
/-- alike but for the ticks inside -/
def rE5 (a b : RW) : Prop := ∀ i, (∀ s, s < 60 → i ≠ 6 + 7 * s + 5) → b i = a i
theorem rE5_ct {a b : RW} {w : Nat} (h : rE5 a b) : ∀ k, k ≤ 60 → rE5 a (rCt b w k)
  | 0, _ => h
  | k + 1, hk => fun i hi => by
    show up1 _ _ _ i = _
    rw [up1_n (hi k (by omega))]
    exact rE5_ct h k (by omega) i hi
theorem rE5_ctA {a : RW} (hn : rn a ≤ 60) : ∀ k, rE5 a (rCtA a k)
  | 0 => fun _ _ => rfl
  | k + 1 => rE5_ct (rE5_ctA hn k) _ hn
theorem rRW.e5 {a b : RW} (g : rRW a) (h : rE5 a b) : rRW b := by
  have hm := g.1.1.m
  have hn := g.1.1.n
  have e1 := h 1 (fun s hs => by omega)
  have e2 := h 2 (fun s hs => by omega)
  have e0 := h 0 (fun s hs => by omega)
  have em : rm b = rm a := by show (b 2).toNat = _; rw [e2]
  have en : rn b = rn a := by show (b 1).toNat = _; rw [e1]
  refine ⟨g.1.cgx (by rw [e0]; exact ⟨g.1.1.1, Int.le_refl _⟩) e1 e2 (h 3 (fun s hs => by omega)) (h 4 (fun s hs => by omega)) (by rw [h 5 (fun s hs => by omega)]; exact g.1.1.2.2.2.1.2.2.2.1) (fun s j q1 q2 => h _ (fun t ht => by omega)) (fun w q1 => by rw [h _ (fun t ht => by omega), h _ (fun t ht => by omega)]; exact g.1.1.2.2.2.2.2.2 w q1) (fun w j q1 q2 => h _ (fun t ht => by omega)) (fun w s q1 q2 => h _ (fun t ht => by omega)), fun w s q1 q2 => ?_⟩
  rw [em] at q1
  rw [en] at q2
  unfold rCov
  rw [h _ (fun t ht => by omega), h (6 + 7 * s + 4) (fun t ht => by omega), h (6 + 7 * s + 2) (fun t ht => by omega), h (6 + 7 * s + 3) (fun t ht => by omega), h (426 + 6 * w) (fun t ht => by omega)]
  exact g.2 w s q1 q2
def rTk0 (a : RW) : RW := up1 a 0 (a 0 + 1)
theorem rRW_tk0 {a : RW} (g : rRW a) (h : a 0 < 9999) : rRW (rTk0 a) := by
  have hm := g.1.1.m
  have hn := g.1.1.n
  have o : ∀ i, i ≠ 0 → rTk0 a i = a i := fun i hi => up1_n hi
  have e0 : rTk0 a 0 = a 0 + 1 := up1_s
  have g0 := g.1.1.1
  have em : rm (rTk0 a) = rm a := by show (rTk0 a 2).toNat = _; rw [o 2 (by omega)]
  have en : rn (rTk0 a) = rn a := by show (rTk0 a 1).toNat = _; rw [o 1 (by omega)]
  refine ⟨g.1.cgx (by rw [e0]; omega) (o 1 (by omega)) (o 2 (by omega)) (o 3 (by omega)) (o 4 (by omega)) (by rw [o 5 (by omega)]; exact g.1.1.2.2.2.1.2.2.2.1) (fun s j q1 q2 => o _ (by omega)) (fun w q1 => by rw [o _ (by omega), o _ (by omega)]; exact g.1.1.2.2.2.2.2.2 w q1) (fun w j q1 q2 => o _ (by omega)) (fun w s q1 q2 => o _ (by omega)), fun w s q1 q2 => ?_⟩
  rw [em] at q1
  rw [en] at q2
  unfold rCov
  rw [o _ (by omega), o (6 + 7 * s + 4) (by omega), o (6 + 7 * s + 2) (by omega), o (6 + 7 * s + 3) (by omega), o (426 + 6 * w) (by omega)]
  exact g.2 w s q1 q2
def rTick (a : RW) : Int × RW := ((rGoN (rTk0 a) (rm a)).1, rCtA (rGoN (rTk0 a) (rm a)).2 (rm a))
theorem rRW_tick {a : RW} (g : rRW a) (h : a 0 < 9999) : rRW (rTick a).2 ∧ (rTick a).2 0 = a 0 + 1 := by
  have gt := rRW_tk0 g h
  have em : rm (rTk0 a) = rm a := by show (rTk0 a 2).toNat = (a 2).toNat; unfold rTk0; rw [up1_n (by omega)]
  obtain ⟨gn, n0, n1, n2⟩ := rGoN_ok gt (rm a) (by rw [em]; exact Nat.le_refl _)
  have e5 := rE5_ctA (a := (rGoN (rTk0 a) (rm a)).2) gn.1.1.n (rm a)
  refine ⟨gn.e5 e5, ?_⟩
  show rCtA _ _ 0 = _
  rw [e5 0 (fun s hs => by omega), n0]
  exact up1_s
def rPassN (a : RW) : Nat → Int × RW
  | 0 => (0, a)
  | k + 1 => ((rPassN a k).1 + (rTick (rPassN a k).2).1, (rTick (rPassN a k).2).2)
theorem rPassN_ok {a : RW} (g : rRW a) : ∀ k : Nat, a 0 + (k : Int) ≤ 9999 → rRW (rPassN a k).2 ∧ (rPassN a k).2 0 = a 0 + (k : Int)
  | 0, _ => ⟨g, by show a 0 = a 0 + ((0 : Nat) : Int); omega⟩
  | k + 1, hk => by
    obtain ⟨ih, i0⟩ := rPassN_ok g k (by omega)
    obtain ⟨t, t0⟩ := rRW_tick ih (by omega)
    refine ⟨t, ?_⟩
    show (rTick (rPassN a k).2).2 0 = _
    rw [t0, i0]
    omega
def rPasA (a : RW) (n : Int) : Int × Option RW := if 1 ≤ n ∧ n ≤ 100 then (if a 0 + n ≤ 9999 then ((rPassN a n.toNat).1, some (rPassN a n.toNat).2) else (-4, none)) else (-2, none)
section ME
variable {M : xv_M} {a : RW}
theorem md_turned {x : Int} (h : iR x) {M : xv_M} : D_X12_turned x M = some (rTrn x, M) := by
  unfold D_X12_turned rTrn
  rw [xe_cmp h.1 h.2 (by decide) (by decide), xe_cmp h.1 h.2 (by decide) (by decide)]
  by_cases h1 : x < 0
  · rw [if_neg (by omega), if_pos h1]
  · rw [if_pos (by omega), if_neg h1]
    by_cases h2 : 1000 < x
    · rw [if_neg (by omega), if_pos h2]
    · rw [if_pos (by omega), if_neg h2]
theorem md_goes (h : xl_OK M) (q : rRQ a) {w : Nat} (hw : w < rm a) : D_X12_goes 188 (w : Int) (mk M a) = some ((rChg (rGo a w) w).1, mk M (rChg (rGo a w) w).2) := by
  have hM : ∀ b : RW, xl_OK (mk M b) := fun _ => h
  have hm := q.1.m
  have hw6 : w < 6 := by omega
  obtain ⟨b1, b2⟩ := q.1.2.2.2.2.2.2 w hw
  have b1' : 0 ≤ a (426 + 6 * w + 0) ∧ a (426 + 6 * w + 0) ≤ 1000 := b1
  have ht := rTrn_b (x := rTo a w) (by unfold rTo; omega)
  have htr : iR (rTo a w) := by unfold rTo iR; omega
  have hc : D_X12_changes 188 (w : Int) (mk M (rGo a w)) = _ := md_changes h (rRQ_go q hw).1 (w := w) (by show w < rm (rGo a w); rw [rGo_m.1]; exact hw)
  unfold D_X12_goes
  rw [xr_188 (hM _), md_its1 h hw6, xe_call, xr_188 (hM _), md_its0 h hw6, xe_call]
  rw [show a (426 + 6 * w + 0) + a (426 + 6 * w + 1) = rTo a w from rfl]
  rw [md_turned htr, xe_call, xr_188 (hM _), md_gives0 h hw6, xe_call, xr_188 (hM _), md_its4 h hw6, xe_call, up1_n (by omega)]
  refine xe_letp (fun j => j (188, (w : Int), 4, a (426 + 6 * w + 4), rAb (a (426 + 6 * w + 1))) = some ((rChg (rGo a w) w).1, mk M (rChg (rGo a w) w).2)) ?_ (fun j hj => ?_)
  rotate_left
  · rw [xe_cmp (by omega) (by omega) (by decide) (by decide), ← hj]
    unfold rAb
    split <;> rfl
  dsimp only
  rw [xr_188 (hM _), md_gives4 h hw6, xe_call, xe_let, xe_cmp (by omega) (by omega) htr.1 htr.2]
  have e1 : up1 (up1 a (426 + 6 * w + 0) (rTrn (rTo a w))) (426 + 6 * w + 4) (a (426 + 6 * w + 4) + rAb (a (426 + 6 * w + 1))) = rGo1 a w := rfl
  rw [e1]
  by_cases c : rTrn (rTo a w) = rTo a w
  · have eg : rGo a w = rGo1 a w := if_pos c
    rw [if_pos c]
    dsimp only
    rw [xr_188 (hM _), ← eg, hc, xe_call]
  · have eg : rGo a w = rTells (rGo2 a w) 2 w (rTrn (rTo a w)) := if_neg c
    have e5 : rGo1 a w (426 + 6 * w + 5) = a (426 + 6 * w + 5) := by
      unfold rGo1
      rw [up1_n (by omega), up1_n (by omega)]
    have e25 : rGo2 a w 5 = a 5 := by
      unfold rGo2 rGo1
      rw [up1_n (by omega), up1_n (by omega), up1_n (by omega), up1_n (by omega)]
    have ht2 := md_tells (M := M) (a := rGo2 a w) h (by rw [e25]; exact q.1.2.2.2.1.2.2.2.1) (k := 2) (w := (w : Int)) (x := rTrn (rTo a w))
    rw [if_neg c, xr_188 (hM _), md_gives1 h hw6, xe_call, xr_188 (hM _), md_its5 h hw6, xe_call, up1_n (by omega), e5, xr_188 (hM _), md_gives5 h hw6, xe_call, xr_188 (hM _)]
    rw [show D_X12_tells 188 2 (w : Int) (rTrn (rTo a w)) (mk M (up1 (up1 (rGo1 a w) (426 + 6 * w + 1) (-(a (426 + 6 * w + 1)))) (426 + 6 * w + 5) (a (426 + 6 * w + 5) + 1))) = _ from ht2, xe_call]
    dsimp only
    rw [xr_188 (hM _), ← eg, hc, xe_call]
theorem md_aTick (h : xl_OK M) (g : rRW a) (h0 : a 0 < 9999) : D_X12_aTick 188 (mk M a) = some ((rTick a).1, mk M (rTick a).2) := by
  have hM : ∀ b : RW, xl_OK (mk M b) := fun _ => h
  have e0 : (0 : Int).toNat = 0 := rfl
  have e1 : (1 : Int).toNat = 1 := rfl
  have e2 : (2 : Int).toNat = 2 := rfl
  have gt := rRW_tk0 g h0
  have em : rm (rTk0 a) = rm a := by show (rTk0 a 2).toNat = (a 2).toNat; unfold rTk0; rw [up1_n (by omega)]
  have emI := g.1.1.em
  have et2 : rTk0 a 2 = a 2 := by unfold rTk0; rw [up1_n (by omega)]
  have hm := g.1.1.m
  unfold D_X12_aTick
  rw [xg_188_0 (hM _), xa_189 (hM _) (by decide) (by decide), mk_I, e0, xw_189 (hM _) (by decide) (by decide), mk_sI, e0]
  refine xe_loop (n := rm a) (fun k => ((rGoN (rTk0 a) k).1, (k : Int), mk M (rGoN (rTk0 a) k).2)) rfl (by omega) ?_ ?_
  · intro k hk f
    have ek : ((k + 1 : Nat) : Int) = (k : Int) + 1 := by omega
    obtain ⟨ok, _, _, o2⟩ := rGoN_ok gt k (by omega)
    have hw : k < rm (rGoN (rTk0 a) k).2 := by show k < ((rGoN (rTk0 a) k).2 2).toNat; rw [o2, et2]; exact hk
    dsimp only
    rw [xg_188_0 (hM _), xa_189 (hM _) (by decide) (by decide), mk_I, e2, o2, et2, xe_cmp (by omega) (by omega) (by omega) (by omega), if_neg (by omega), xr_188 (hM _), md_goes h ok.1 hw, xe_call, ek]
    rfl
  · intro f
    obtain ⟨ok, _, o1, o2⟩ := rGoN_ok gt (rm a) (by omega)
    dsimp only
    rw [xg_188_0 (hM _), xa_189 (hM _) (by decide) (by decide), mk_I, e2, o2, et2, xe_cmp (by omega) (by omega) (by omega) (by omega), if_pos (by omega)]
    unfold rTick
    generalize rGoN (rTk0 a) (rm a) = p at ok o1 o2 ⊢
    have p2 : p.2 2 = a 2 := o2.trans et2
    have pn := ok.1.1.n
    have pen := ok.1.1.en
    refine xe_loop (n := rm a) (fun k => ((k : Int), mk M (rCtA p.2 k))) rfl (by omega) ?_ ?_
    · intro w hw f
      have ek : ((w + 1 : Nat) : Int) = (w : Int) + 1 := by omega
      have E5 := rE5_ctA (a := p.2) pn w
      dsimp only
      rw [xg_188_0 (hM _), xa_189 (hM _) (by decide) (by decide), mk_I, e2, E5 2 (fun s hs => by omega), p2, xe_cmp (by omega) (by omega) (by omega) (by omega), if_neg (by omega)]
      refine xe_loop (n := rn p.2) (fun s => ((s : Int), mk M (rCt (rCtA p.2 w) w s))) rfl (by omega) ?_ ?_
      · intro s hs f'
        have ek : ((s + 1 : Nat) : Int) = (s : Int) + 1 := by omega
        have E6 := rE5_ct (w := w) E5 s (by omega)
        have gg := ok.e5 E6
        dsimp only
        rw [xg_188_0 (hM _), xa_189 (hM _) (by decide) (by decide), mk_I, e1, E6 1 (fun s hs => by omega), xe_cmp (by omega) (by omega) (by omega) (by omega), if_neg (by omega), xr_188 (hM _), md_of5 h (by omega), xe_call, xr_188 (hM _), md_ins h gg.1.1 (by omega) (by omega), xe_call]
        refine xe_letp (fun j => j (188, (s : Int), 5, rCt (rCtA p.2 w) w s (6 + 7 * s + 5), if rIn (rCt (rCtA p.2 w) w s) w s then 1 else 0) = f' (((s + 1 : Nat) : Int), mk M (rCt (rCtA p.2 w) w (s + 1)))) ?_ (fun j hj => ?_)
        rotate_left
        · rw [xe_b0, ← hj]
          split <;> rfl
        dsimp only
        rw [xr_188 (hM _), md_puts5 h (by omega), xe_call, ek]
        rfl
      · intro f'
        have E6 := rE5_ct (w := w) E5 (rn p.2) pn
        dsimp only
        rw [xg_188_0 (hM _), xa_189 (hM _) (by decide) (by decide), mk_I, e1, E6 1 (fun s hs => by omega), xe_cmp (by omega) (by omega) (by omega) (by omega), if_pos (by omega), ek]
        rfl
    · intro f
      have E5 := rE5_ctA (a := p.2) pn (rm a)
      dsimp only
      rw [xg_188_0 (hM _), xa_189 (hM _) (by decide) (by decide), mk_I, e2, E5 2 (fun s hs => by omega), p2, xe_cmp (by omega) (by omega) (by omega) (by omega), if_pos (by omega)]
end ME
section MF
variable {M : xv_M} {H a : RW} {k : Nat}
theorem md_pass (h : xl_OK M) (hk : k ≤ 4) (g : rRW a) {n : Int} (hn : iR n) : D_X12_pass 188 n (mk (mkh M H (k : Int)) a) = some ((rPasA a n).1, mAct M H a k (rPasA a n).2) := by
  have hM : ∀ (b H : RW) (k : Int), xl_OK (mk (mkh M H k) b) := fun _ _ _ => h
  have e0 : (0 : Int).toNat = 0 := rfl
  have g0 := g.1.1.1
  unfold D_X12_pass rPasA
  rw [md_in hn (by omega) (by omega), xe_call, xe_b1]
  by_cases c : 1 ≤ n ∧ n ≤ 100
  · rw [if_pos c, if_pos c, xg_188_0 (hM _ _ _), xa_189 (hM _ _ _) (by decide) (by decide), mk_I, e0, xe_cmp (by omega) (by omega) (by decide) (by decide)]
    by_cases c2 : a 0 + n ≤ 9999
    · rw [if_pos c2, if_pos c2, xr_188 (hM _ _ _), md_record h hk, xe_call]
      obtain ⟨m, rfl⟩ : ∃ m : Nat, n = (m : Int) := ⟨n.toNat, by omega⟩
      rw [Int.toNat_natCast]
      refine xe_loop (n := m) (fun i => ((rPassN a i).1, (i : Int), mk (mkh M (hRec H k a) (hCnt k : Int)) (rPassN a i).2)) rfl (by omega) ?_ ?_
      · intro i hi f
        have ek : ((i + 1 : Nat) : Int) = (i : Int) + 1 := by omega
        obtain ⟨ok, o0⟩ := rPassN_ok g i (by omega)
        dsimp only
        rw [xe_cmp (by omega) (by omega) (by omega) (by omega), if_neg (by omega), xr_188 (hM _ _ _), md_aTick (M := mkh M _ _) h ok (by omega), xe_call, ek]
        rfl
      · intro f
        dsimp only
        rw [xe_cmp (by omega) (by omega) (by omega) (by omega), if_pos (by omega)]
        rfl
    · rw [if_neg c2, if_neg c2]
      rfl
  · rw [if_neg c, if_neg c]
    rfl
end MF
