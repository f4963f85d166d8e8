/-! ## the reference moves, lets come, puts, gives a speed -/
def rMov (a : RW) (s : Nat) (d : Int) : Nat → RW
  | 0 => a
  | k + 1 => up1 (rMov a s d k) (6 + 7 * s + k) (rMov a s d k (6 + 7 * s + k) + d)
theorem rMov_v {a : RW} {s : Nat} {d : Int} {i : Nat} : ∀ k : Nat, rMov a s d k i = if 6 + 7 * s ≤ i ∧ i < 6 + 7 * s + k then a i + d else a i
  | 0 => by rw [if_neg (by omega)]; rfl
  | k + 1 => by
    show up1 (rMov a s d k) (6 + 7 * s + k) _ i = _
    by_cases h : i = 6 + 7 * s + k
    · subst h
      rw [up1_s, rMov_v k, if_neg (by omega), if_pos (by omega)]
    · rw [up1_n h, rMov_v k]
      by_cases h2 : 6 + 7 * s ≤ i ∧ i < 6 + 7 * s + k
      · rw [if_pos h2, if_pos (by omega)]
      · rw [if_neg h2, if_neg (by omega)]
theorem rMov_n {a : RW} {s : Nat} {d : Int} {i : Nat} (h : ¬ (6 + 7 * s ≤ i ∧ i < 6 + 7 * s + 4)) : rMov a s d 4 i = a i := by rw [rMov_v, if_neg h]
theorem rMov_s {a : RW} {s : Nat} {d : Int} {j : Nat} (h : j < 4) : rMov a s d 4 (6 + 7 * s + j) = a (6 + 7 * s + j) + d := by rw [rMov_v, if_pos (by omega)]
theorem rRQ_mov {a : RW} (q : rRQ a) {s : Nat} (hs : s < rn a) (ht : a (6 + 7 * s + 4) = 1) {d : Int} (h1 : 0 ≤ a (6 + 7 * s + 0) + d) (h2 : a (6 + 7 * s + 1) + d ≤ 1000) : rRQ (rMov a s d 4) := by
  obtain ⟨gd, sp, sm, z⟩ := q
  have hm := gd.m
  have hn := gd.n
  have spx := sp s hs ht
  obtain ⟨g0, g1, g2, gk, g4, gb, gw⟩ := gd
  have o : ∀ i, ¬ (6 + 7 * s ≤ i ∧ i < 6 + 7 * s + 4) → rMov a s d 4 i = a i := fun i hi => rMov_n hi
  have e0 := o 0 (by omega)
  have e1 := o 1 (by omega)
  have e2 := o 2 (by omega)
  have en : rn (rMov a s d 4) = rn a := by show (rMov a s d 4 1).toNat = (a 1).toNat; rw [e1]
  have em : rm (rMov a s d 4) = rm a := by show (rMov a s d 4 2).toNat = (a 2).toNat; rw [e2]
  refine ⟨⟨by rw [e0]; exact g0, by rw [e1]; exact g1, by rw [e2]; exact g2, rKp_refl (by rw [o 5 (by omega)]; exact gk.2.2.2.1) (fun w s q1 q2 => ?_), fun t q1 => ?_, fun t q1 q2 => ?_, fun w q1 => ?_⟩, fun t q1 q2 => ?_, ⟨?_, ?_⟩, fun w s q1 q2 q3 => ?_⟩
  · rw [o _ (by omega), e0]
    exact gk.2.2.2.2.2.2 w s q1 q2
  · rw [o _ (by omega)]; exact g4 t q1
  · rw [o _ (by omega)] at q2
    by_cases he : t = s
    · subst he
      rw [rMov_s (by omega), rMov_s (by omega)]
      omega
    · rw [o _ (by omega), o _ (by omega)]; exact gb t q1 q2
  · rw [e2] at q1
    have hw6 : w < 6 := by omega
    rw [o _ (by omega), o _ (by omega)]; exact gw w q1
  · rw [en] at q1
    rw [o _ (by omega)] at q2
    by_cases he : t = s
    · subst he
      rw [rMov_s (by omega), rMov_s (by omega), rMov_s (by omega), rMov_s (by omega)]
      omega
    · rw [o _ (by omega), o _ (by omega), o _ (by omega), o _ (by omega)]; exact sp t q1 q2
  · rw [o 3 (by omega), em, rsm_cg (a := a) (fun w q1 => o _ (by omega))]; exact sm.1
  · rw [o 4 (by omega), em, rsm_cg (a := a) (fun w q1 => o _ (by omega))]; exact sm.2
  · rw [en] at q3
    rw [o _ (by omega)]; exact z w s q1 q2 q3
def rMovA (a : RW) (x d : Int) : Int × Option RW := if 0 ≤ x ∧ x < a 1 ∧ a (6 + 7 * x.toNat + 4) = 1 then (if (-1000 ≤ d ∧ d ≤ 1000) ∧ d ≠ 0 then (if 0 ≤ a (6 + 7 * x.toNat + 0) + d ∧ a (6 + 7 * x.toNat + 1) + d ≤ 1000 then ((rAll (rMov a x.toNat d 4)).1, some (rAll (rMov a x.toNat d 4)).2) else (-4, none)) else (-2, none)) else (-1, none)
section MB
variable {M : xv_M} {H a : RW} {k : Nat}
theorem md_move (h : xl_OK M) (hk : k ≤ 4) (g : rRW a) {x d : Int} (hx : iR x) (hd : iR d) : D_X12_move 188 x d (mk (mkh M H (k : Int)) a) = some ((rMovA a x d).1, mAct M H a k (rMovA a x d).2) := by
  have hM : ∀ (b H : RW) (k : Int), xl_OK (mk (mkh M H k) b) := fun _ _ _ => h
  have g1 := g.1.1.2.1
  unfold D_X12_move rMovA
  rw [xr_188 (hM _ _ _), md_noSpan (M := mkh M _ _) h hx g1 g.1.1.2.2.2.2.1, xe_call]
  by_cases c : 0 ≤ x ∧ x < a 1 ∧ a (6 + 7 * x.toNat + 4) = 1
  · rw [if_pos c, if_pos c]
    obtain ⟨s, rfl⟩ : ∃ s : Nat, x = (s : Int) := ⟨x.toNat, by omega⟩
    rw [Int.toNat_natCast] at c ⊢
    have en := g.1.1.en
    have hs : s < rn a := by omega
    have sp := g.1.2.1 s hs c.2.2
    rw [xe_cmp (by decide) (by decide) (by decide) (by decide), if_pos rfl, md_in hd (by omega) (by omega), xe_call, xe_b0]
    by_cases c2 : -1000 ≤ d ∧ d ≤ 1000
    · rw [if_pos c2, xe_cmp hd.1 hd.2 (by decide) (by decide)]
      by_cases c3 : d = 0
      · rw [if_neg (fun z => z c3), if_neg (fun z => z.2 c3)]
        rfl
      · rw [if_pos c3, if_pos ⟨c2, c3⟩, xr_188 (hM _ _ _), md_of0 (M := mkh M _ _) h (by omega), xe_call, xe_cmp (by omega) (by omega) (by decide) (by decide)]
        by_cases c4 : a (6 + 7 * s + 0) + d < 0
        · rw [if_pos c4, if_neg (by omega)]
          rfl
        · rw [if_neg c4, xr_188 (hM _ _ _), md_of1 (M := mkh M _ _) h (by omega), xe_call, xe_cmp (by omega) (by omega) (by decide) (by decide)]
          by_cases c5 : a (6 + 7 * s + 1) + d ≤ 1000
          · rw [if_pos c5, if_pos ⟨by omega, c5⟩, xr_188 (hM _ _ _), md_record h hk, xe_call]
            refine xe_loop (n := 4) (fun i => ((i : Int), mk (mkh M (hRec H k a) (hCnt k : Int)) (rMov a s d i))) rfl (by decide) ?_ ?_
            · intro i hi f
              have ek : ((i + 1 : Nat) : Int) = (i : Int) + 1 := by omega
              dsimp only
              rw [xe_cmp (by omega) (by omega) (by decide) (by decide), if_neg (by omega), xr_188 (hM _ _ _), md_of' (M := mkh M _ _) h (by omega) (by omega), xe_call, xr_188 (hM _ _ _), md_puts' (M := mkh M _ _) h (by omega) (by omega), xe_call, ek]
              rfl
            · intro f
              have ha := md_allChanges (M := mkh M (hRec H k a) (hCnt k)) h (rRQ_mov g.1 hs c.2.2 (d := d) (by omega) c5).1
              dsimp only
              rw [xe_cmp (by decide) (by decide) (by decide) (by decide), if_pos (by decide), xr_188 (hM _ _ _), ha, xe_call]
              rfl
          · rw [if_neg c5, if_neg (fun z => c5 z.2)]
            rfl
    · rw [if_neg c2, if_neg (fun z => c2 z.1)]
      rfl
  · rw [if_neg c, if_neg c, xe_cmp (by decide) (by decide) (by decide) (by decide), if_neg (by decide)]
    rfl
end MB
/-! come -/
def rComB (a : RW) (p v : Int) : RW := fun i => if i = 2 then a 2 + 1 else if i = 426 + 6 * rm a then p else if i = 426 + 6 * rm a + 1 then v else if 426 + 6 * rm a ≤ i ∧ i < 426 + 6 * rm a + 6 then 0 else if 462 + 60 * rm a ≤ i ∧ i < 462 + 60 * rm a + 60 then 0 else a i
theorem rComB_n {a : RW} {p v : Int} {i : Nat} (h2 : i ≠ 2) (h3 : ¬ (426 + 6 * rm a ≤ i ∧ i < 426 + 6 * rm a + 6)) (h4 : ¬ (462 + 60 * rm a ≤ i ∧ i < 462 + 60 * rm a + 60)) : rComB a p v i = a i := by
  unfold rComB
  rw [if_neg h2, if_neg (by omega), if_neg (by omega), if_neg h3, if_neg h4]
theorem rComB_2 {a : RW} {p v : Int} : rComB a p v 2 = a 2 + 1 := if_pos rfl
theorem rComB_p {a : RW} {p v : Int} : rComB a p v (426 + 6 * rm a) = p := by
  unfold rComB
  rw [if_neg (by omega), if_pos rfl]
theorem rComB_v {a : RW} {p v : Int} : rComB a p v (426 + 6 * rm a + 1) = v := by
  unfold rComB
  rw [if_neg (by omega), if_neg (by omega), if_pos rfl]
theorem rComB_f {a : RW} {p v : Int} {j : Nat} (h : 2 ≤ j ∧ j < 6) : rComB a p v (426 + 6 * rm a + j) = 0 := by
  unfold rComB
  rw [if_neg (by omega), if_neg (by omega), if_neg (by omega), if_pos (by omega)]
theorem rComB_i {a : RW} {p v : Int} {s : Nat} (hm : rm a < 6) (h : s < 60) : rComB a p v (462 + 60 * rm a + s) = 0 := by
  unfold rComB
  rw [if_neg (by omega), if_neg (by omega), if_neg (by omega), if_neg (by omega), if_pos (by omega)]
theorem rComB_m {a : RW} (g : rGd a) {p v : Int} : rm (rComB a p v) = rm a + 1 := by
  have := g.2.2.1
  show (rComB a p v 2).toNat = (a 2).toNat + 1
  rw [rComB_2]
  omega
theorem rRQ_com {a : RW} (q : rRQ a) (h6 : a 2 < 6) {p v : Int} (hp : 0 ≤ p ∧ p ≤ 1000) (hv : -50 ≤ v ∧ v ≤ 50) : rRQ (rComB a p v) := by
  obtain ⟨gd, sp, sm, z⟩ := q
  have em2 := rComB_m gd (p := p) (v := v)
  have emm := gd.em
  have hm : rm a < 6 := by omega
  have hn := gd.n
  obtain ⟨g0, g1, g2, gk, g4, gb, gw⟩ := gd
  have o : ∀ i, i ≠ 2 → ¬ (426 + 6 * rm a ≤ i ∧ i < 426 + 6 * rm a + 6) → ¬ (462 + 60 * rm a ≤ i ∧ i < 462 + 60 * rm a + 60) → rComB a p v i = a i := fun i h1 h2 h3 => rComB_n h1 h2 h3
  have e0 := o 0 (by omega) (by omega) (by omega)
  have e1 := o 1 (by omega) (by omega) (by omega)
  have en : rn (rComB a p v) = rn a := by show (rComB a p v 1).toNat = (a 1).toNat; rw [e1]
  have e2 : rComB a p v 2 = a 2 + 1 := rComB_2
  refine ⟨⟨by rw [e0]; exact g0, by rw [e1]; exact g1, by rw [e2]; omega, rKp_refl (by rw [o 5 (by omega) (by omega) (by omega)]; exact gk.2.2.2.1) (fun w s q1 q2 => ?_), fun t q1 => ?_, fun t q1 q2 => ?_, fun w q1 => ?_⟩, fun t q1 q2 => ?_, ⟨?_, ?_⟩, fun w s q1 q2 q3 => ?_⟩
  · by_cases hw : w = rm a
    · subst hw
      rw [rComB_i hm q2, e0]
      omega
    · rw [o _ (by omega) (by omega) (by omega), e0]
      exact gk.2.2.2.2.2.2 w s q1 q2
  · rw [o _ (by omega) (by omega) (by omega)]; exact g4 t q1
  · rw [o _ (by omega) (by omega) (by omega)] at q2
    rw [o _ (by omega) (by omega) (by omega), o _ (by omega) (by omega) (by omega)]; exact gb t q1 q2
  · have q1' : w < rm (rComB a p v) := q1
    rw [em2] at q1'
    by_cases hw : w = rm a
    · subst hw
      rw [rComB_p, rComB_v]
      exact ⟨hp, hv⟩
    · rw [o _ (by omega) (by omega) (by omega), o _ (by omega) (by omega) (by omega)]
      exact gw w (by show w < rm a; omega)
  · rw [en] at q1
    rw [o _ (by omega) (by omega) (by omega)] at q2
    rw [o _ (by omega) (by omega) (by omega), o _ (by omega) (by omega) (by omega), o _ (by omega) (by omega) (by omega), o _ (by omega) (by omega) (by omega)]; exact sp t q1 q2
  · rw [o 3 (by omega) (by omega) (by omega), em2]
    show _ = rsm (rComB a p v) 2 (rm a) + rComB a p v (426 + 6 * rm a + 2)
    rw [rsm_cg (a := a) (fun w q1 => o _ (by omega) (by omega) (by omega)), rComB_f (by omega), sm.1]
    omega
  · rw [o 4 (by omega) (by omega) (by omega), em2]
    show _ = rsm (rComB a p v) 3 (rm a) + rComB a p v (426 + 6 * rm a + 3)
    rw [rsm_cg (a := a) (fun w q1 => o _ (by omega) (by omega) (by omega)), rComB_f (by omega), sm.2]
    omega
  · rw [en] at q3
    by_cases hw : w = rm a
    · subst hw
      exact rComB_i hm q2
    · rw [o _ (by omega) (by omega) (by omega)]
      exact z w s q1 q2 q3
theorem rSyn_com {a : RW} (g : rRW a) (h6 : a 2 < 6) {p v : Int} : rSynX (rComB a p v) (rm a) := fun w s hw hne hs => by
  have gd := g.1.1
  have emm := gd.em
  have hm : rm a < 6 := by omega
  have hn := gd.n
  have o : ∀ i, i ≠ 2 → ¬ (426 + 6 * rm a ≤ i ∧ i < 426 + 6 * rm a + 6) → ¬ (462 + 60 * rm a ≤ i ∧ i < 462 + 60 * rm a + 60) → rComB a p v i = a i := fun i h1 h2 h3 => rComB_n h1 h2 h3
  have en : rn (rComB a p v) = rn a := by show (rComB a p v 1).toNat = (a 1).toNat; rw [o 1 (by omega) (by omega) (by omega)]
  rw [rComB_m gd] at hw
  rw [en] at hs
  unfold rCov
  rw [o _ (by omega) (by omega) (by omega), o (6 + 7 * s + 4) (by omega) (by omega) (by omega), o (6 + 7 * s + 2) (by omega) (by omega) (by omega), o (6 + 7 * s + 3) (by omega) (by omega) (by omega), o (426 + 6 * w) (by omega) (by omega) (by omega)]
  exact g.2 w s (by omega) hs
def rComA (a : RW) (p v : Int) : Int × Option RW := if (0 ≤ p ∧ p ≤ 1000) ∧ (-50 ≤ v ∧ v ≤ 50) then (if a 2 = 6 then (-3, none) else (a 2, some (rChg (rComB a p v) (rm a)).2)) else (-2, none)
theorem rRW_com {a : RW} (g : rRW a) (h6 : a 2 < 6) {p v : Int} (hp : 0 ≤ p ∧ p ≤ 1000) (hv : -50 ≤ v ∧ v ≤ 50) : rRW (rChg (rComB a p v) (rm a)).2 := rRW_chg (rRQ_com g.1 h6 hp hv) (by rw [rComB_m g.1.1]; omega) (rSyn_com g h6)
section MC
variable {M : xv_M} {H a : RW} {k : Nat}
theorem md_come (h : xl_OK M) (hk : k ≤ 4) (g : rRW a) {p v : Int} (hp : iR p) (hv : iR v) : D_X12_come 188 p v (mk (mkh M H (k : Int)) a) = some ((rComA a p v).1, mAct M H a k (rComA a p v).2) := by
  have hM : ∀ (b H : RW) (k : Int), xl_OK (mk (mkh M H k) b) := fun _ _ _ => h
  have g2 := g.1.1.2.2.1
  have e2 : (2 : Int).toNat = 2 := rfl
  have em := g.1.1.em
  unfold D_X12_come rComA
  rw [md_in hp (by omega) (by omega), xe_call, xe_b0]
  by_cases c1 : 0 ≤ p ∧ p ≤ 1000
  · rw [if_pos c1, md_in hv (by omega) (by omega), xe_call, xe_b1]
    by_cases c2 : -50 ≤ v ∧ v ≤ 50
    · rw [if_pos c2, if_pos ⟨c1, c2⟩, xg_188_0 (hM _ _ _), xa_189 (hM _ _ _) (by decide) (by decide), mk_I, e2, xe_cmp (by omega) (by omega) (by decide) (by decide)]
      by_cases c3 : a 2 = 6
      · rw [if_neg (fun z => z c3), if_pos c3]
        rfl
      · rw [if_pos c3, if_neg c3, xr_188 (hM _ _ _), md_record h hk, xe_call]
        have h6 : a 2 < 6 := by omega
        have hm : rm a < 6 := by omega
        have gb := (rRQ_com g.1 h6 c1 c2).1
        show _ = some (a 2, mk (mkh M (hRec H k a) (hCnt k : Int)) (rChg (rComB a p v) (rm a)).2)
        generalize hRec H k a = H'
        generalize hCnt k = k'
        rw [← em]
        generalize hw : rm a = w at hm em
        refine xe_loop (n := 6) (fun i => ((i : Int), mk (mkh M H' (k' : Int)) (fun j => if 426 + 6 * w ≤ j ∧ j < 426 + 6 * w + i then 0 else a j))) ?_ (by decide) ?_ ?_
        · refine congrArg (fun q => ((0 : Int), mk (mkh M H' (k' : Int)) q)) (funext fun j => ?_)
          rw [if_neg (by omega)]
        · intro i hi f
          have ek : ((i + 1 : Nat) : Int) = (i : Int) + 1 := by omega
          dsimp only
          rw [xe_cmp (by omega) (by omega) (by decide) (by decide), if_neg (by omega), xr_188 (hM _ _ _), md_gives' (M := mkh M _ _) h hm (by omega), xe_call, ek]
          refine congrArg f (Prod.ext rfl (congrArg (mk (mkh M H' (k' : Int))) (funext fun j => ?_)))
          by_cases hj : j = 426 + 6 * w + i
          · subst hj
            rw [up1_s, if_pos (by omega)]
          · rw [up1_n hj]
            by_cases h2 : 426 + 6 * w ≤ j ∧ j < 426 + 6 * w + i
            · rw [if_pos h2, if_pos (by omega)]
            · rw [if_neg h2, if_neg (by omega)]
        · intro f
          dsimp only
          rw [xe_cmp (by decide) (by decide) (by decide) (by decide), if_pos (by decide), xr_188 (hM _ _ _), md_gives0 (M := mkh M _ _) h hm, xe_call, xr_188 (hM _ _ _), md_gives1 (M := mkh M _ _) h hm, xe_call]
          refine xe_loop (n := 60) (fun i => ((i : Int), mk (mkh M H' (k' : Int)) (fun j => if j = 426 + 6 * w then p else if j = 426 + 6 * w + 1 then v else if 426 + 6 * w ≤ j ∧ j < 426 + 6 * w + 6 then 0 else if 462 + 60 * w ≤ j ∧ j < 462 + 60 * w + i then 0 else a j))) ?_ (by decide) ?_ ?_
          · refine congrArg (fun q => ((0 : Int), mk (mkh M H' (k' : Int)) q)) (funext fun j => ?_)
            by_cases h1 : j = 426 + 6 * w + 1
            · subst h1
              rw [up1_s, if_neg (by omega), if_pos rfl]
            · rw [up1_n h1, if_neg h1]
              by_cases h0 : j = 426 + 6 * w
              · subst h0
                rw [if_pos rfl]
                exact up1_s
              · rw [up1_n (by omega), if_neg h0, if_neg (show ¬ (462 + 60 * w ≤ j ∧ j < 462 + 60 * w + 0) by omega)]
          · intro i hi f
            have ek : ((i + 1 : Nat) : Int) = (i : Int) + 1 := by omega
            have ei : ((462 : Int) + 60 * (w : Int) + (i : Int)).toNat = 462 + 60 * w + i := by omega
            dsimp only
            rw [xe_cmp (by omega) (by omega) (by decide) (by decide), if_neg (by omega), xg_188_0 (hM _ _ _), xw_189 (hM _ _ _) (by omega) (by omega), mk_sI, ei, ek]
            refine congrArg f (Prod.ext rfl (congrArg (mk (mkh M H' (k' : Int))) (funext fun j => ?_)))
            by_cases hj : j = 462 + 60 * w + i
            · subst hj
              rw [up1_s, if_neg (by omega), if_neg (by omega), if_neg (by omega), if_pos (by omega)]
            · rw [up1_n hj]
              by_cases h2 : 462 + 60 * w ≤ j ∧ j < 462 + 60 * w + i
              · rw [if_pos h2, if_pos (show 462 + 60 * w ≤ j ∧ j < 462 + 60 * w + (i + 1) by omega)]
              · rw [if_neg h2, if_neg (show ¬ (462 + 60 * w ≤ j ∧ j < 462 + 60 * w + (i + 1)) by omega)]
          · intro f
            dsimp only
            rw [xe_cmp (by decide) (by decide) (by decide) (by decide), if_pos (by decide), xg_188_0 (hM _ _ _), xa_189 (hM _ _ _) (by decide) (by decide), mk_I, e2, xw_189 (hM _ _ _) (by decide) (by decide), mk_sI, e2]
            have eb : up1 (fun j => if j = 426 + 6 * w then p else if j = 426 + 6 * w + 1 then v else if 426 + 6 * w ≤ j ∧ j < 426 + 6 * w + 6 then 0 else if 462 + 60 * w ≤ j ∧ j < 462 + 60 * w + 60 then 0 else a j) 2 ((if 2 = 426 + 6 * w then p else if 2 = 426 + 6 * w + 1 then v else if 426 + 6 * w ≤ 2 ∧ 2 < 426 + 6 * w + 6 then 0 else if 462 + 60 * w ≤ 2 ∧ 2 < 462 + 60 * w + 60 then 0 else a 2) + 1) = rComB a p v := by
              rw [if_neg (by omega), if_neg (by omega), if_neg (by omega), if_neg (by omega)]
              funext j
              unfold rComB
              rw [hw]
              by_cases hj : j = 2
              · subst hj
                rw [up1_s, if_pos rfl]
              · rw [up1_n hj, if_neg hj]
            rw [eb, xr_188 (hM _ _ _), md_changes (M := mkh M _ _) h gb (w := w) (by show w < rm (rComB a p v); rw [rComB_m g.1.1]; omega), xe_call]
    · rw [if_neg c2, if_neg (fun z => c2 z.2)]
      rfl
  · rw [if_neg c1, if_neg (fun z => c1 z.1)]
    rfl
end MC
/-! put, speed -/
def rPutA (a : RW) (x p : Int) : Int × Option RW := if 0 ≤ x ∧ x < a 2 then (if 0 ≤ p ∧ p ≤ 1000 then (if a (426 + 6 * x.toNat + 0) = p then (-5, none) else ((rChg (up1 a (426 + 6 * x.toNat + 0) p) x.toNat).1, some (rChg (up1 a (426 + 6 * x.toNat + 0) p) x.toNat).2)) else (-2, none)) else (-1, none)
def rSpdA (a : RW) (x v : Int) : Int × Option RW := if 0 ≤ x ∧ x < a 2 then (if -50 ≤ v ∧ v ≤ 50 then (if a (426 + 6 * x.toNat + 1) = v then (-5, none) else (1000 + a (426 + 6 * x.toNat + 1), some (up1 a (426 + 6 * x.toNat + 1) v))) else (-2, none)) else (-1, none)
theorem rRQ_wk {a : RW} (q : rRQ a) {w j : Nat} (hw : w < rm a) (hj : j = 0 ∨ j = 1) {v : Int} (hv : (j = 0 → 0 ≤ v ∧ v ≤ 1000) ∧ (j = 1 → -50 ≤ v ∧ v ≤ 50)) : rRQ (up1 a (426 + 6 * w + j) v) := by
  have hm := q.1.m
  have o : ∀ i, i ≠ 426 + 6 * w + j → up1 a (426 + 6 * w + j) v i = a i := fun i hi => up1_n hi
  refine q.cgx ?_ (o 1 (by omega)) (o 2 (by omega)) (o 3 (by omega)) (o 4 (by omega)) ?_ (fun s i q1 q2 => o _ (by omega)) (fun w' q1 => ?_) (fun w' i q1 q2 => o _ (by omega)) (fun w' s q1 q2 => o _ (by omega))
  · rw [o 0 (by omega)]
    exact ⟨q.1.1, Int.le_refl _⟩
  · rw [o 5 (by omega)]
    exact q.1.2.2.2.1.2.2.2.1
  · obtain ⟨b1, b2⟩ := q.1.2.2.2.2.2.2 w' q1
    by_cases hw' : w' = w
    · subst hw'
      rcases hj with rfl | rfl
      · rw [Nat.add_zero, up1_s, up1_n (by omega)]
        exact ⟨hv.1 rfl, b2⟩
      · rw [up1_s, up1_n (by omega)]
        exact ⟨b1, hv.2 rfl⟩
    · rw [o _ (by omega), o _ (by omega)]
      exact ⟨b1, b2⟩
theorem rRW_put {a : RW} (g : rRW a) {w : Nat} (hw : w < rm a) {p : Int} (hp : 0 ≤ p ∧ p ≤ 1000) : rRW (rChg (up1 a (426 + 6 * w + 0) p) w).2 := by
  have hm := g.1.1.m
  have hn := g.1.1.n
  have o : ∀ i, i ≠ 426 + 6 * w + 0 → up1 a (426 + 6 * w + 0) p i = a i := fun i hi => up1_n hi
  have em : rm (up1 a (426 + 6 * w + 0) p) = rm a := by show (up1 a (426 + 6 * w + 0) p 2).toNat = _; rw [o 2 (by omega)]
  have en : rn (up1 a (426 + 6 * w + 0) p) = rn a := by show (up1 a (426 + 6 * w + 0) p 1).toNat = _; rw [o 1 (by omega)]
  refine rRW_chg (rRQ_wk g.1 hw (Or.inl rfl) ⟨fun _ => hp, fun z => absurd z (by decide)⟩) (by rw [em]; exact hw) (fun w' s q1 q2 q3 => ?_)
  rw [em] at q1
  rw [en] at q3
  unfold rCov
  rw [o _ (by omega), o _ (by omega), o _ (by omega), o _ (by omega), o _ (by omega)]
  exact g.2 w' s q1 q3
theorem rRW_spd {a : RW} (g : rRW a) {w : Nat} (hw : w < rm a) {v : Int} (hv : -50 ≤ v ∧ v ≤ 50) : rRW (up1 a (426 + 6 * w + 1) v) := by
  have hm := g.1.1.m
  have hn := g.1.1.n
  have o : ∀ i, i ≠ 426 + 6 * w + 1 → up1 a (426 + 6 * w + 1) v i = a i := fun i hi => up1_n hi
  have em : rm (up1 a (426 + 6 * w + 1) v) = rm a := by show (up1 a (426 + 6 * w + 1) v 2).toNat = _; rw [o 2 (by omega)]
  have en : rn (up1 a (426 + 6 * w + 1) v) = rn a := by show (up1 a (426 + 6 * w + 1) v 1).toNat = _; rw [o 1 (by omega)]
  refine ⟨rRQ_wk g.1 hw (Or.inr rfl) ⟨fun z => absurd z (by decide), fun _ => hv⟩, fun w' s q1 q3 => ?_⟩
  rw [em] at q1
  rw [en] at q3
  unfold rCov
  rw [o _ (by omega), o _ (by omega), o _ (by omega), o _ (by omega), o _ (by omega)]
  exact g.2 w' s q1 q3
section MD
variable {M : xv_M} {H a : RW} {k : Nat}
theorem md_put (h : xl_OK M) (hk : k ≤ 4) (g : rRW a) {x p : Int} (hx : iR x) (hp : iR p) : D_X12_put 188 x p (mk (mkh M H (k : Int)) a) = some ((rPutA a x p).1, mAct M H a k (rPutA a x p).2) := by
  have hM : ∀ (b H : RW) (k : Int), xl_OK (mk (mkh M H k) b) := fun _ _ _ => h
  have g2 := g.1.1.2.2.1
  have em := g.1.1.em
  unfold D_X12_put rPutA
  rw [xr_188 (hM _ _ _), md_noWalker (M := mkh M _ _) h hx g2, xe_call]
  by_cases c : 0 ≤ x ∧ x < a 2
  · rw [if_pos c, if_pos c, xe_cmp (by decide) (by decide) (by decide) (by decide), if_pos rfl, md_in hp (by omega) (by omega), xe_call, xe_b1]
    obtain ⟨w, rfl⟩ : ∃ w : Nat, x = (w : Int) := ⟨x.toNat, by omega⟩
    rw [Int.toNat_natCast]
    have hw : w < rm a := by omega
    have hm := g.1.1.m
    by_cases c2 : 0 ≤ p ∧ p ≤ 1000
    · have bw := (g.1.1.2.2.2.2.2.2 w hw).1
      rw [if_pos c2, if_pos c2, xr_188 (hM _ _ _), md_its0 (M := mkh M _ _) h (by omega), xe_call, xe_cmp (by rw [Nat.add_zero]; omega) (by rw [Nat.add_zero]; omega) (by omega) (by omega)]
      by_cases c3 : a (426 + 6 * w + 0) = p
      · rw [if_neg (fun z => z c3), if_pos c3]
        rfl
      · rw [if_pos c3, if_neg c3, xr_188 (hM _ _ _), md_record h hk, xe_call, xr_188 (hM _ _ _), md_gives0 (M := mkh M _ _) h (by omega), xe_call]
        have gb := (rRQ_wk g.1 hw (Or.inl rfl) (v := p) ⟨fun _ => c2, fun z => absurd z (by decide)⟩).1
        have hm2 : w < (up1 a (426 + 6 * w + 0) p 2).toNat := by rw [up1_n (by omega)]; exact hw
        rw [xr_188 (hM _ _ _), md_changes (M := mkh M _ _) h gb hm2, xe_call]
        rfl
    · rw [if_neg c2, if_neg c2]
      rfl
  · rw [if_neg c, if_neg c, xe_cmp (by decide) (by decide) (by decide) (by decide), if_neg (by decide)]
    rfl
theorem md_speed (h : xl_OK M) (hk : k ≤ 4) (g : rRW a) {x v : Int} (hx : iR x) (hv : iR v) : D_X12_speed 188 x v (mk (mkh M H (k : Int)) a) = some ((rSpdA a x v).1, mAct M H a k (rSpdA a x v).2) := by
  have hM : ∀ (b H : RW) (k : Int), xl_OK (mk (mkh M H k) b) := fun _ _ _ => h
  have g2 := g.1.1.2.2.1
  have em := g.1.1.em
  unfold D_X12_speed rSpdA
  rw [xr_188 (hM _ _ _), md_noWalker (M := mkh M _ _) h hx g2, xe_call]
  by_cases c : 0 ≤ x ∧ x < a 2
  · rw [if_pos c, if_pos c, xe_cmp (by decide) (by decide) (by decide) (by decide), if_pos rfl, md_in hv (by omega) (by omega), xe_call, xe_b1]
    obtain ⟨w, rfl⟩ : ∃ w : Nat, x = (w : Int) := ⟨x.toNat, by omega⟩
    rw [Int.toNat_natCast]
    have hw : w < rm a := by omega
    have hm := g.1.1.m
    by_cases c2 : -50 ≤ v ∧ v ≤ 50
    · have bw := (g.1.1.2.2.2.2.2.2 w hw).2
      rw [if_pos c2, if_pos c2, xr_188 (hM _ _ _), md_its1 (M := mkh M _ _) h (by omega), xe_call, xe_cmp (by omega) (by omega) (by omega) (by omega)]
      by_cases c3 : a (426 + 6 * w + 1) = v
      · rw [if_neg (fun z => z c3), if_pos c3]
        rfl
      · rw [if_pos c3, if_neg c3, xr_188 (hM _ _ _), md_record h hk, xe_call, xr_188 (hM _ _ _), md_gives1 (M := mkh M _ _) h (by omega), xe_call]
        rfl
    · rw [if_neg c2, if_neg c2]
      rfl
  · rw [if_neg c, if_neg c, xe_cmp (by decide) (by decide) (by decide) (by decide), if_neg (by decide)]
    rfl
end MD
