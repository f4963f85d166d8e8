/-! ## the reference's changes of a walker, of all -/
section MD3
variable {M : xv_M} {a : RW}
/-- what the reference's reads ask of a row -/
def rGd (a : RW) : Prop := (0 ≤ a 0 ∧ a 0 ≤ 9999) ∧ (0 ≤ a 1 ∧ a 1 ≤ 60) ∧ (0 ≤ a 2 ∧ a 2 ≤ 6) ∧ rKp a a ∧
  (∀ s : Nat, s < 60 → (a (6 + 7 * s + 4) = 0 ∨ a (6 + 7 * s + 4) = 1)) ∧
  (∀ s : Nat, s < 60 → a (6 + 7 * s + 4) = 1 → (0 ≤ a (6 + 7 * s + 2) ∧ a (6 + 7 * s + 2) ≤ 2000) ∧ (0 ≤ a (6 + 7 * s + 3) ∧ a (6 + 7 * s + 3) ≤ 2000)) ∧
  (∀ w : Nat, w < (a 2).toNat → (0 ≤ a (426 + 6 * w) ∧ a (426 + 6 * w) ≤ 1000) ∧ (-50 ≤ a (426 + 6 * w + 1) ∧ a (426 + 6 * w + 1) ≤ 50))
theorem rGd_kp {a b : RW} (h : rGd a) (k : rKp a b) : rGd b := by
  obtain ⟨g0, g1, g2, gk, g4, gb, gw⟩ := h
  obtain ⟨k0, k1, k2, k5, ks, kw, ki⟩ := k
  refine ⟨by rw [k0]; exact g0, by rw [k1]; exact g1, by rw [k2]; exact g2, rKp_refl k5 ki, fun s hs => ?_, fun s hs => ?_, fun w hw => ?_⟩
  · rw [ks s 4 hs (by omega)]; exact g4 s hs
  · rw [ks s 4 hs (by omega), ks s 2 hs (by omega), ks s 3 hs (by omega)]; exact gb s hs
  · rw [k2] at hw
    have e0 := kw w 0 (by omega) (by omega)
    rw [Nat.add_zero] at e0
    rw [e0, kw w 1 (by omega) (by omega)]
    exact gw w hw
theorem md_cov (h : xl_OK M) (g : rGd a) {s : Nat} (hs : s < 60) {x : Int} (hx : 0 ≤ x ∧ x ≤ 1000) : D_X12_covers 188 (s : Int) x (mk M a) = some (if rCov a s x then 1 else 0, mk M a) := md_covers h hs hx (g.2.2.2.2.1 s hs) (g.2.2.2.2.2.1 s hs)
theorem md_ins (h : xl_OK M) (g : rGd a) {w s : Nat} (hw : w < 6) (hs : s < 60) : D_X12_isInside 188 (w : Int) (s : Int) (mk M a) = some (if rIn a w s then 1 else 0, mk M a) := md_isInside h hw hs (by have := g.2.2.2.1.2.2.2.2.2.2 w s hw hs; have := g.1; omega)
theorem md_changes (h : xl_OK M) (g : rGd a) {w : Nat} (hw : w < (a 2).toNat) : D_X12_changes 188 (w : Int) (mk M a) = some ((rChg a w).1, mk M (rChg a w).2) := by
  have hM : ∀ b : RW, xl_OK (mk M b) := fun _ => h
  have hw6 : w < 6 := by have := g.2.2.1; omega
  have e1 : (1 : Int).toNat = 1 := rfl
  have e3 : (3 : Int).toNat = 3 := rfl
  have e4 : (4 : Int).toNat = 4 := rfl
  have e0 : (0 : Int).toNat = 0 := rfl
  have hx := (g.2.2.2.2.2.2 w hw).1
  have hka := g.2.2.2.1
  have hka' := hka
  obtain ⟨n, hn, hn60⟩ : ∃ n : Nat, a 1 = (n : Int) ∧ n ≤ 60 := ⟨(a 1).toNat, by have := g.2.1; omega, by have := g.2.1; omega⟩
  have hx0 : 426 + 6 * w + 0 = 426 + 6 * w := rfl
  unfold D_X12_changes
  rw [xr_188 (hM a), md_its0 h hw6, xe_call, hx0]
  unfold rChg
  rw [hn, Int.toNat_natCast]
  generalize hX : a (426 + 6 * w) = x at hx ⊢
  have hi : ∀ s : Nat, s < 60 → ((462 : Int) + 60 * (w : Int) + (s : Int)).toNat = 462 + 60 * w + s := fun s _ => by omega
  refine xe_loop (n := n) (fun k => ((rLv a w x k).1, (k : Int), mk M (rLv a w x k).2)) rfl (by omega) ?_ ?_
  · intro k hk f
    have hk6 : k < 60 := by omega
    have kp := rLv_keep (x := x) hka g.1.1 hw6 k (by omega)
    have gp := rGd_kp g kp
    dsimp only
    rw [xg_188_0 (hM _), xa_189 (hM _) (by decide) (by decide), mk_I, e1, kp.2.1, hn]
    show xv_cmp (k : Int) (n : Int) ((n : Int) ≤ (k : Int)) _ _ = _
    rw [xe_cmp (by omega) (by omega) (by omega) (by omega), if_neg (by omega)]
    rw [xr_188 (hM _), md_ins h gp hw6 hk6, xe_call, xe_let, xe_b0]
    show _ = f ((rLv a w x (k + 1)).1, ((k + 1 : Nat) : Int), mk M (rLv a w x (k + 1)).2)
    have ek : ((k + 1 : Nat) : Int) = (k : Int) + 1 := by omega
    rw [ek]
    by_cases c1 : rIn (rLv a w x k).2 w k
    · rw [if_pos c1, xr_188 (hM _), md_cov h gp hk6 hx, xe_call, xe_b1]
      by_cases c2 : rCov (rLv a w x k).2 k x
      · have e9 : rLv a w x (k + 1) = rLv a w x k := if_neg (fun q => q.2 c2)
        rw [if_pos c2, e9]
      · have e9 : rLv a w x (k + 1) = ((rLv a w x k).1 + 1, rLeave (rLv a w x k).2 w k) := if_pos ⟨c1, c2⟩
        rw [if_neg c2, e9]
        rw [xg_188_0 (hM _), xw_189 (hM _) (by omega) (by omega), mk_sI, hi k hk6]
        rw [xr_188 (hM _), md_its3 h hw6, xe_call, xr_188 (hM _), md_gives3 h hw6, xe_call]
        rw [xg_188_0 (hM _), xa_189 (hM _) (by decide) (by decide), mk_I, e4, xw_189 (hM _) (by decide) (by decide), mk_sI, e4]
        have h5 : (rLv3 (rLv2 (rLv1 (rLv a w x k).2 w k) w)) 5 = (rLv a w x k).2 5 := by
          unfold rLv3 rLv2 rLv1
          rw [up1_n (by omega), up1_n (by omega), up1_n (by omega)]
        have ht := md_tells (a := rLv3 (rLv2 (rLv1 (rLv a w x k).2 w k) w)) h (by rw [h5]; exact kp.2.2.2.1) (k := 1) (w := (w : Int)) (x := (k : Int))
        rw [xr_188 (hM _)]
        rw [show D_X12_tells 188 1 (w : Int) (k : Int) (mk M (up1 (up1 (up1 (rLv a w x k).2 (462 + 60 * w + k) 0) (426 + 6 * w + 3) ((up1 (rLv a w x k).2 (462 + 60 * w + k) 0) (426 + 6 * w + 3) + 1)) 4 ((up1 (up1 (rLv a w x k).2 (462 + 60 * w + k) 0) (426 + 6 * w + 3) ((up1 (rLv a w x k).2 (462 + 60 * w + k) 0) (426 + 6 * w + 3) + 1)) 4 + 1))) = _ from ht, xe_call]
        rfl
    · have e9 : rLv a w x (k + 1) = rLv a w x k := if_neg (fun q => c1 q.1)
      rw [if_neg c1, e9]
  · intro f
    have kp := rLv_keep (x := x) hka g.1.1 hw6 n hn60
    dsimp only
    rw [xg_188_0 (hM _), xa_189 (hM _) (by decide) (by decide), mk_I, e1, kp.2.1, hn]
    show xv_cmp (n : Int) (n : Int) ((n : Int) ≤ (n : Int)) _ _ = _
    rw [xe_cmp (by omega) (by omega) (by omega) (by omega), if_pos (by omega)]
    generalize hp : rLv a w x n = p at kp ⊢
    refine xe_loop (n := n) (fun k => ((rEn p w x k).1, (k : Int), mk M (rEn p w x k).2)) rfl (by omega) ?_ ?_
    · intro k hk f
      have hk6 : k < 60 := by omega
      have kp := rEn_keep (x := x) kp g.1.1 hw6 k (by omega)
      have gp := rGd_kp g kp
      dsimp only
      rw [xg_188_0 (hM _), xa_189 (hM _) (by decide) (by decide), mk_I, e1, kp.2.1, hn]
      show xv_cmp (k : Int) (n : Int) ((n : Int) ≤ (k : Int)) _ _ = _
      rw [xe_cmp (by omega) (by omega) (by omega) (by omega), if_neg (by omega)]
      rw [xr_188 (hM _), md_ins h gp hw6 hk6, xe_call, xe_let, xe_b1]
      show _ = f ((rEn p w x (k + 1)).1, ((k + 1 : Nat) : Int), mk M (rEn p w x (k + 1)).2)
      have ek : ((k + 1 : Nat) : Int) = (k : Int) + 1 := by omega
      rw [ek]
      by_cases c1 : rIn (rEn p w x k).2 w k
      · have e9 : rEn p w x (k + 1) = rEn p w x k := if_neg (fun q => q.1 c1)
        rw [if_pos c1, e9]
      · rw [if_neg c1, xr_188 (hM _), md_cov h gp hk6 hx, xe_call, xe_b0]
        by_cases c2 : rCov (rEn p w x k).2 k x
        · have e9 : rEn p w x (k + 1) = ((rEn p w x k).1 + 1, rEnter (rEn p w x k).2 w k) := if_pos ⟨c1, c2⟩
          rw [if_pos c2, e9]
          rw [xg_188_0 (hM _), xg_188_0 (hM _), xa_189 (hM _) (by decide) (by decide), mk_I, e0, xw_189 (hM _) (by omega) (by omega), mk_sI, hi k hk6]
          rw [xr_188 (hM _), md_its2 h hw6, xe_call, xr_188 (hM _), md_gives2 h hw6, xe_call]
          rw [xr_188 (hM _), md_of6 h hk6, xe_call, xr_188 (hM _), md_puts6 h hk6, xe_call]
          rw [xg_188_0 (hM _), xa_189 (hM _) (by decide) (by decide), mk_I, e3, xw_189 (hM _) (by decide) (by decide), mk_sI, e3]
          have h5 : (rEn4 (rEn3 (rEn2 (rEn1 (rEn p w x k).2 w k) w) k)) 5 = (rEn p w x k).2 5 := by
            unfold rEn4 rEn3 rEn2 rEn1
            rw [up1_n (by omega), up1_n (by omega), up1_n (by omega), up1_n (by omega)]
          have ht := md_tells (a := rEn4 (rEn3 (rEn2 (rEn1 (rEn p w x k).2 w k) w) k)) h (by rw [h5]; exact kp.2.2.2.1) (k := 0) (w := (w : Int)) (x := (k : Int))
          unfold rEn4 rEn3 rEn2 rEn1 at ht
          rw [xr_188 (hM _), ht, xe_call]
          rfl
        · have e9 : rEn p w x (k + 1) = rEn p w x k := if_neg (fun q => c2 q.2)
          rw [if_neg c2, e9]
    · intro f
      have kp := rEn_keep (x := x) kp g.1.1 hw6 n hn60
      dsimp only
      rw [xg_188_0 (hM _), xa_189 (hM _) (by decide) (by decide), mk_I, e1, kp.2.1, hn]
      show xv_cmp (n : Int) (n : Int) ((n : Int) ≤ (n : Int)) _ _ = _
      rw [xe_cmp (by omega) (by omega) (by omega) (by omega), if_pos (by omega)]
theorem rGd_all {a : RW} (g : rGd a) {k : Nat} (hk : k ≤ 6) : rGd (rAllN a k).2 := rGd_kp g (rAllN_keep g.2.2.2.1 g.1.1 g.2.1.2 k hk)
theorem md_allChanges (h : xl_OK M) (g : rGd a) : D_X12_allChanges 188 (mk M a) = some ((rAll a).1, mk M (rAll a).2) := by
  have hM : ∀ b : RW, xl_OK (mk M b) := fun _ => h
  have e2 : (2 : Int).toNat = 2 := rfl
  obtain ⟨n, hn, hn6⟩ : ∃ n : Nat, a 2 = (n : Int) ∧ n ≤ 6 := ⟨(a 2).toNat, by have := g.2.2.1; omega, by have := g.2.2.1; omega⟩
  unfold D_X12_allChanges rAll
  rw [hn, Int.toNat_natCast]
  refine xe_loop (n := n) (fun k => ((rAllN a k).1, (k : Int), mk M (rAllN a k).2)) rfl (by omega) ?_ ?_
  · intro k hk f
    have kp := rAllN_keep g.2.2.2.1 g.1.1 g.2.1.2 k (by omega)
    have gp := rGd_kp g kp
    dsimp only
    rw [xg_188_0 (hM _), xa_189 (hM _) (by decide) (by decide), mk_I, e2, kp.2.2.1, hn]
    show xv_cmp (k : Int) (n : Int) ((n : Int) ≤ (k : Int)) _ _ = _
    rw [xe_cmp (by omega) (by omega) (by omega) (by omega), if_neg (by omega)]
    rw [xr_188 (hM _), md_changes h gp (by rw [kp.2.2.1, hn]; omega), xe_call]
    rfl
  · intro f
    have kp := rAllN_keep g.2.2.2.1 g.1.1 g.2.1.2 n hn6
    dsimp only
    rw [xg_188_0 (hM _), xa_189 (hM _) (by decide) (by decide), mk_I, e2, kp.2.2.1, hn]
    show xv_cmp (n : Int) (n : Int) ((n : Int) ≤ (n : Int)) _ _ = _
    rw [xe_cmp (by omega) (by omega) (by omega) (by omega), if_pos (by omega)]
end MD3
