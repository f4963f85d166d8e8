/-! ## the reference tells, changes -/
theorem xe_letp {α β : Type} {a : α} {f : α → β} {b : β} (P : α → Prop) (ha : P a) (h : ∀ j, P j → f j = b) : xv_let a f = b := h a ha
theorem up1_up1 {a : RW} {i : Nat} {v w : Int} : up1 (up1 a i v) i w = up1 a i w := by
  funext j
  by_cases h : j = i <;> simp [up1, h]
section MD2
variable {M : xv_M} {a : RW}
/-- the event is laid at place n of the log -/
def rLay (b : RW) (n : Nat) (k w x t : Int) : RW := up1 (up1 (up1 (up1 (up1 b (822 + 4 * n) k) (822 + 4 * n + 1) w) (822 + 4 * n + 2) x) (822 + 4 * n + 3) t) 5 ((n : Int) + 1)
theorem rTells_lay (a : RW) (k w x : Int) {n : Nat} (hn : rPre a 5 = (n : Int)) : rTells a k w x = rLay (rPre a) n k w x (a 0) := by
  unfold rTells rLay
  rw [hn, Int.toNat_natCast]
theorem md_tells (h : xl_OK M) (hb : 0 ≤ a 5 ∧ a 5 ≤ 12) {k w x : Int} : D_X12_tells 188 k w x (mk M a) = some ((), mk M (rTells a k w x)) := by
  have e5 : (5 : Int).toNat = 5 := rfl
  have e0 : (0 : Int).toNat = 0 := rfl
  have hM : ∀ b : RW, xl_OK (mk M b) := fun _ => h
  unfold D_X12_tells
  rw [xg_188_0 (hM a), xa_189 (hM a) (by decide) (by decide), mk_I, e5]
  refine xe_letp (fun j => ∀ (b : RW) (n : Nat), n < 12 → b 5 = (n : Int) → j (mk M b) = some ((), mk M (rLay b n k w x (b 0)))) ?_ ?_
  · intro b n hn h5
    have i0 : ((822 : Int) + 4 * (n : Int)).toNat = 822 + 4 * n := by omega
    have i1 : ((822 : Int) + 4 * (n : Int) + 1).toNat = 822 + 4 * n + 1 := by omega
    have i2 : ((822 : Int) + 4 * (n : Int) + 2).toNat = 822 + 4 * n + 2 := by omega
    have i3 : ((822 : Int) + 4 * (n : Int) + 3).toNat = 822 + 4 * n + 3 := by omega
    rw [xg_188_0 (hM _), xa_189 (hM _) (by decide) (by decide), mk_I, e5, h5]
    rw [xg_188_0 (hM _), xw_189 (hM _) (by omega) (by omega), mk_sI, i0]
    rw [xg_188_0 (hM _), xw_189 (hM _) (by omega) (by omega), mk_sI, i1]
    rw [xg_188_0 (hM _), xw_189 (hM _) (by omega) (by omega), mk_sI, i2]
    rw [xg_188_0 (hM _), xg_188_0 (hM _), xa_189 (hM _) (by decide) (by decide), mk_I, e0, xw_189 (hM _) (by omega) (by omega), mk_sI, i3]
    rw [xg_188_0 (hM _), xa_189 (hM _) (by decide) (by decide), mk_I, e5, xw_189 (hM _) (by decide) (by decide), mk_sI, e5]
    rw [up1_n (a := up1 (up1 b (822 + 4 * n) k) (822 + 4 * n + 1) w) (by omega), up1_n (a := up1 b (822 + 4 * n) k) (by omega), up1_n (a := b) (by omega)]
    rw [up1_n (i := 822 + 4 * n + 3) (by omega), up1_n (i := 822 + 4 * n + 2) (by omega), up1_n (i := 822 + 4 * n + 1) (by omega), up1_n (i := 822 + 4 * n) (by omega), h5]
    rfl
  · intro j hj
    rw [xe_cmp (by omega) (by omega) (by decide) (by decide)]
    by_cases h12 : a 5 = 12
    · rw [if_neg (by omega)]
      have hp : rPre a = rShift a := if_pos h12
      refine xe_loop (n := 44) (fun k => ((k : Int), mk M (fun i => if 822 ≤ i ∧ i < 822 + k then a (i + 4) else a i))) ?_ (by decide) ?_ ?_
      · refine congrArg (fun q => ((0 : Int), mk M q)) (funext fun i => ?_)
        rw [if_neg (by omega)]
      · intro k hk f
        have i0 : ((822 : Int) + (k : Int) + 4).toNat = 822 + k + 4 := by omega
        have i1 : ((822 : Int) + (k : Int)).toNat = 822 + k := by omega
        show xv_cmp (k : Int) 44 (44 ≤ (k : Int)) _ _ = _
        rw [xe_cmp (by omega) (by omega) (by decide) (by decide), if_neg (by omega)]
        rw [xg_188_0 (hM _), xg_188_0 (hM _), xa_189 (hM _) (by omega) (by omega), mk_I, i0, xw_189 (hM _) (by omega) (by omega), mk_sI, i1]
        refine congrArg f (Prod.ext (by simp) (congrArg (mk M) (funext fun i => ?_)))
        by_cases hi : i = 822 + k
        · subst hi
          rw [up1_s, if_neg (by omega), if_pos (by omega)]
        · rw [up1_n hi]
          by_cases h2 : 822 ≤ i ∧ i < 822 + k
          · rw [if_pos h2, if_pos (by omega)]
          · rw [if_neg h2, if_neg (by omega)]
      · intro f
        show xv_cmp (44 : Int) 44 ((44 : Int) ≤ 44) _ _ = _
        rw [xe_cmp (by decide) (by decide) (by decide) (by decide), if_pos (by decide)]
        rw [xg_188_0 (hM _), xa_189 (hM _) (by decide) (by decide), mk_I, e5, xw_189 (hM _) (by decide) (by decide), mk_sI, e5]
        rw [if_neg (by omega), h12]
        have e9 : up1 (fun i => if 822 ≤ i ∧ i < 822 + 44 then a (i + 4) else a i) 5 (12 - 1) = rShift a := by
          funext i
          unfold up1 rShift
          by_cases hi : i = 5
          · rw [if_pos hi, if_pos hi]; rfl
          · rw [if_neg hi, if_neg hi]
        rw [e9, hj _ 11 (by decide) (by rfl), rTells_lay a k w x (n := 11) (by rw [hp]; rfl), hp]
        rfl
    · rw [if_pos h12]
      obtain ⟨n, hn⟩ : ∃ n : Nat, a 5 = (n : Int) := ⟨(a 5).toNat, by omega⟩
      have hp : rPre a = a := if_neg h12
      rw [hj a n (by omega) hn, rTells_lay a k w x (n := n) (by rw [hp, hn]), hp]
end MD2
