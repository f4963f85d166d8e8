/-! ## a state as the row of numbers that the reference keeps; what the acts do to it -/
abbrev RW : Type := Nat → Int
def up1 (a : RW) (i : Nat) (v : Int) : RW := fun j => if j = i then v else a j
theorem up1_s {a : RW} {i : Nat} {v : Int} : up1 a i v i = v := if_pos rfl
theorem up1_n {a : RW} {i j : Nat} {v : Int} (h : j ≠ i) : up1 a i v j = a j := if_neg h
/-- the memory, but the reference's row is a -/
def mk (M : xv_M) (a : RW) : xv_M := xv_rI M 189 a
theorem mk_I {M : xv_M} {a : RW} {i : Nat} : xv_I (mk M a) 189 i = a i := by simp [mk, xv_I, xv_rI, xv_rw]
theorem mk_In {M : xv_M} {a : RW} {r i : Nat} (h : r ≠ 189) : xv_I (mk M a) r i = xv_I M r i := by simp [mk, xv_I, xv_rI, xv_rw, h]
theorem mk_J {M : xv_M} {a : RW} {r i : Nat} : xv_J (mk M a) r i = xv_J M r i := rfl
theorem mk_P {M : xv_M} {a : RW} {r i : Nat} : xv_P (mk M a) r i = xv_P M r i := rfl
theorem mk_OK {M : xv_M} {a : RW} : xl_OK (mk M a) = xl_OK M := rfl
theorem mk_sI {M : xv_M} {a : RW} {i : Nat} {v : Int} : xv_sI (mk M a) 189 i v = mk M (up1 a i v) := by
  unfold mk xv_sI xv_rI
  simp only [Prod.mk.injEq, true_and, and_true]
  funext r j
  by_cases h : r = 189
  · subst h
    simp [xv_up, xv_rw, up1]
  · simp [xv_up, xv_rw, h]
theorem mk_sIn {M : xv_M} {a : RW} {r i : Nat} {v : Int} (h : r ≠ 189) : xv_sI (mk M a) r i v = mk (xv_sI M r i v) a := by
  unfold mk xv_sI xv_rI
  simp only [Prod.mk.injEq, true_and, and_true]
  funext r' j
  by_cases h1 : r' = 189
  · subst h1
    simp [xv_up, xv_rw, Ne.symm h]
  · simp [xv_up, xv_rw, h1]
theorem mk_self (M : xv_M) : mk M (xv_I M 189) = M := by
  unfold mk xv_rI
  obtain ⟨K, I, J, P⟩ := M
  simp only [Prod.mk.injEq, true_and, and_true]
  funext r j
  by_cases h : r = 189
  · subst h
    simp [xv_rw, xv_I]
  · simp [xv_rw, h]
theorem mk_mk {M : xv_M} {a b : RW} : mk (mk M a) b = mk M b := by
  unfold mk xv_rI
  simp only [Prod.mk.injEq, true_and, and_true]
  funext r j
  by_cases h : r = 189
  · subst h
    simp [xv_rw]
  · simp [xv_rw, h]
abbrev rIn (a : RW) (w s : Nat) : Prop := 0 < a (462 + 60 * w + s)
abbrev rCov (a : RW) (s : Nat) (x : Int) : Prop := a (6 + 7 * s + 4) = 1 ∧ a (6 + 7 * s + 2) ≤ x ∧ x ≤ a (6 + 7 * s + 3)
def rShift (a : RW) : RW := fun i => if i = 5 then 11 else if 822 ≤ i ∧ i < 866 then a (i + 4) else a i
def rPre (a : RW) : RW := if a 5 = 12 then rShift a else a
def rTells (a : RW) (k w x : Int) : RW := up1 (up1 (up1 (up1 (up1 (rPre a) (822 + 4 * (rPre a 5).toNat) k) (822 + 4 * (rPre a 5).toNat + 1) w) (822 + 4 * (rPre a 5).toNat + 2) x) (822 + 4 * (rPre a 5).toNat + 3) (a 0)) 5 (rPre a 5 + 1)
def rLv1 (a : RW) (w s : Nat) : RW := up1 a (462 + 60 * w + s) 0
def rLv2 (a : RW) (w : Nat) : RW := up1 a (426 + 6 * w + 3) (a (426 + 6 * w + 3) + 1)
def rLv3 (a : RW) : RW := up1 a 4 (a 4 + 1)
def rLeave (a : RW) (w s : Nat) : RW := rTells (rLv3 (rLv2 (rLv1 a w s) w)) 1 w s
def rEn1 (a : RW) (w s : Nat) : RW := up1 a (462 + 60 * w + s) (a 0 + 1)
def rEn2 (a : RW) (w : Nat) : RW := up1 a (426 + 6 * w + 2) (a (426 + 6 * w + 2) + 1)
def rEn3 (a : RW) (s : Nat) : RW := up1 a (6 + 7 * s + 6) (a (6 + 7 * s + 6) + 1)
def rEn4 (a : RW) : RW := up1 a 3 (a 3 + 1)
def rEnter (a : RW) (w s : Nat) : RW := rTells (rEn4 (rEn3 (rEn2 (rEn1 a w s) w) s)) 0 w s
def rLv (a : RW) (w : Nat) (x : Int) : Nat → Int × RW
  | 0 => (0, a)
  | k + 1 => if rIn (rLv a w x k).2 w k ∧ ¬ rCov (rLv a w x k).2 k x then ((rLv a w x k).1 + 1, rLeave (rLv a w x k).2 w k) else rLv a w x k
def rEn (p : Int × RW) (w : Nat) (x : Int) : Nat → Int × RW
  | 0 => p
  | k + 1 => if ¬ rIn (rEn p w x k).2 w k ∧ rCov (rEn p w x k).2 k x then ((rEn p w x k).1 + 1, rEnter (rEn p w x k).2 w k) else rEn p w x k
def rChg (a : RW) (w : Nat) : Int × RW := rEn (rLv a w (a (426 + 6 * w)) (a 1).toNat) w (a (426 + 6 * w)) (a 1).toNat
def rAllN (a : RW) : Nat → Int × RW
  | 0 => (0, a)
  | k + 1 => ((rAllN a k).1 + (rChg (rAllN a k).2 k).1, (rChg (rAllN a k).2 k).2)
def rAll (a : RW) : Int × RW := rAllN a (a 2).toNat
def rPuts (a : RW) (s : Nat) (l r f g : Int) : RW := up1 (up1 (up1 (up1 (up1 (up1 (up1 a (6 + 7 * s + 0) l) (6 + 7 * s + 1) r) (6 + 7 * s + 2) f) (6 + 7 * s + 3) g) (6 + 7 * s + 4) 1) (6 + 7 * s + 5) 0) (6 + 7 * s + 6) 0
def rAdds (a : RW) (l r f g : Int) : RW := (rAll (up1 (rPuts a (a 1).toNat l r f g) 1 (a 1 + 1))).2
/-! the row's own bounds -/
def rOK (a : RW) : Prop := (0 ≤ a 0 ∧ a 0 ≤ 9999) ∧ (0 ≤ a 1 ∧ a 1 ≤ 60) ∧ (0 ≤ a 2 ∧ a 2 ≤ 6) ∧ (0 ≤ a 5 ∧ a 5 ≤ 12) ∧
  (∀ s : Nat, s < 60 → (a (6 + 7 * s + 4) = 0 ∨ a (6 + 7 * s + 4) = 1)) ∧
  (∀ s : Nat, s < (a 1).toNat → 0 ≤ a (6 + 7 * s) ∧ a (6 + 7 * s) ≤ 1000 ∧ 0 ≤ a (6 + 7 * s + 1) ∧ a (6 + 7 * s + 1) ≤ 1000 ∧ 0 ≤ a (6 + 7 * s + 2) ∧ a (6 + 7 * s + 2) ≤ a (6 + 7 * s + 3) ∧ a (6 + 7 * s + 3) ≤ 1000) ∧
  (∀ w : Nat, w < (a 2).toNat → 0 ≤ a (426 + 6 * w) ∧ a (426 + 6 * w) ≤ 1000 ∧ -50 ≤ a (426 + 6 * w + 1) ∧ a (426 + 6 * w + 1) ≤ 50) ∧
  (∀ w s : Nat, w < 6 → s < 60 → 0 ≤ a (462 + 60 * w + s) ∧ a (462 + 60 * w + s) ≤ a 0 + 1)
