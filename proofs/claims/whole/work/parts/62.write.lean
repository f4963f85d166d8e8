/-! ## an event is written into the class's log -/
section CW
variable {M : xv_M} {a : RW}
theorem rTells_old {a : RW} {k w x : Int} {n : Nat} (hn : rPre a 5 = (n : Int)) (hn12 : n < 12) {i j : Nat} (hi : i < n) (hj : j < 4) : rTells a k w x (822 + 4 * i + j) = rPre a (822 + 4 * i + j) := by
  rw [rTells_lay a k w x hn]
  unfold rLay
  rw [up1_n (by omega), up1_n (by omega), up1_n (by omega), up1_n (by omega), up1_n (by omega)]
theorem rTells_new {a : RW} {k w x : Int} {n : Nat} (hn : rPre a 5 = (n : Int)) : rTells a k w x (822 + 4 * n) = k ∧ rTells a k w x (822 + 4 * n + 1) = w ∧ rTells a k w x (822 + 4 * n + 2) = x ∧ rTells a k w x (822 + 4 * n + 3) = a 0 ∧ rTells a k w x 5 = (n : Int) + 1 := by
  rw [rTells_lay a k w x hn]
  unfold rLay
  refine ⟨?_, ?_, ?_, ?_, up1_s⟩
  · rw [up1_n (by omega), up1_n (by omega), up1_n (by omega), up1_n (by omega), up1_s]
  · rw [up1_n (by omega), up1_n (by omega), up1_n (by omega), up1_s]
  · rw [up1_n (by omega), up1_n (by omega), up1_s]
  · rw [up1_n (by omega), up1_s]
/-- the ring behind one more event -/
theorem SBl_next {M M' : xv_M} {a : RW} {k w x L : Int} (h : SBl 3 a M) (h5 : 0 ≤ a 5 ∧ a 5 ≤ 12) (hL : L = (xv_I M 26 1 + 1) % 12)
    (e0 : xv_I M' 26 0 = if a 5 = 12 then 12 else a 5 + 1) (e1 : xv_I M' 26 1 = L)
    (f0 : ∀ j, xv_I M' 27 j = if j = L.toNat then k else xv_I M 27 j) (f1 : ∀ j, xv_I M' 28 j = if j = L.toNat then w else xv_I M 28 j) (f2 : ∀ j, xv_I M' 29 j = if j = L.toNat then x else xv_I M 29 j) (f3 : ∀ j, xv_I M' 30 j = if j = L.toNat then a 0 else xv_I M 30 j) : SBl 3 (rTells a k w x) M' := by
  obtain ⟨g0, g1, g2⟩ := h
  obtain ⟨n, hn⟩ : ∃ n : Nat, rPre a 5 = (n : Int) := ⟨(rPre a 5).toNat, by have := rPre_5 h5; omega⟩
  have hn12 : n < 12 := by have := rPre_5 h5; omega
  obtain ⟨t0, t1, t2, t3, t5⟩ := rTells_new (a := a) (k := k) (w := w) (x := x) hn
  have hn5 : (n : Int) + 1 = if a 5 = 12 then 12 else a 5 + 1 := by
    rw [← hn]
    unfold rPre
    by_cases hc : a 5 = 12
    · rw [if_pos hc, if_pos hc]; rfl
    · rw [if_neg hc, if_neg hc]
  have e26 : xv_I M (3 + 23) 1 = xv_I M 26 1 := rfl
  rw [e26] at g1 g2
  refine ⟨by show xv_I M' 26 0 = _; rw [e0, t5, hn5], by show 0 ≤ xv_I M' 26 1 ∧ xv_I M' 26 1 < 12; rw [e1, hL]; omega, fun i hi => ?_⟩
  show xv_I M' 27 _ = _ ∧ xv_I M' 28 _ = _ ∧ xv_I M' 29 _ = _ ∧ xv_I M' 30 _ = _
  have e26' : xv_I M' (3 + 23) 1 = L := e1
  rw [e26']
  rw [t5] at hi ⊢
  have en : ((n : Int) + 1).toNat = n + 1 := by omega
  rw [en] at hi ⊢
  by_cases h0 : i = 0
  · subst h0
    have es : ((L - ((0 : Nat) : Int)) % 12).toNat = L.toNat := by omega
    rw [es, f0, f1, f2, f3, if_pos rfl, if_pos rfl, if_pos rfl, if_pos rfl]
    have ei : 822 + 4 * (n + 1 - 1 - 0) = 822 + 4 * n := by omega
    rw [ei]
    exact ⟨t0.symm, t1.symm, t2.symm, t3.symm⟩
  · obtain ⟨i', rfl⟩ : ∃ i', i = i' + 1 := ⟨i - 1, by omega⟩
    have es : ((L - ((i' + 1 : Nat) : Int)) % 12).toNat = ((xv_I M 26 1 - (i' : Int)) % 12).toNat := by omega
    have ne : ((xv_I M 26 1 - (i' : Int)) % 12).toNat ≠ L.toNat := by omega
    rw [es, f0, f1, f2, f3, if_neg ne, if_neg ne, if_neg ne, if_neg ne]
    have hi2 : i' < n := by omega
    have ei : n + 1 - 1 - (i' + 1) = n - 1 - i' := by omega
    rw [ei]
    have q0 := rTells_old (a := a) (k := k) (w := w) (x := x) hn hn12 (i := n - 1 - i') (j := 0) (by omega) (by omega)
    have q1 := rTells_old (a := a) (k := k) (w := w) (x := x) hn hn12 (i := n - 1 - i') (j := 1) (by omega) (by omega)
    have q2 := rTells_old (a := a) (k := k) (w := w) (x := x) hn hn12 (i := n - 1 - i') (j := 2) (by omega) (by omega)
    have q3 := rTells_old (a := a) (k := k) (w := w) (x := x) hn hn12 (i := n - 1 - i') (j := 3) (by omega) (by omega)
    rw [Nat.add_zero] at q0
    rw [q0, q1, q2, q3]
    have hp : ∀ j, j < 4 → rPre a (822 + 4 * (n - 1 - i') + j) = a (822 + 4 * ((a 5).toNat - 1 - i') + j) := by
      intro j hj
      unfold rPre
      by_cases hc : a 5 = 12
      · rw [if_pos hc]
        rw [if_pos hc] at hn5
        unfold rShift
        rw [if_neg (by omega), if_pos (by omega)]
        congr 1
        omega
      · rw [if_neg hc]
        rw [if_neg hc] at hn5
        congr 1
        omega
    have hi3 : i' < (a 5).toNat := by
      by_cases hc : a 5 = 12
      · rw [if_pos hc] at hn5; omega
      · rw [if_neg hc] at hn5; omega
    obtain ⟨r0, r1, r2, r3⟩ := g2 i' hi3
    have p0 := hp 0 (by omega)
    rw [Nat.add_zero, Nat.add_zero] at p0
    rw [p0, hp 1 (by omega), hp 2 (by omega), hp 3 (by omega)]
    exact ⟨r0, r1, r2, r3⟩
theorem xm_write (h : xl_OK M) (hl : SBl 3 a M) (h5 : 0 ≤ a 5 ∧ a 5 ≤ 12) {k w x : Int} : ∃ M', D_X3_write 26 k w x (a 0) M = some ((), M') ∧ SBl 3 (rTells a k w x) M' ∧ Sm 0 25 M M' ∧ Sm 31 1000 M M' ∧ xl_OK M' := by
  have hb : 0 ≤ xv_I M 26 1 ∧ xv_I M 26 1 < 12 := hl.2.1
  have hs : xv_I M 26 0 = a 5 := hl.1
  obtain ⟨L, hL⟩ : ∃ L : Int, L = (xv_I M 26 1 + 1) % 12 := ⟨_, rfl⟩
  have hL0 : 0 ≤ L := by omega
  have hL1 : L < 12 := by omega
  have g1 : ∀ M9 : xv_M, xv_I (xv_sI M9 26 1 L) 26 1 = L := fun _ => by rw [xe_I_sI, if_pos ⟨rfl, rfl⟩]
  have gn : ∀ (M9 : xv_M) (r j : Nat) (v : Int), r ≠ 26 → xv_I (xv_sI M9 r j v) 26 1 = xv_I M9 26 1 := fun _ _ _ _ hr => by rw [xe_I_sI, if_neg (fun q => hr q.1.symm)]
  have gz : ∀ (M9 : xv_M) (r j : Nat) (v : Int), r ≠ 26 → xv_I (xv_sI M9 r j v) 26 0 = xv_I M9 26 0 := fun _ _ _ _ hr => by rw [xe_I_sI, if_neg (fun q => hr q.1.symm)]
  have gz1 : xv_I (xv_sI M 26 1 L) 26 0 = xv_I M 26 0 := by rw [xe_I_sI, if_neg (by decide)]
  unfold D_X3_write
  rw [xg_26_1 h, xm_floorMod (by omega), xe_call, ← hL, xu_26_1 h]
  rw [xg_26_2 (by exact h), xg_26_1 (by exact h), g1, xw_27 (by exact h) hL0 hL1]
  rw [xg_26_3 (by exact h), xg_26_1 (by exact h), gn _ 27 _ _ (by decide), g1, xw_28 (by exact h) hL0 hL1]
  rw [xg_26_4 (by exact h), xg_26_1 (by exact h), gn _ 28 _ _ (by decide), gn _ 27 _ _ (by decide), g1, xw_29 (by exact h) hL0 hL1]
  rw [xg_26_5 (by exact h), xg_26_1 (by exact h), gn _ 29 _ _ (by decide), gn _ 28 _ _ (by decide), gn _ 27 _ _ (by decide), g1, xw_30 (by exact h) hL0 hL1]
  rw [xg_26_0 (by exact h), gz _ 30 _ _ (by decide), gz _ 29 _ _ (by decide), gz _ 28 _ _ (by decide), gz _ 27 _ _ (by decide), gz1, hs]
  rw [xe_cmp (by omega) (by omega) (by decide) (by decide)]
  have sm1 : Sm 0 25 M (xv_sI (xv_sI (xv_sI (xv_sI (xv_sI M 26 1 L) 27 L.toNat k) 28 L.toNat w) 29 L.toNat x) 30 L.toNat (a 0)) := ((((Sm.sI (by omega)).tr (Sm.sI (by omega))).tr (Sm.sI (by omega))).tr (Sm.sI (by omega))).tr (Sm.sI (by omega))
  have sm2 : Sm 31 1000 M (xv_sI (xv_sI (xv_sI (xv_sI (xv_sI M 26 1 L) 27 L.toNat k) 28 L.toNat w) 29 L.toNat x) 30 L.toNat (a 0)) := ((((Sm.sI (by omega)).tr (Sm.sI (by omega))).tr (Sm.sI (by omega))).tr (Sm.sI (by omega))).tr (Sm.sI (by omega))
  by_cases hc : a 5 = 12
  · rw [if_pos (by omega)]
    refine ⟨_, rfl, SBl_next hl h5 hL ?_ ?_ (fun j => ?_) (fun j => ?_) (fun j => ?_) (fun j => ?_), sm1, sm2, h⟩
    · rw [gz _ 30 _ _ (by decide), gz _ 29 _ _ (by decide), gz _ 28 _ _ (by decide), gz _ 27 _ _ (by decide), gz1, hs, if_pos hc, hc]
    · rw [gn _ 30 _ _ (by decide), gn _ 29 _ _ (by decide), gn _ 28 _ _ (by decide), gn _ 27 _ _ (by decide), g1]
    · simp only [xe_I_sI]; simp
    · simp only [xe_I_sI]; simp
    · simp only [xe_I_sI]; simp
    · simp only [xe_I_sI]; simp
  · rw [if_neg (by omega), xg_26_0 (by exact h), gz _ 30 _ _ (by decide), gz _ 29 _ _ (by decide), gz _ 28 _ _ (by decide), gz _ 27 _ _ (by decide), gz1, hs, xu_26_0 (by exact h)]
    refine ⟨_, rfl, SBl_next hl h5 hL ?_ ?_ (fun j => ?_) (fun j => ?_) (fun j => ?_) (fun j => ?_), sm1.tr (Sm.sI (by omega)), sm2.tr (Sm.sI (by omega)), h⟩
    · rw [xe_I_sI, if_pos ⟨rfl, rfl⟩, if_neg hc]
    · rw [xe_I_sI, if_neg (by decide), gn _ 30 _ _ (by decide), gn _ 29 _ _ (by decide), gn _ 28 _ _ (by decide), gn _ 27 _ _ (by decide), g1]
    · simp only [xe_I_sI]; simp
    · simp only [xe_I_sI]; simp
    · simp only [xe_I_sI]; simp
    · simp only [xe_I_sI]; simp
end CW
