/-! ## new int[6][60]: the outer array, its six rows behind it -/
def xv_mn6 (M : xv_M) : xv_M := (M.1 ++ ((18, 6) :: List.replicate 6 (14, 60)), fun r j => if r ≤ M.1.length then M.2.1 r j else 0, fun r j => if r ≤ M.1.length then M.2.2.1 r j else 0, fun r j => if r ≤ M.1.length then M.2.2.2 r j else if r = M.1.length + 1 ∧ j < 6 then M.1.length + 2 + j else 0)
def xv_mnw {T : Type} (M : xv_M) (f : Nat → xv_M → Option T) : Option T := f (M.1.length + 1) (xv_mn6 M)
theorem xv_outer (c : ClassId) (N h0 : Nat) : ∀ i : Nat, Jvm.Free.Multi.outerC c N h0 i = arrV c N (fun j => va_rf (if j < i then some (h0 + 1 + j) else none))
  | 0 => by
    show ({ cls := c, slots := Array.replicate N .null, vm := .none } : Cell) = _
    rw [arrV_new]
    refine congrArg (arrV c N) (funext fun j => ?_)
    simp [va_rf]
  | i + 1 => by
    show (Jvm.Free.Multi.outerC c N h0 i).setSlot i (.ref (h0 + 1 + i)) = _
    rw [xv_outer c N h0 i, arrV_store]
    refine congrArg (arrV c N) (funext fun j => ?_)
    by_cases e : j = i
    · subst e
      simp [updV, va_rf]
    · by_cases h : j < i
      · simp [updV, e, h, Nat.lt_succ_of_lt h]
      · simp [updV, e, h, show ¬ j < i + 1 by omega]
section XMN
variable {T : Type} {Y : xv_Y} {cc : ByteArray} {Ts : List Cond} {own : String} {ce sl : Nat} {Q : State → Prop} {tg : T} {pc pc' : Nat} {L L' : List (Option xv_v)} {st S : List xv_v} {M : xv_M} {d d1 d2 : Option T}
theorem xv_multi {index : Nat} {f : Nat → xv_M → Option T} (hY : xv_ok Y cc Ts own) (hfl : Y.2.2.2.2.2.2 = true) (hd : decode cc pc = .ok (.multianewarray index 2, 4)) (hp : pc + 4 = pc') (hcl : Cond.classLink own index "[[I" ∈ Ts) (harr : Cond.arrayClass .int ∈ Ts) (hcells : ce + 7 ≤ Y.1.2.2.2.1.cells) (hslots : sl + 366 ≤ Y.1.2.2.2.1.slots) (k : ∀ (r : Nat) (M' : xv_M), xv_D Y (ce + 7) (sl + 366) Q tg pc' L (xr r :: st) M' (f r M')) : xv_D Y ce sl Q tg pc L (xi 60 :: xi 6 :: st) M (xv_mnw M f) := by
  subst hp
  obtain ⟨⟨p, l, e, R, s⟩, ⟨m, args, below, meth, c⟩, Dm, cy, b, nL, fl⟩ := Y
  intro hh H locs ls hP hz hS hl
  have hs : H.size = b + 1 + M.1.length := hz hfl
  have hts := hY.2.2.2.2.1
  intro T0 hT Xs
  have hn : (Int32.ofInt 6).toNatClampNeg = 6 := by decide
  have hk : (Int32.ofInt 60).toNatClampNeg = 60 := by decide
  have hbb : c.code = cc := hY.2.1
  obtain ⟨vm₁, cA, comp, -, fA, fC, hO, -, X', step⟩ := Xs.multianewarray2F hY.1 hY.2.2.2.1 (ty := .int) (hts _ hcl) hY.2.2.2.2.2.1.2.2.2 (hts _ harr) (g := F0 m pc ls (.int (Int32.ofInt 60) :: .int (Int32.ofInt 6) :: st.map (xv_val b))) rfl (by rw [hbb]; exact hd) rfl (by decide) (by decide) (by rw [hn]; decide) (by rw [hk]; decide) (by rw [hk]; decide) rfl rfl (by rw [hn]; exact hcells) (by rw [hn, hk]; exact hslots)
  rw [hn, hk] at X' step
  have eA : cA = cy 18 := Option.some.inj (fA.symm.trans (hY.2.2.2.2.2.1.1.2 5 _ rfl).2)
  have eC : comp = cy 14 := Option.some.inj (fC.symm.trans (hY.2.2.2.2.2.1.1.2 1 _ rfl).2)
  subst eA
  subst eC
  generalize hF : Jvm.Free.Multi.fill (T0.setVm vm₁) (cy 18) (cy 14) 6 60 (defaultValue .int) 6 = F at X' step
  have hTh : (T0.setVm vm₁).heap = H := hT
  obtain ⟨f1, f2, -, -⟩ := Jvm.Free.Multi.fill_facts (T0.setVm vm₁) (cy 18) (cy 14) 6 60 (defaultValue .int) 6
  rw [hF, hTh] at f1 f2
  have hold : ∀ x : Nat, x < H.size → F.heap[x]? = H[x]? := fun x hx => by
    have := Jvm.Free.Multi.fill_old (T0.setVm vm₁) (cy 18) (cy 14) 6 60 (defaultValue .int) (a := x) (by rw [hTh]; exact hx) 6
    rw [hF, hTh] at this
    exact this
  have hrow : ∀ j : Nat, j < 6 → F.heap[H.size + 1 + j]? = some (Jvm.Free.Multi.innerC (cy 14) 60 (defaultValue .int)) := fun j hj => by
    have := Jvm.Free.Multi.fill_inner (T0.setVm vm₁) (cy 18) (cy 14) 6 60 (defaultValue .int) 6 j hj
    rw [hF, hTh] at this
    exact this
  rw [xv_outer] at f2
  have hlen : (xv_mn6 M).1.length = M.1.length + 7 := by simp [xv_mn6]
  have hP2 : va_P Dm vwCl (xv_W b cy (xv_mn6 M)) F.heap := by
    intro i q hq
    have hi : i < M.1.length + 7 := by
      have := (List.getElem?_eq_some_iff.mp hq).1
      rw [xv_W_len, hlen] at this
      exact this
    rw [xv_W_at (by rw [hlen]; exact hi)] at hq
    cases hq
    by_cases h1 : i < M.1.length
    · have e1 : (xv_mn6 M).1.getD i (99, 0) = M.1.getD i (99, 0) := by
        simp [xv_mn6, List.getD_eq_getElem?_getD, List.getElem?_append_left h1]
      have g1 : (xv_mn6 M).2.1 (i + 1) = M.2.1 (i + 1) := by funext j; simp [xv_mn6]; omega
      have g2 : (xv_mn6 M).2.2.1 (i + 1) = M.2.2.1 (i + 1) := by funext j; simp [xv_mn6]; omega
      have g3 : (xv_mn6 M).2.2.2 (i + 1) = M.2.2.2 (i + 1) := by funext j; simp [xv_mn6]; omega
      rw [e1, g1, g2, g3]
      exact (hP i _ (xv_W_at h1)).kept (hold _ ((hP i _ (xv_W_at h1)).lt))
    · by_cases h2 : i = M.1.length
      · subst h2
        have e1 : (xv_mn6 M).1.getD M.1.length (99, 0) = (18, 6) := by
          simp [xv_mn6, List.getD_eq_getElem?_getD]
        have e2 : b + (M.1.length + 1) = H.size := by rw [hs]; omega
        rw [e1, e2]
        show F.heap[H.size]? = some (vp_cell _ _)
        rw [f2]
        show some _ = some (vp_cell (cy 18) (6, .inr (.inr (.inr (.inr (fun j => xv_R b ((xv_mn6 M).2.2.2 (M.1.length + 1) j)))))))
        rw [vp_cell_q]
        refine congrArg some (congrArg (arrV (cy 18) 6) (funext fun j => congrArg va_rf ?_))
        have hv : (xv_mn6 M).2.2.2 (M.1.length + 1) j = if j < 6 then M.1.length + 2 + j else 0 := by
          show (if M.1.length + 1 ≤ M.1.length then _ else if M.1.length + 1 = M.1.length + 1 ∧ j < 6 then _ else 0) = _
          rw [if_neg (by omega)]
          by_cases hj : j < 6
          · rw [if_pos ⟨rfl, hj⟩, if_pos hj]
          · rw [if_neg (fun q => hj q.2), if_neg hj]
        rw [hv]
        by_cases hj : j < 6
        · rw [if_pos hj, if_pos hj]
          have e5 : H.size + 1 + j = b + (M.1.length + 2 + j) := by omega
          rw [e5]
          show _ = if M.1.length + 2 + j = 0 then none else some (b + (M.1.length + 2 + j))
          rw [if_neg (by omega)]
        · rw [if_neg hj, if_neg hj]
          rfl
      · have e1 : (xv_mn6 M).1.getD i (99, 0) = (14, 60) := by
          simp only [xv_mn6, List.getD_eq_getElem?_getD]
          rw [List.getElem?_append_right (by omega)]
          obtain ⟨u, hu⟩ : ∃ u, i - M.1.length = u + 1 := ⟨i - M.1.length - 1, by omega⟩
          rw [hu, List.getElem?_cons_succ, List.getElem?_replicate]
          rw [if_pos (by omega)]
          rfl
        have e2 : b + (i + 1) = H.size + 1 + (i - M.1.length - 1) := by rw [hs]; omega
        have g1 : (xv_mn6 M).2.1 (i + 1) = fun _ => 0 := by funext j; simp [xv_mn6]; omega
        rw [e1, e2, g1]
        show F.heap[H.size + 1 + (i - M.1.length - 1)]? = some (vp_cell _ _)
        rw [hrow _ (by omega)]
        show some _ = some (vp_cell (cy 14) (60, .inl (fun _ => Int32.ofInt 0)))
        rw [vp_cell_i]
        show some ({ cls := cy 14, slots := Array.replicate 60 (defaultValue .int), vm := .none } : Cell) = _
        rw [arrV_new]
        rfl
  have e9 : xv_val b (xr (M.1.length + 1)) = .ref H.size := by
    show xv_r b (M.1.length + 1) = _
    have e8 : b + (M.1.length + 1) = b + 1 + M.1.length := by omega
    rw [xv_r_s (by omega), hs, e8]
  have h2 := k (M.1.length + 1) (xv_mn6 M) hh F.heap locs ls hP2 (fun _ => by show F.heap.size = b + 1 + (xv_mn6 M).1.length; rw [f1, hlen, hs]; omega) ⟨by rw [f1]; have := hS.1; omega, fun x h1 h2 => (hold x (Nat.lt_of_lt_of_le h1 hS.1)).trans (hS.2.1 x h1 h2), hS.2.2⟩ hl
  simp only [List.map_cons] at h2
  rw [e9] at h2
  obtain ⟨t, a1, b1⟩ := h2 F rfl X'
  refine ⟨t, step t ?_, b1⟩
  have e : T0.heap.size = H.size := by rw [hT]
  rw [e]
  exact a1
end XMN
