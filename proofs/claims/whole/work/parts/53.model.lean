/-! ## the reference's small methods, over its row -/
theorem md_in {x l u : Int} {M : xv_M} (hx : -2147483648 ≤ x ∧ x ≤ 2147483647) (hl : -2147483648 ≤ l ∧ l ≤ 2147483647) (hu : -2147483648 ≤ u ∧ u ≤ 2147483647) : D_X12_in x l u M = some (if l ≤ x ∧ x ≤ u then 1 else 0, M) := by
  obtain ⟨x1, x2⟩ := hx
  obtain ⟨l1, l2⟩ := hl
  obtain ⟨u1, u2⟩ := hu
  unfold D_X12_in
  rw [xe_cmp x1 x2 l1 l2, xe_cmp x1 x2 u1 u2]
  by_cases h1 : x < l
  · rw [if_pos h1, if_neg (by omega), xe_g0]
  · rw [if_neg h1]
    by_cases h2 : u < x
    · rw [if_pos h2, if_neg (by omega), xe_g0]
    · rw [if_neg h2, if_pos (by omega), xe_g1]
section MD
variable {M : xv_M} {a : RW}
theorem md_of0 (h : xl_OK M) {s : Nat} (hs : s < 60) : D_X12_of 188 (s : Int) 0 (mk M a) = some (a (6 + 7 * s + 0), mk M a) := by
  have e : ((6 : Int) + 7 * (s : Int) + 0).toNat = 6 + 7 * s + 0 := by omega
  have hM : xl_OK (mk M a) := h
  simp (disch := first | assumption | omega) only [D_X12_of, xg_188_0, xa_189, mk_I, e]
theorem md_puts0 (h : xl_OK M) {s : Nat} (hs : s < 60) {v : Int} : D_X12_puts 188 (s : Int) 0 v (mk M a) = some ((), mk M (up1 a (6 + 7 * s + 0) v)) := by
  have e : ((6 : Int) + 7 * (s : Int) + 0).toNat = 6 + 7 * s + 0 := by omega
  have hM : xl_OK (mk M a) := h
  simp (disch := first | assumption | omega) only [D_X12_puts, xg_188_0, xw_189, mk_sI, e]
theorem md_of1 (h : xl_OK M) {s : Nat} (hs : s < 60) : D_X12_of 188 (s : Int) 1 (mk M a) = some (a (6 + 7 * s + 1), mk M a) := by
  have e : ((6 : Int) + 7 * (s : Int) + 1).toNat = 6 + 7 * s + 1 := by omega
  have hM : xl_OK (mk M a) := h
  simp (disch := first | assumption | omega) only [D_X12_of, xg_188_0, xa_189, mk_I, e]
theorem md_puts1 (h : xl_OK M) {s : Nat} (hs : s < 60) {v : Int} : D_X12_puts 188 (s : Int) 1 v (mk M a) = some ((), mk M (up1 a (6 + 7 * s + 1) v)) := by
  have e : ((6 : Int) + 7 * (s : Int) + 1).toNat = 6 + 7 * s + 1 := by omega
  have hM : xl_OK (mk M a) := h
  simp (disch := first | assumption | omega) only [D_X12_puts, xg_188_0, xw_189, mk_sI, e]
theorem md_of2 (h : xl_OK M) {s : Nat} (hs : s < 60) : D_X12_of 188 (s : Int) 2 (mk M a) = some (a (6 + 7 * s + 2), mk M a) := by
  have e : ((6 : Int) + 7 * (s : Int) + 2).toNat = 6 + 7 * s + 2 := by omega
  have hM : xl_OK (mk M a) := h
  simp (disch := first | assumption | omega) only [D_X12_of, xg_188_0, xa_189, mk_I, e]
theorem md_puts2 (h : xl_OK M) {s : Nat} (hs : s < 60) {v : Int} : D_X12_puts 188 (s : Int) 2 v (mk M a) = some ((), mk M (up1 a (6 + 7 * s + 2) v)) := by
  have e : ((6 : Int) + 7 * (s : Int) + 2).toNat = 6 + 7 * s + 2 := by omega
  have hM : xl_OK (mk M a) := h
  simp (disch := first | assumption | omega) only [D_X12_puts, xg_188_0, xw_189, mk_sI, e]
theorem md_of3 (h : xl_OK M) {s : Nat} (hs : s < 60) : D_X12_of 188 (s : Int) 3 (mk M a) = some (a (6 + 7 * s + 3), mk M a) := by
  have e : ((6 : Int) + 7 * (s : Int) + 3).toNat = 6 + 7 * s + 3 := by omega
  have hM : xl_OK (mk M a) := h
  simp (disch := first | assumption | omega) only [D_X12_of, xg_188_0, xa_189, mk_I, e]
theorem md_puts3 (h : xl_OK M) {s : Nat} (hs : s < 60) {v : Int} : D_X12_puts 188 (s : Int) 3 v (mk M a) = some ((), mk M (up1 a (6 + 7 * s + 3) v)) := by
  have e : ((6 : Int) + 7 * (s : Int) + 3).toNat = 6 + 7 * s + 3 := by omega
  have hM : xl_OK (mk M a) := h
  simp (disch := first | assumption | omega) only [D_X12_puts, xg_188_0, xw_189, mk_sI, e]
theorem md_of4 (h : xl_OK M) {s : Nat} (hs : s < 60) : D_X12_of 188 (s : Int) 4 (mk M a) = some (a (6 + 7 * s + 4), mk M a) := by
  have e : ((6 : Int) + 7 * (s : Int) + 4).toNat = 6 + 7 * s + 4 := by omega
  have hM : xl_OK (mk M a) := h
  simp (disch := first | assumption | omega) only [D_X12_of, xg_188_0, xa_189, mk_I, e]
theorem md_puts4 (h : xl_OK M) {s : Nat} (hs : s < 60) {v : Int} : D_X12_puts 188 (s : Int) 4 v (mk M a) = some ((), mk M (up1 a (6 + 7 * s + 4) v)) := by
  have e : ((6 : Int) + 7 * (s : Int) + 4).toNat = 6 + 7 * s + 4 := by omega
  have hM : xl_OK (mk M a) := h
  simp (disch := first | assumption | omega) only [D_X12_puts, xg_188_0, xw_189, mk_sI, e]
theorem md_of5 (h : xl_OK M) {s : Nat} (hs : s < 60) : D_X12_of 188 (s : Int) 5 (mk M a) = some (a (6 + 7 * s + 5), mk M a) := by
  have e : ((6 : Int) + 7 * (s : Int) + 5).toNat = 6 + 7 * s + 5 := by omega
  have hM : xl_OK (mk M a) := h
  simp (disch := first | assumption | omega) only [D_X12_of, xg_188_0, xa_189, mk_I, e]
theorem md_puts5 (h : xl_OK M) {s : Nat} (hs : s < 60) {v : Int} : D_X12_puts 188 (s : Int) 5 v (mk M a) = some ((), mk M (up1 a (6 + 7 * s + 5) v)) := by
  have e : ((6 : Int) + 7 * (s : Int) + 5).toNat = 6 + 7 * s + 5 := by omega
  have hM : xl_OK (mk M a) := h
  simp (disch := first | assumption | omega) only [D_X12_puts, xg_188_0, xw_189, mk_sI, e]
theorem md_of6 (h : xl_OK M) {s : Nat} (hs : s < 60) : D_X12_of 188 (s : Int) 6 (mk M a) = some (a (6 + 7 * s + 6), mk M a) := by
  have e : ((6 : Int) + 7 * (s : Int) + 6).toNat = 6 + 7 * s + 6 := by omega
  have hM : xl_OK (mk M a) := h
  simp (disch := first | assumption | omega) only [D_X12_of, xg_188_0, xa_189, mk_I, e]
theorem md_puts6 (h : xl_OK M) {s : Nat} (hs : s < 60) {v : Int} : D_X12_puts 188 (s : Int) 6 v (mk M a) = some ((), mk M (up1 a (6 + 7 * s + 6) v)) := by
  have e : ((6 : Int) + 7 * (s : Int) + 6).toNat = 6 + 7 * s + 6 := by omega
  have hM : xl_OK (mk M a) := h
  simp (disch := first | assumption | omega) only [D_X12_puts, xg_188_0, xw_189, mk_sI, e]
theorem md_its0 (h : xl_OK M) {s : Nat} (hs : s < 6) : D_X12_its 188 (s : Int) 0 (mk M a) = some (a (426 + 6 * s + 0), mk M a) := by
  have e : ((426 : Int) + 6 * (s : Int) + 0).toNat = 426 + 6 * s + 0 := by omega
  have hM : xl_OK (mk M a) := h
  simp (disch := first | assumption | omega) only [D_X12_its, xg_188_0, xa_189, mk_I, e]
theorem md_gives0 (h : xl_OK M) {s : Nat} (hs : s < 6) {v : Int} : D_X12_gives 188 (s : Int) 0 v (mk M a) = some ((), mk M (up1 a (426 + 6 * s + 0) v)) := by
  have e : ((426 : Int) + 6 * (s : Int) + 0).toNat = 426 + 6 * s + 0 := by omega
  have hM : xl_OK (mk M a) := h
  simp (disch := first | assumption | omega) only [D_X12_gives, xg_188_0, xw_189, mk_sI, e]
theorem md_its1 (h : xl_OK M) {s : Nat} (hs : s < 6) : D_X12_its 188 (s : Int) 1 (mk M a) = some (a (426 + 6 * s + 1), mk M a) := by
  have e : ((426 : Int) + 6 * (s : Int) + 1).toNat = 426 + 6 * s + 1 := by omega
  have hM : xl_OK (mk M a) := h
  simp (disch := first | assumption | omega) only [D_X12_its, xg_188_0, xa_189, mk_I, e]
theorem md_gives1 (h : xl_OK M) {s : Nat} (hs : s < 6) {v : Int} : D_X12_gives 188 (s : Int) 1 v (mk M a) = some ((), mk M (up1 a (426 + 6 * s + 1) v)) := by
  have e : ((426 : Int) + 6 * (s : Int) + 1).toNat = 426 + 6 * s + 1 := by omega
  have hM : xl_OK (mk M a) := h
  simp (disch := first | assumption | omega) only [D_X12_gives, xg_188_0, xw_189, mk_sI, e]
theorem md_its2 (h : xl_OK M) {s : Nat} (hs : s < 6) : D_X12_its 188 (s : Int) 2 (mk M a) = some (a (426 + 6 * s + 2), mk M a) := by
  have e : ((426 : Int) + 6 * (s : Int) + 2).toNat = 426 + 6 * s + 2 := by omega
  have hM : xl_OK (mk M a) := h
  simp (disch := first | assumption | omega) only [D_X12_its, xg_188_0, xa_189, mk_I, e]
theorem md_gives2 (h : xl_OK M) {s : Nat} (hs : s < 6) {v : Int} : D_X12_gives 188 (s : Int) 2 v (mk M a) = some ((), mk M (up1 a (426 + 6 * s + 2) v)) := by
  have e : ((426 : Int) + 6 * (s : Int) + 2).toNat = 426 + 6 * s + 2 := by omega
  have hM : xl_OK (mk M a) := h
  simp (disch := first | assumption | omega) only [D_X12_gives, xg_188_0, xw_189, mk_sI, e]
theorem md_its3 (h : xl_OK M) {s : Nat} (hs : s < 6) : D_X12_its 188 (s : Int) 3 (mk M a) = some (a (426 + 6 * s + 3), mk M a) := by
  have e : ((426 : Int) + 6 * (s : Int) + 3).toNat = 426 + 6 * s + 3 := by omega
  have hM : xl_OK (mk M a) := h
  simp (disch := first | assumption | omega) only [D_X12_its, xg_188_0, xa_189, mk_I, e]
theorem md_gives3 (h : xl_OK M) {s : Nat} (hs : s < 6) {v : Int} : D_X12_gives 188 (s : Int) 3 v (mk M a) = some ((), mk M (up1 a (426 + 6 * s + 3) v)) := by
  have e : ((426 : Int) + 6 * (s : Int) + 3).toNat = 426 + 6 * s + 3 := by omega
  have hM : xl_OK (mk M a) := h
  simp (disch := first | assumption | omega) only [D_X12_gives, xg_188_0, xw_189, mk_sI, e]
theorem md_its4 (h : xl_OK M) {s : Nat} (hs : s < 6) : D_X12_its 188 (s : Int) 4 (mk M a) = some (a (426 + 6 * s + 4), mk M a) := by
  have e : ((426 : Int) + 6 * (s : Int) + 4).toNat = 426 + 6 * s + 4 := by omega
  have hM : xl_OK (mk M a) := h
  simp (disch := first | assumption | omega) only [D_X12_its, xg_188_0, xa_189, mk_I, e]
theorem md_gives4 (h : xl_OK M) {s : Nat} (hs : s < 6) {v : Int} : D_X12_gives 188 (s : Int) 4 v (mk M a) = some ((), mk M (up1 a (426 + 6 * s + 4) v)) := by
  have e : ((426 : Int) + 6 * (s : Int) + 4).toNat = 426 + 6 * s + 4 := by omega
  have hM : xl_OK (mk M a) := h
  simp (disch := first | assumption | omega) only [D_X12_gives, xg_188_0, xw_189, mk_sI, e]
theorem md_its5 (h : xl_OK M) {s : Nat} (hs : s < 6) : D_X12_its 188 (s : Int) 5 (mk M a) = some (a (426 + 6 * s + 5), mk M a) := by
  have e : ((426 : Int) + 6 * (s : Int) + 5).toNat = 426 + 6 * s + 5 := by omega
  have hM : xl_OK (mk M a) := h
  simp (disch := first | assumption | omega) only [D_X12_its, xg_188_0, xa_189, mk_I, e]
theorem md_gives5 (h : xl_OK M) {s : Nat} (hs : s < 6) {v : Int} : D_X12_gives 188 (s : Int) 5 v (mk M a) = some ((), mk M (up1 a (426 + 6 * s + 5) v)) := by
  have e : ((426 : Int) + 6 * (s : Int) + 5).toNat = 426 + 6 * s + 5 := by omega
  have hM : xl_OK (mk M a) := h
  simp (disch := first | assumption | omega) only [D_X12_gives, xg_188_0, xw_189, mk_sI, e]
theorem md_isThere (h : xl_OK M) {s : Nat} (hs : s < 60) (h4 : a (6 + 7 * s + 4) = 0 ∨ a (6 + 7 * s + 4) = 1) : D_X12_isThere 188 (s : Int) (mk M a) = some (if a (6 + 7 * s + 4) = 1 then 1 else 0, mk M a) := by
  have hM : xl_OK (mk M a) := h
  simp (disch := first | assumption | omega) only [D_X12_isThere, xr_188, md_of4, xe_call]
  rw [xe_cmp (by omega) (by omega) (by omega) (by omega)]
  rcases h4 with h4 | h4
  · rw [h4]; rfl
  · rw [h4]; rfl
theorem md_covers (h : xl_OK M) {s : Nat} (hs : s < 60) {x : Int} (hx : 0 ≤ x ∧ x ≤ 1000) (h4 : a (6 + 7 * s + 4) = 0 ∨ a (6 + 7 * s + 4) = 1) (hb : a (6 + 7 * s + 4) = 1 → (0 ≤ a (6 + 7 * s + 2) ∧ a (6 + 7 * s + 2) ≤ 2000) ∧ (0 ≤ a (6 + 7 * s + 3) ∧ a (6 + 7 * s + 3) ≤ 2000)) : D_X12_covers 188 (s : Int) x (mk M a) = some (if rCov a s x then 1 else 0, mk M a) := by
  have hM : xl_OK (mk M a) := h
  unfold D_X12_covers
  rw [xr_188 hM, md_isThere h hs h4, xe_call, xe_b0]
  by_cases h1 : a (6 + 7 * s + 4) = 1
  · obtain ⟨b1, b2⟩ := hb h1
    rw [if_pos h1, xr_188 hM, md_of2 h hs, xe_call, xr_188 hM, md_of3 h hs, xe_call, md_in (by omega) (by omega) (by omega), xe_call, xe_b0]
    by_cases h2 : a (6 + 7 * s + 2) ≤ x ∧ x ≤ a (6 + 7 * s + 3)
    · rw [if_pos h2, if_pos ⟨h1, h2⟩, xe_g1]
    · rw [if_neg h2, if_neg (fun q => h2 q.2), xe_g0]
  · rw [if_neg h1, if_neg (fun q => h1 q.1), xe_g0]
theorem md_isInside (h : xl_OK M) {w s : Nat} (hw : w < 6) (hs : s < 60) (hb : 0 ≤ a (462 + 60 * w + s) ∧ a (462 + 60 * w + s) ≤ 100000) : D_X12_isInside 188 (w : Int) (s : Int) (mk M a) = some (if rIn a w s then 1 else 0, mk M a) := by
  have e : ((462 : Int) + 60 * (w : Int) + (s : Int)).toNat = 462 + 60 * w + s := by omega
  have hM : xl_OK (mk M a) := h
  unfold D_X12_isInside
  rw [xg_188_0 hM, xa_189 hM (by omega) (by omega), mk_I, e]
  rw [xe_cmp (by omega) (by omega) (by omega) (by omega)]
  by_cases h1 : a (462 + 60 * w + s) ≤ 0
  · rw [if_pos h1, if_neg (by unfold rIn; omega), xe_g0]
  · rw [if_neg h1, if_pos (by unfold rIn; omega), xe_g1]
theorem md_noWalker (h : xl_OK M) {x : Int} (hx : -2147483648 ≤ x ∧ x ≤ 2147483647) (hb : 0 ≤ a 2 ∧ a 2 ≤ 6) : D_X12_noWalker 188 x (mk M a) = some (if 0 ≤ x ∧ x < a 2 then 0 else 1, mk M a) := by
  have hM : xl_OK (mk M a) := h
  have e : (2 : Int).toNat = 2 := rfl
  unfold D_X12_noWalker
  rw [xg_188_0 hM, xa_189 hM (by decide) (by decide), mk_I, e, md_in hx (by omega) (by omega), xe_call]
  by_cases h1 : 0 ≤ x ∧ x < a 2
  · rw [if_pos h1, if_pos (by omega)]; rfl
  · rw [if_neg h1, if_neg (by omega)]; rfl
theorem md_noSpan (h : xl_OK M) {x : Int} (hx : -2147483648 ≤ x ∧ x ≤ 2147483647) (hb : 0 ≤ a 1 ∧ a 1 ≤ 60) (h4 : ∀ s : Nat, s < 60 → (a (6 + 7 * s + 4) = 0 ∨ a (6 + 7 * s + 4) = 1)) : D_X12_noSpan 188 x (mk M a) = some (if 0 ≤ x ∧ x < a 1 ∧ a (6 + 7 * x.toNat + 4) = 1 then 0 else 1, mk M a) := by
  have hM : xl_OK (mk M a) := h
  have e : (1 : Int).toNat = 1 := rfl
  unfold D_X12_noSpan
  rw [xg_188_0 hM, xa_189 hM (by decide) (by decide), mk_I, e, md_in hx (by omega) (by omega), xe_call, xe_b0]
  by_cases h1 : 0 ≤ x ∧ x ≤ a 1 - 1
  · rw [if_pos h1]
    obtain ⟨s, rfl⟩ : ∃ s : Nat, x = (s : Int) := ⟨x.toNat, by omega⟩
    rw [xr_188 hM, md_isThere h (by omega) (h4 s (by omega)), xe_call, xe_b1, Int.toNat_natCast]
    by_cases h2 : a (6 + 7 * s + 4) = 1
    · rw [if_pos h2, if_pos (by omega), xe_g0]
    · rw [if_neg h2, if_neg (by omega), xe_g1]
  · rw [if_neg h1, if_neg (by omega), xe_g1]
end MD
