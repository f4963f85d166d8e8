/-! ## the reference's acts, over its row -/
def rAddB (a : RW) (l r f g : Int) : RW := up1 (rPuts a (rn a) l r f g) 1 (a 1 + 1)
theorem rAddB_o {a : RW} {l r f g : Int} {i : Nat} (h1 : i ≠ 1) (h : ¬ (6 + 7 * rn a ≤ i ∧ i < 6 + 7 * rn a + 7)) : rAddB a l r f g i = a i := by
  unfold rAddB rPuts
  rw [up1_n h1, up1_n (by omega), up1_n (by omega), up1_n (by omega), up1_n (by omega), up1_n (by omega), up1_n (by omega), up1_n (by omega)]
theorem rAddB_n {a : RW} {l r f g : Int} : rAddB a l r f g 1 = a 1 + 1 ∧ rAddB a l r f g (6 + 7 * rn a + 0) = l ∧ rAddB a l r f g (6 + 7 * rn a + 1) = r ∧ rAddB a l r f g (6 + 7 * rn a + 2) = f ∧ rAddB a l r f g (6 + 7 * rn a + 3) = g ∧ rAddB a l r f g (6 + 7 * rn a + 4) = 1 ∧ rAddB a l r f g (6 + 7 * rn a + 5) = 0 ∧ rAddB a l r f g (6 + 7 * rn a + 6) = 0 := by
  unfold rAddB rPuts
  refine ⟨up1_s, ?_, ?_, ?_, ?_, ?_, ?_, ?_⟩
  · rw [up1_n (by omega), up1_n (by omega), up1_n (by omega), up1_n (by omega), up1_n (by omega), up1_n (by omega), up1_n (by omega), up1_s]
  · rw [up1_n (by omega), up1_n (by omega), up1_n (by omega), up1_n (by omega), up1_n (by omega), up1_n (by omega), up1_s]
  · rw [up1_n (by omega), up1_n (by omega), up1_n (by omega), up1_n (by omega), up1_n (by omega), up1_s]
  · rw [up1_n (by omega), up1_n (by omega), up1_n (by omega), up1_n (by omega), up1_s]
  · rw [up1_n (by omega), up1_n (by omega), up1_n (by omega), up1_s]
  · rw [up1_n (by omega), up1_n (by omega), up1_s]
  · rw [up1_n (by omega), up1_s]
theorem rRQ_add {a : RW} (q : rRQ a) (h60 : a 1 < 60) {l r f g : Int} (hb : 0 ≤ l ∧ l ≤ f ∧ f ≤ g ∧ g ≤ r ∧ r ≤ 1000) : rRQ (rAddB a l r f g) := by
  obtain ⟨gd, sp, sm, z⟩ := q
  have en := gd.en
  have hm := gd.m
  obtain ⟨g0, g1, g2, gk, g4, gb, gw⟩ := gd
  obtain ⟨n1, nl, nr, nf, ng, nt, _, _⟩ := rAddB_n (a := a) (l := l) (r := r) (f := f) (g := g)
  have o : ∀ i, i ≠ 1 → ¬ (6 + 7 * rn a ≤ i ∧ i < 6 + 7 * rn a + 7) → rAddB a l r f g i = a i := fun i h1 h2 => rAddB_o h1 h2
  have e0 : rAddB a l r f g 0 = a 0 := o 0 (by omega) (by omega)
  have e2 : rAddB a l r f g 2 = a 2 := o 2 (by omega) (by omega)
  have hr60 : rn a < 60 := by omega
  have en2 : rn (rAddB a l r f g) = rn a + 1 := by show (rAddB a l r f g 1).toNat = _; rw [n1]; omega
  have em : rm (rAddB a l r f g) = rm a := by show (rAddB a l r f g 2).toNat = (a 2).toNat; rw [e2]
  have os : ∀ s j : Nat, s ≠ rn a → j < 7 → rAddB a l r f g (6 + 7 * s + j) = a (6 + 7 * s + j) := fun s j h1 h2 => o _ (by omega) (by omega)
  refine ⟨⟨by rw [e0]; exact g0, by rw [n1]; omega, by rw [e2]; exact g2, rKp_refl (by rw [o 5 (by omega) (by omega)]; exact gk.2.2.2.1) (fun w s q1 q2 => ?_), fun s q1 => ?_, fun s q1 q2 => ?_, fun w q1 => ?_⟩, fun s q1 q2 => ?_, ⟨?_, ?_⟩, fun w s q1 q2 q3 => ?_⟩
  · rw [o _ (by omega) (by omega), e0]
    exact gk.2.2.2.2.2.2 w s q1 q2
  · by_cases h : s = rn a
    · subst h; rw [nt]; exact Or.inr rfl
    · rw [os s 4 h (by omega)]; exact g4 s q1
  · by_cases h : s = rn a
    · subst h; rw [nf, ng]; omega
    · rw [os s 4 h (by omega)] at q2
      rw [os s 2 h (by omega), os s 3 h (by omega)]; exact gb s q1 q2
  · rw [e2] at q1
    have hw6 : w < 6 := by omega
    rw [o _ (by omega) (by omega), o _ (by omega) (by omega)]; exact gw w q1
  · by_cases h : s = rn a
    · subst h; rw [nl, nr, nf, ng]; omega
    · rw [os s 4 h (by omega)] at q2
      rw [os s 0 h (by omega), os s 1 h (by omega), os s 2 h (by omega), os s 3 h (by omega)]; exact sp s (by omega) q2
  · rw [o 3 (by omega) (by omega), em, rsm_cg (a := a) (fun w q1 => o _ (by omega) (by omega))]; exact sm.1
  · rw [o 4 (by omega) (by omega), em, rsm_cg (a := a) (fun w q1 => o _ (by omega) (by omega))]; exact sm.2
  · rw [o _ (by omega) (by omega)]; exact z w s q1 q2 (by omega)
section MA
variable {M : xv_M} {a : RW}
theorem md_of' (h : xl_OK M) {s j : Nat} (hs : s < 60) (hj : j < 7) : D_X12_of 188 (s : Int) (j : Int) (mk M a) = some (a (6 + 7 * s + j), mk M a) := by
  have e : ((6 : Int) + 7 * (s : Int) + (j : Int)).toNat = 6 + 7 * s + j := by omega
  have hM : xl_OK (mk M a) := h
  unfold D_X12_of
  rw [xg_188_0 hM, xa_189 hM (by omega) (by omega), mk_I, e]
theorem md_puts' (h : xl_OK M) {s j : Nat} (hs : s < 60) (hj : j < 7) {v : Int} : D_X12_puts 188 (s : Int) (j : Int) v (mk M a) = some ((), mk M (up1 a (6 + 7 * s + j) v)) := by
  have e : ((6 : Int) + 7 * (s : Int) + (j : Int)).toNat = 6 + 7 * s + j := by omega
  have hM : xl_OK (mk M a) := h
  unfold D_X12_puts
  rw [xg_188_0 hM, xw_189 hM (by omega) (by omega), mk_sI, e]
theorem md_gives' (h : xl_OK M) {s j : Nat} (hs : s < 6) (hj : j < 6) {v : Int} : D_X12_gives 188 (s : Int) (j : Int) v (mk M a) = some ((), mk M (up1 a (426 + 6 * s + j) v)) := by
  have e : ((426 : Int) + 6 * (s : Int) + (j : Int)).toNat = 426 + 6 * s + j := by omega
  have hM : xl_OK (mk M a) := h
  unfold D_X12_gives
  rw [xg_188_0 hM, xw_189 hM (by omega) (by omega), mk_sI, e]
theorem md_adds (h : xl_OK M) (g : rGd a) (h60 : a 1 < 60) {l r f g' : Int} (gb : rGd (rAddB a l r f g')) : D_X12_adds 188 l r f g' (mk M a) = some (a 1, mk M (rAdds a l r f g')) := by
  have hM : ∀ b : RW, xl_OK (mk M b) := fun _ => h
  have e1 : (1 : Int).toNat = 1 := rfl
  have en := g.en
  have hn : rn a < 60 := by omega
  unfold D_X12_adds
  rw [xg_188_0 (hM _), xa_189 (hM _) (by decide) (by decide), mk_I, e1, ← en]
  rw [xr_188 (hM _), md_puts0 h hn, xe_call, xr_188 (hM _), md_puts1 h hn, xe_call, xr_188 (hM _), md_puts2 h hn, xe_call, xr_188 (hM _), md_puts3 h hn, xe_call, xr_188 (hM _), md_puts4 h hn, xe_call, xr_188 (hM _), md_puts5 h hn, xe_call, xr_188 (hM _), md_puts6 h hn, xe_call]
  rw [xg_188_0 (hM _), xa_189 (hM _) (by decide) (by decide), mk_I, e1, xw_189 (hM _) (by decide) (by decide), mk_sI, e1]
  have ev : up1 (up1 (up1 (up1 (up1 (up1 (up1 a (6 + 7 * rn a + 0) l) (6 + 7 * rn a + 1) r) (6 + 7 * rn a + 2) f) (6 + 7 * rn a + 3) g') (6 + 7 * rn a + 4) 1) (6 + 7 * rn a + 5) 0) (6 + 7 * rn a + 6) 0 1 = a 1 := by
    rw [up1_n (by omega), up1_n (by omega), up1_n (by omega), up1_n (by omega), up1_n (by omega), up1_n (by omega), up1_n (by omega)]
  rw [ev]
  have ha := md_allChanges h gb
  rw [xr_188 (hM _), show D_X12_allChanges 188 (mk M (up1 (up1 (up1 (up1 (up1 (up1 (up1 (up1 a (6 + 7 * rn a + 0) l) (6 + 7 * rn a + 1) r) (6 + 7 * rn a + 2) f) (6 + 7 * rn a + 3) g') (6 + 7 * rn a + 4) 1) (6 + 7 * rn a + 5) 0) (6 + 7 * rn a + 6) 0) 1 (a 1 + 1))) = _ from ha, xe_call]
  rfl
end MA
/-- the reference's memory behind an act -/
def mAct (M : xv_M) (H a : RW) (k : Nat) : Option RW → xv_M
  | none => mk (mkh M H (k : Int)) a
  | some b => mk (mkh M (hRec H k a) (hCnt k : Int)) b
def rAddA (a : RW) (l r : Int) : Int × Option RW := if (0 ≤ l ∧ l ≤ 1000) ∧ (l ≤ r ∧ r ≤ 1000) then (if a 1 = 60 then (-3, none) else (a 1, some (rAdds a l r l r))) else (-2, none)
abbrev iR (x : Int) : Prop := -2147483648 ≤ x ∧ x ≤ 2147483647
section MA2
variable {M : xv_M} {H a : RW} {k : Nat}
theorem md_add (h : xl_OK M) (hk : k ≤ 4) (g : rRW a) {l r : Int} (hl : iR l) (hr : iR r) : D_X12_add 188 l r (mk (mkh M H (k : Int)) a) = some ((rAddA a l r).1, mAct M H a k (rAddA a l r).2) := by
  have hM : ∀ (b H : RW) (k : Int), xl_OK (mk (mkh M H k) b) := fun _ _ _ => h
  have e1 : (1 : Int).toNat = 1 := rfl
  have g1 := g.1.1.2.1
  unfold D_X12_add rAddA
  rw [md_in hl (by omega) (by omega), xe_call, xe_b0]
  by_cases c1 : 0 ≤ l ∧ l ≤ 1000
  · rw [if_pos c1, md_in hr hl (by omega), xe_call, xe_b1]
    by_cases c2 : l ≤ r ∧ r ≤ 1000
    · rw [if_pos c2, if_pos ⟨c1, c2⟩, xg_188_0 (hM _ _ _), xa_189 (hM _ _ _) (by decide) (by decide), mk_I, e1, xe_cmp (by omega) (by omega) (by decide) (by decide)]
      by_cases c3 : a 1 = 60
      · rw [if_neg (fun z => z c3), if_pos c3]
        rfl
      · rw [if_pos c3, if_neg c3, xr_188 (hM _ _ _), md_record h hk, xe_call, xr_188 (hM _ _ _), md_adds (M := mkh M _ _) h g.1.1 (by omega) (rRQ_add g.1 (by omega) (by omega)).1, xe_call]
        rfl
    · rw [if_neg c2, if_neg (fun z => c2 z.2)]
      rfl
  · rw [if_neg c1, if_neg (fun z => c1 z.1)]
    rfl
end MA2
theorem rRW_adds {a : RW} (q : rRQ a) (h60 : a 1 < 60) {l r f g : Int} (hb : 0 ≤ l ∧ l ≤ f ∧ f ≤ g ∧ g ≤ r ∧ r ≤ 1000) : rRW (rAdds a l r f g) := rRW_all (rRQ_add q h60 hb)
/-! remove -/
def rRemA (a : RW) (x : Int) : Int × Option RW := if 0 ≤ x ∧ x < a 1 ∧ a (6 + 7 * x.toNat + 4) = 1 then ((rAll (up1 a (6 + 7 * x.toNat + 4) 0)).1, some (rAll (up1 a (6 + 7 * x.toNat + 4) 0)).2) else (-1, none)
theorem rRQ_rem {a : RW} (q : rRQ a) {s : Nat} (hs : s < rn a) : rRQ (up1 a (6 + 7 * s + 4) 0) := by
  obtain ⟨gd, sp, sm, z⟩ := q
  have hm := gd.m
  have hn := gd.n
  obtain ⟨g0, g1, g2, gk, g4, gb, gw⟩ := gd
  have o : ∀ i, i ≠ 6 + 7 * s + 4 → up1 a (6 + 7 * s + 4) 0 i = a i := fun i hi => up1_n hi
  have e0 := o 0 (by omega)
  have e1 := o 1 (by omega)
  have e2 := o 2 (by omega)
  have en : rn (up1 a (6 + 7 * s + 4) 0) = rn a := by show (up1 a (6 + 7 * s + 4) 0 1).toNat = (a 1).toNat; rw [e1]
  have em : rm (up1 a (6 + 7 * s + 4) 0) = rm a := by show (up1 a (6 + 7 * s + 4) 0 2).toNat = (a 2).toNat; rw [e2]
  refine ⟨⟨by rw [e0]; exact g0, by rw [e1]; exact g1, by rw [e2]; exact g2, rKp_refl (by rw [o 5 (by omega)]; exact gk.2.2.2.1) (fun w s q1 q2 => ?_), fun t q1 => ?_, fun t q1 q2 => ?_, fun w q1 => ?_⟩, fun t q1 q2 => ?_, ⟨?_, ?_⟩, fun w s q1 q2 q3 => ?_⟩
  · rw [o _ (by omega), e0]
    exact gk.2.2.2.2.2.2 w s q1 q2
  · by_cases ht : t = s
    · subst ht; rw [up1_s]; exact Or.inl rfl
    · rw [o _ (by omega)]; exact g4 t q1
  · by_cases ht : t = s
    · subst ht; rw [up1_s] at q2; omega
    · rw [o _ (by omega)] at q2
      rw [o _ (by omega), o _ (by omega)]; exact gb t q1 q2
  · rw [e2] at q1
    have hw6 : w < 6 := by omega
    rw [o _ (by omega), o _ (by omega)]; exact gw w q1
  · rw [en] at q1
    by_cases ht : t = s
    · subst ht; rw [up1_s] at q2; omega
    · rw [o _ (by omega)] at q2
      rw [o _ (by omega), o _ (by omega), o _ (by omega), o _ (by omega)]; exact sp t q1 q2
  · rw [o 3 (by omega), em, rsm_cg (a := a) (fun w q1 => o _ (by omega))]; exact sm.1
  · rw [o 4 (by omega), em, rsm_cg (a := a) (fun w q1 => o _ (by omega))]; exact sm.2
  · rw [en] at q3
    rw [o _ (by omega)]; exact z w s q1 q2 q3
section MA3
variable {M : xv_M} {H a : RW} {k : Nat}
theorem md_remove (h : xl_OK M) (hk : k ≤ 4) (g : rRW a) {x : Int} (hx : iR x) : D_X12_remove 188 x (mk (mkh M H (k : Int)) a) = some ((rRemA a x).1, mAct M H a k (rRemA a x).2) := by
  have hM : ∀ (b H : RW) (k : Int), xl_OK (mk (mkh M H k) b) := fun _ _ _ => h
  have g1 := g.1.1.2.1
  unfold D_X12_remove rRemA
  rw [xr_188 (hM _ _ _), md_noSpan (M := mkh M _ _) h hx g1 g.1.1.2.2.2.2.1, xe_call]
  by_cases c : 0 ≤ x ∧ x < a 1 ∧ a (6 + 7 * x.toNat + 4) = 1
  · rw [if_pos c, if_pos c]
    obtain ⟨s, rfl⟩ : ∃ s : Nat, x = (s : Int) := ⟨x.toNat, by omega⟩
    rw [Int.toNat_natCast] at c ⊢
    have en := g.1.1.en
    have hs : s < rn a := by omega
    have ha := md_allChanges (M := mkh M (hRec H k a) (hCnt k)) h (rRQ_rem g.1 hs).1
    rw [xe_cmp (by decide) (by decide) (by decide) (by decide), if_pos rfl, xr_188 (hM _ _ _), md_record h hk, xe_call, xr_188 (hM _ _ _), md_puts4 (M := mkh M _ _) h (by omega), xe_call, xr_188 (hM _ _ _), ha, xe_call]
    rfl
  · rw [if_neg c, if_neg c, xe_cmp (by decide) (by decide) (by decide) (by decide), if_neg (by decide)]
    rfl
end MA3
theorem rRW_rem {a : RW} (q : rRQ a) {s : Nat} (hs : s < rn a) : rRW (rAll (up1 a (6 + 7 * s + 4) 0)).2 := rRW_all (rRQ_rem q hs)
