/-! ## what is said of every row; the line, the history -/
def rSp (a : RW) : Prop := ∀ s : Nat, s < rn a → a (6 + 7 * s + 4) = 1 → 0 ≤ a (6 + 7 * s + 0) ∧ a (6 + 7 * s + 0) ≤ a (6 + 7 * s + 2) ∧ a (6 + 7 * s + 2) ≤ a (6 + 7 * s + 3) ∧ a (6 + 7 * s + 3) ≤ a (6 + 7 * s + 1) ∧ a (6 + 7 * s + 1) ≤ 1000
def rsm (a : RW) (j : Nat) : Nat → Int
  | 0 => 0
  | n + 1 => rsm a j n + a (426 + 6 * n + j)
def rSum (a : RW) : Prop := a 3 = rsm a 2 (rm a) ∧ a 4 = rsm a 3 (rm a)
def rZin (a : RW) : Prop := ∀ w s : Nat, w < 6 → s < 60 → rn a ≤ s → a (462 + 60 * w + s) = 0
def rSyn (a : RW) : Prop := ∀ w s : Nat, w < rm a → s < rn a → (0 < a (462 + 60 * w + s) ↔ rCov a s (a (426 + 6 * w)))
def rRQ (a : RW) : Prop := rGd a ∧ rSp a ∧ rSum a ∧ rZin a
def rRW (a : RW) : Prop := rRQ a ∧ rSyn a
theorem rSp.pl {a : RW} (h : rSp a) : rPl a := fun s hs ht => by
  obtain ⟨h1, h2, h3, h4, h5⟩ := h s hs ht
  exact ⟨by omega, h3, by omega⟩
theorem rGd.n {a : RW} (g : rGd a) : rn a ≤ 60 := by have := g.2.1; show (a 1).toNat ≤ 60; omega
theorem rGd.m {a : RW} (g : rGd a) : rm a ≤ 6 := by have := g.2.2.1; show (a 2).toNat ≤ 6; omega
theorem rGd.en {a : RW} (g : rGd a) : ((rn a : Nat) : Int) = a 1 := by have := g.2.1; show (((a 1).toNat : Nat) : Int) = a 1; omega
theorem rGd.em {a : RW} (g : rGd a) : ((rm a : Nat) : Int) = a 2 := by have := g.2.2.1; show (((a 2).toNat : Nat) : Int) = a 2; omega
/-- two rows alike where a row's numbers are -/
def rEq (a b : RW) : Prop := ∀ j, j < 870 → b j = a j
theorem rsm_cg {a b : RW} {j : Nat} : ∀ {n : Nat}, (∀ w, w < n → b (426 + 6 * w + j) = a (426 + 6 * w + j)) → rsm b j n = rsm a j n
  | 0, _ => rfl
  | n + 1, h => by
    show rsm b j n + _ = rsm a j n + _
    rw [rsm_cg (fun w hw => h w (by omega)), h n (by omega)]
theorem rRW.cg {a b : RW} (e : rEq a b) (h : rRW a) : rRW b := by
  obtain ⟨⟨g, sp, sm, z⟩, sy⟩ := h
  have e0 := e 0 (by omega)
  have e1 := e 1 (by omega)
  have e2 := e 2 (by omega)
  have en : rn b = rn a := by show (b 1).toNat = (a 1).toNat; rw [e1]
  have em : rm b = rm a := by show (b 2).toNat = (a 2).toNat; rw [e2]
  have hn := g.n
  have hm := g.m
  obtain ⟨g0, g1, g2, gk, g4, gb, gw⟩ := g
  refine ⟨⟨⟨by rw [e0]; exact g0, by rw [e1]; exact g1, by rw [e2]; exact g2, ?_, fun s hs => ?_, fun s hs => ?_, fun w hw => ?_⟩, fun s hs => ?_, ⟨?_, ?_⟩, fun w s hw hs hr => ?_⟩, fun w s hw hs => ?_⟩
  · refine rKp_refl (by rw [e 5 (by omega)]; exact gk.2.2.2.1) (fun w s hw hs => ?_)
    rw [e _ (by omega), e0]
    exact gk.2.2.2.2.2.2 w s hw hs
  · rw [e _ (by omega)]; exact g4 s hs
  · rw [e _ (by omega), e _ (by omega), e _ (by omega)]; exact gb s hs
  · rw [e2] at hw
    rw [e _ (by omega), e _ (by omega)]; exact gw w hw
  · rw [en] at hs
    rw [e _ (by omega), e _ (by omega), e _ (by omega), e _ (by omega), e _ (by omega)]; exact sp s hs
  · rw [e 3 (by omega), em, rsm_cg (fun w hw => e _ (by omega))]; exact sm.1
  · rw [e 4 (by omega), em, rsm_cg (fun w hw => e _ (by omega))]; exact sm.2
  · rw [en] at hr
    rw [e _ (by omega)]; exact z w s hw hs hr
  · rw [em] at hw
    rw [en] at hs
    unfold rCov
    rw [e _ (by omega), e _ (by omega), e _ (by omega), e _ (by omega), e _ (by omega)]
    exact sy w s hw hs
theorem SB.cg {p : Nat} {a b : RW} {M : xv_M} (e : rEq a b) (g : rGd a) (h : SB p a M) : SB p b M := by
  obtain ⟨t, ⟨s1, s2, s3, s4⟩, ⟨w1, w2, w3⟩, ⟨l1, l2, l3⟩, x, i, z⟩ := h
  have en : rn b = rn a := by show (b 1).toNat = (a 1).toNat; rw [e 1 (by omega)]
  have em : rm b = rm a := by show (b 2).toNat = (a 2).toNat; rw [e 2 (by omega)]
  have e5 := e 5 (by omega)
  have hn := g.n
  have hm := g.m
  have h5 := g.2.2.2.1.2.2.2.1
  refine ⟨by rw [e 0 (by omega)]; exact t, ⟨by rw [e 1 (by omega)]; exact s1, fun s hs => ?_, fun s hs => ?_, fun s hs hr => ?_⟩, ⟨by rw [e 2 (by omega)]; exact w1, fun w hw => ?_, fun w hw hr => ?_⟩, ⟨by rw [e5]; exact l1, l2, fun k hk => ?_⟩, fun w s hw hs hp => ?_, fun w hw s hs => ?_, fun w hw hr => ?_⟩
  · rw [s2 s hs, en]
    by_cases hl : s < rn a
    · rw [e _ (by omega)]
    · simp [hl]
  · rw [en] at hs
    rw [e _ (by omega), e _ (by omega), e _ (by omega), e _ (by omega), e _ (by omega), e _ (by omega)]
    exact s3 s hs
  · rw [en] at hr
    exact s4 s hs hr
  · rw [em] at hw
    rw [e _ (by omega), e _ (by omega), e _ (by omega), e _ (by omega), e _ (by omega), e _ (by omega)]
    exact w2 w hw
  · rw [em] at hr
    exact w3 w hw hr
  · rw [e5] at hk ⊢
    rw [e _ (by omega), e _ (by omega), e _ (by omega), e _ (by omega)]
    exact l3 k hk
  · rw [em] at hw
    rw [en] at hs
    rw [e _ (by omega)] at hp ⊢
    exact x w s hw hs hp
  · rw [em] at hw
    rw [i w hw s hs, en]
    by_cases hl : s < rn a
    · rw [e _ (by omega)]
    · simp [hl]
  · rw [em] at hr
    exact z w hw hr
/-- the line as it is now -/
def LN (a : RW) (M : xv_M) : Prop := CB a M ∧ CI a M ∧ CC a M ∧ TR a M
theorem CB.sb {a : RW} {M : xv_M} (h : CB a M) (i : CI a M) : SB 3 a M := ⟨h.2.1, h.2.2.1, h.2.2.2.1, h.2.2.2.2.1, h.2.2.2.2.2, i.1, i.2⟩
theorem SB.cb {a : RW} {M : xv_M} (hO : xl_OK M) (h : SB 3 a M) : CB a M ∧ CI a M := ⟨⟨hO, h.1, h.2.1, h.2.2.1, h.2.2.2.1, h.2.2.2.2.1⟩, h.2.2.2.2.2.1, h.2.2.2.2.2.2⟩
theorem LF.sm {M M' : xv_M} (h : LF M M') {l u : Nat} (hlu : u < 32 ∨ 38 < l) : Sm l u M M' := fun r j h1 h2 => ⟨h.2.1 r j (by omega), h.2.2.1 r j (by omega)⟩
theorem xm_become {q : Nat} {a : RW} {M : xv_M} (h : xl_OK M) (hq : Bk q) (hq3 : 3 ≠ q) (g : rRW a) (hS : SB q a M) : ∃ M', D_X2_become 2 q M = some ((), M') ∧ LN a M' ∧ Sm 39 1000 M M' ∧ M'.2.2.2 = M.2.2.2 ∧ xv_I M' 1 5 = xv_I M 1 5 := by
  have gd := g.1.1
  obtain ⟨M1, d1, c1⟩ := xm_copy h (p := 3) (Or.inl rfl) hq hq3
  have hS1 := hS.cp gd.n gd.m c1
  obtain ⟨M2, d2, cc, tr, lf⟩ := xm_layOut c1.1 hS1.2.1 gd.2.1 g.1.2.1.pl
  have hS2 : SB 3 a M2 := hS1.fr gd.n gd.m (lf.sm (by omega))
  obtain ⟨cb, ci⟩ := SB.cb lf.1 hS2
  refine ⟨M2, ?_, ⟨cb, ci, cc, tr⟩, ?_, lf.2.2.2.trans c1.2.1, (lf.2.1 1 5 (by omega)).trans (c1.2.2.2.2 1 5 (by omega)).1⟩
  · unfold D_X2_become
    rw [xg_2_0 h, xr_3 h, d1, xe_call, xr_2 c1.1, d2, xe_call]
  · have s1 : Sm 39 1000 M M1 := fun r j h1 h2 => c1.2.2.2.2 r j (by omega)
    exact s1.tr (lf.sm (by omega))
/-! the history -/
def Hk (p : Nat) : Prop := p = 41 ∨ p = 69 ∨ p = 97 ∨ p = 125
theorem Hk.bk {p : Nat} (h : Hk p) : Bk p := by unfold Hk at h; unfold Bk; omega
def HS (H : RW) (i : Nat) : RW := fun j => H (870 * i + j)
def HI (H : RW) (k : Nat) (M : xv_M) : Prop := (∀ i, i < 4 → Hk (xv_P M 40 i)) ∧ (∀ i j, i < 4 → j < 4 → xv_P M 40 i = xv_P M 40 j → i = j) ∧ ∀ i, i < k → SB (xv_P M 40 i) (HS H i) M ∧ rRW (HS H i)
theorem HI.fr {H : RW} {k : Nat} {M M' : xv_M} (h : HI H k M) (hk : k ≤ 4) (hP : M'.2.2.2 = M.2.2.2) (hs : Sm 41 152 M M') : HI H k M' := by
  obtain ⟨h1, h2, h3⟩ := h
  have e : ∀ i, xv_P M' 40 i = xv_P M 40 i := fun i => by show M'.2.2.2 40 i = M.2.2.2 40 i; rw [hP]
  refine ⟨fun i hi => by rw [e]; exact h1 i hi, fun i j hi hj => by rw [e, e]; exact h2 i j hi hj, fun i hi => ⟨?_, (h3 i hi).2⟩⟩
  rw [e]
  have g := (h3 i hi).2.1.1
  have hh := h1 i (by omega)
  unfold Hk at hh
  exact (h3 i hi).1.fr g.n g.m (hs.sub (by omega) (by omega))
theorem xm_dropOldest {M : xv_M} (h : xl_OK M) (hp : ∀ i, i < 4 → Hk (xv_P M 40 i)) : ∃ P', D_X1_dropOldest 39 M = some ((), xv_sI (M.1, M.2.1, M.2.2.1, P') 39 0 3) ∧ (∀ i, i < 4 → P' 40 i = if i = 3 then xv_P M 40 0 else xv_P M 40 (i + 1)) ∧ ∀ r j, r ≠ 40 → P' r j = xv_P M r j := by
  have hO : ∀ P' : Nat → Nat → Nat, (∀ r j, r ≠ 40 → P' r j = xv_P M r j) → xl_OK (M.1, M.2.1, M.2.2.1, P') := fun P' e => ⟨h.1, fun r j hr => (e r j hr).trans (h.2 r j hr)⟩
  have h6 : ∀ (M' : xv_M) (v : Nat), xl_OK M' → Hk v → (xv_kd M' v).1 = 6 := fun M' v hM hv => by
    have := bk_k hM hv.bk (r := 0) (by decide) (k := (6, 0)) rfl
    rw [Nat.add_zero] at this
    rw [this]
  unfold D_X1_dropOldest
  rw [xg_39_1 h, xe_aP (xk_40 h) (by decide) (by decide) (by decide)]
  refine xe_inv0 (I := fun (k : Nat) (s : Int × xv_M) => s.1 = (k : Int) + 1 ∧ ∃ P', s.2 = (M.1, M.2.1, M.2.2.1, P') ∧ (∀ i, i < 4 → P' 40 i = if i < k then xv_P M 40 (i + 1) else xv_P M 40 i) ∧ ∀ r j, r ≠ 40 → P' r j = xv_P M r j) (n := 3) (P := fun z => ∃ P', z = some ((), xv_sI (M.1, M.2.1, M.2.2.1, P') 39 0 3) ∧ (∀ i, i < 4 → P' 40 i = if i = 3 then xv_P M 40 0 else xv_P M 40 (i + 1)) ∧ ∀ r j, r ≠ 40 → P' r j = xv_P M r j) (by decide) ⟨rfl, M.2.2.2, rfl, fun i hi => by rw [if_neg (by omega)]; rfl, fun _ _ _ => rfl⟩ ?_ ?_
  · rintro k ⟨i, M1⟩ hk ⟨hi, P', hM1, p1, p2⟩
    dsimp only at hi hM1 ⊢
    subst hi hM1
    have hM := hO P' p2
    have ek : ((k : Int) + 1 + 1) = ((k + 1 : Nat) : Int) + 1 := by omega
    have e1 : ((k : Int) + 1).toNat = k + 1 := by omega
    have e2 : ((k : Int) + 1 - 1).toNat = k := by omega
    have ev : P' 40 (k + 1) = xv_P M 40 (k + 1) := by rw [p1 (k + 1) (by omega), if_neg (by omega)]
    refine ⟨(((k + 1 : Nat) : Int) + 1, (M.1, M.2.1, M.2.2.1, xv_up P' 40 k (P' 40 (k + 1)))), ⟨rfl, _, rfl, fun i hi => ?_, fun r j hr => ?_⟩, fun f => ?_⟩
    · unfold xv_up
      by_cases hik : i = k
      · subst hik
        rw [if_pos ⟨rfl, rfl⟩, if_pos (by omega), ev]
      · rw [if_neg (fun z => hik z.2), p1 i hi]
        by_cases hlt : i < k
        · rw [if_pos hlt, if_pos (by omega)]
        · rw [if_neg hlt, if_neg (by omega)]
    · unfold xv_up
      rw [if_neg (fun z => hr z.1)]
      exact p2 r j hr
    · rw [xe_cmp (by omega) (by omega) (by decide) (by decide), if_neg (by omega), xg_39_1 hM, xg_39_1 hM, xe_aP (xk_40 hM) (by omega) (by omega) (by decide), e1]
      unfold xv_wP
      rw [if_pos ⟨xe_ab (xk_40 hM) (by omega) (by omega) (by decide), h6 _ _ hM (by show Hk (P' 40 (k + 1)); rw [ev]; exact hp _ (by omega))⟩, e2, ek]
      rfl
  · rintro ⟨i, M1⟩ ⟨hi, P', hM1, p1, p2⟩ f
    dsimp only at hi hM1 ⊢
    subst hi hM1
    have hM := hO P' p2
    rw [xe_cmp (by decide) (by decide) (by decide) (by decide), if_pos (by decide), xg_39_1 hM]
    unfold xv_wP
    have hM2 : xl_OK (xv_sP (M.1, M.2.1, M.2.2.1, P') 40 3 (xv_P M 40 0)) := hO _ (fun r j hr => by
      unfold xv_up
      rw [if_neg (fun z => hr z.1)]
      exact p2 r j hr)
    rw [if_pos ⟨xe_ab (xk_40 hM) (by decide) (by decide) (by decide), h6 _ _ hM (hp 0 (by decide))⟩]
    have e3 : (3 : Int).toNat = 3 := rfl
    have e0 : (0 : Int).toNat = 0 := rfl
    rw [e3, e0]
    dsimp only
    rw [xu_39_0 hM2]
    refine ⟨xv_up P' 40 3 (xv_P M 40 0), rfl, fun i hi => ?_, fun r j hr => ?_⟩
    · unfold xv_up
      by_cases hi3 : i = 3
      · subst hi3
        rw [if_pos ⟨rfl, rfl⟩, if_pos rfl]
      · rw [if_neg (fun z => hi3 z.2), if_neg hi3, p1 i hi, if_pos (by omega)]
    · unfold xv_up
      rw [if_neg (fun z => hr z.1)]
      exact p2 r j hr
theorem xm_push {M : xv_M} {H a : RW} {n : Nat} (h : xl_OK M) (hh : HI H n M) (hn : n < 4) (hS : SB 3 a M) (ga : rRW a) : ∃ M', D_X6_copyFrom (xv_P M 40 n) 3 M = some ((), M') ∧ xl_OK M' ∧ HI (hLay H n a) (n + 1) M' ∧ Sm 1 40 M M' ∧ Sm 153 1000 M M' ∧ M'.2.2.2 = M.2.2.2 := by
  obtain ⟨h1, h2, h3⟩ := hh
  have hp := h1 n hn
  have hp' := hp
  unfold Hk at hp'
  obtain ⟨M', d, c⟩ := xm_copy h hp.bk (q := 3) (Or.inl rfl) (by omega)
  have e : ∀ i, xv_P M' 40 i = xv_P M 40 i := fun i => by show M'.2.2.2 40 i = M.2.2.2 40 i; rw [c.2.1]
  refine ⟨M', d, c.1, ⟨fun i hi => by rw [e]; exact h1 i hi, fun i j hi hj => by rw [e, e]; exact h2 i j hi hj, fun i hi => ?_⟩, fun r j q1 q2 => c.2.2.2.2 r j (by omega), fun r j q1 q2 => c.2.2.2.2 r j (by omega), c.2.1⟩
  rw [e]
  by_cases hin : i = n
  · subst hin
    have eq : rEq a (HS (hLay H i a) i) := fun j hj => by
      show (if 870 * i ≤ 870 * i + j ∧ 870 * i + j < 870 * i + 870 then a (870 * i + j - 870 * i) else _) = a j
      rw [if_pos (by omega)]
      congr 1
      omega
    exact ⟨(hS.cp ga.1.1.n ga.1.1.m c).cg eq ga.1.1, ga.cg eq⟩
  · have hi4 : i < 4 := by omega
    obtain ⟨s, g⟩ := h3 i (by omega)
    have eq : rEq (HS H i) (HS (hLay H n a) i) := fun j hj => by
      show (if 870 * n ≤ 870 * i + j ∧ 870 * i + j < 870 * n + 870 then _ else H (870 * i + j)) = H (870 * i + j)
      rw [if_neg (by omega)]
    have hq := h1 i hi4
    have hne : xv_P M 40 i ≠ xv_P M 40 n := fun z => hin (h2 i n hi4 hn z)
    have hd := bk_dis hq.bk hp.bk hne
    have s' : SB (xv_P M 40 i) (HS H i) M' := s.fr g.1.1.n g.1.1.m (fun r j q1 q2 => c.2.2.2.2 r j (by omega))
    exact ⟨s'.cg eq g.1.1, g.cg eq⟩
theorem xe_letR {α β : Type} {a : α} {f : α → β} (R : β → Prop) (P : α → Prop) (ha : P a) (h : ∀ j, P j → R (f j)) : R (xv_let a f) := h a ha
theorem xm_record {M : xv_M} {H a : RW} {k : Nat} (h : xl_OK M) (hk : xv_I M 39 0 = (k : Int)) (hk4 : k ≤ 4) (hh : HI H k M) (hS : SB 3 a M) (ga : rRW a) : ∃ M', D_X1_record 39 3 M = some ((), M') ∧ xl_OK M' ∧ xv_I M' 39 0 = (hCnt k : Int) ∧ HI (hRec H k a) (hCnt k) M' ∧ Sm 1 38 M M' ∧ Sm 153 1000 M M' ∧ ∀ r j, r ≠ 40 → xv_P M' r j = xv_P M r j := by
  unfold D_X1_record
  rw [xg_39_0 h, hk]
  refine xe_letR (fun z => ∃ M', z = some ((), M') ∧ xl_OK M' ∧ xv_I M' 39 0 = (hCnt k : Int) ∧ HI (hRec H k a) (hCnt k) M' ∧ Sm 1 38 M M' ∧ Sm 153 1000 M M' ∧ ∀ r j, r ≠ 40 → xv_P M' r j = xv_P M r j) (fun (j : xv_M → Option (Unit × xv_M)) => ∀ (M1 : xv_M) (H' : RW) (n : Nat), xl_OK M1 → n < 4 → xv_I M1 39 0 = (n : Int) → HI H' n M1 → SB 3 a M1 → ∃ M', j M1 = some ((), M') ∧ xl_OK M' ∧ xv_I M' 39 0 = ((n + 1 : Nat) : Int) ∧ HI (hLay H' n a) (n + 1) M' ∧ Sm 1 38 M1 M' ∧ Sm 153 1000 M1 M' ∧ M'.2.2.2 = M1.2.2.2) ?_ ?_
  · intro M1 H' n hO hn hn0 hhi hS1
    obtain ⟨M2, d2, o2, hh2, s1, s2, p2⟩ := xm_push hO hhi hn hS1 ga
    have hp := hhi.1 n hn
    have hne : ¬ xv_P M1 40 n = 0 := by unfold Hk at hp; omega
    rw [xg_39_1 hO, xg_39_0 hO, hn0, xe_aP (xk_40 hO) (by omega) (by omega) (by decide), Int.toNat_natCast]
    unfold xv_if
    rw [if_neg hne, brcs hO hp.bk, d2, xe_call, xg_39_0 o2, (s1 39 0 (by omega) (by omega)).1, hn0, xu_39_0 o2]
    have s3 : ∀ l u, ¬ (l ≤ 39 ∧ 39 ≤ u) → Sm l u M2 (xv_sI M2 39 0 ((n : Int) + 1)) := fun l u hlu => Sm.sI hlu
    refine ⟨_, rfl, o2, by rw [xe_I_sI, if_pos ⟨rfl, rfl⟩]; omega, hh2.fr (by omega) rfl (s3 _ _ (by omega)), (s1.sub (by omega) (by omega)).tr (s3 _ _ (by omega)), s2.tr (s3 _ _ (by omega)), p2⟩
  · intro j hj
    rw [xe_cmp (by omega) (by omega) (by decide) (by decide)]
    unfold hRec hCnt
    by_cases h4 : k = 4
    · subst h4
      rw [if_neg (by decide), if_pos rfl, if_pos rfl, xr_39 h]
      obtain ⟨P', d, p1, p2⟩ := xm_dropOldest h hh.1
      rw [d, xe_call]
      obtain ⟨M1, hM1⟩ : ∃ M1 : xv_M, M1 = xv_sI (M.1, M.2.1, M.2.2.1, P') 39 0 3 := ⟨_, rfl⟩
      have e40 : ∀ i, xv_P M1 40 i = P' 40 i := fun i => by rw [hM1]; rfl
      have sm : ∀ l u, ¬ (l ≤ 39 ∧ 39 ≤ u) → Sm l u M M1 := fun l u hlu r j q1 q2 => by
        rw [hM1]
        refine ⟨?_, rfl⟩
        rw [xe_I_sI, if_neg (fun z => by omega)]
        rfl
      have o1 : xl_OK M1 := by rw [hM1]; exact ⟨h.1, fun r j hr => (p2 r j hr).trans (h.2 r j hr)⟩
      rw [← hM1]
      have hh1 : HI (hDrop H) 3 M1 := by
        obtain ⟨h1, h2, h3⟩ := hh
        refine ⟨fun i hi => ?_, fun i j' hi hj' hij => ?_, fun i hi => ?_⟩
        · rw [e40, p1 i hi]
          by_cases hc : i = 3
          · rw [if_pos hc]; exact h1 0 (by decide)
          · rw [if_neg hc]; exact h1 (i + 1) (by omega)
        · rw [e40, e40, p1 i hi, p1 j' hj'] at hij
          by_cases hc : i = 3
          · by_cases hd : j' = 3
            · omega
            · rw [if_pos hc, if_neg hd] at hij
              have := h2 0 (j' + 1) (by decide) (by omega) hij
              omega
          · by_cases hd : j' = 3
            · rw [if_neg hc, if_pos hd] at hij
              have := h2 (i + 1) 0 (by omega) (by decide) hij
              omega
            · rw [if_neg hc, if_neg hd] at hij
              have := h2 (i + 1) (j' + 1) (by omega) (by omega) hij
              omega
        · rw [e40, p1 i (by omega), if_neg (by omega)]
          have eq : HS (hDrop H) i = HS H (i + 1) ∨ rEq (HS H (i + 1)) (HS (hDrop H) i) := Or.inr (fun j hj => by
            show (if 870 * i + j < 2610 then H (870 * i + j + 870) else _) = H (870 * (i + 1) + j)
            rw [if_pos (by omega)]
            congr 1
            omega)
          have eq2 : rEq (HS H (i + 1)) (HS (hDrop H) i) := by
            rcases eq with q | q
            · rw [q]; exact fun _ _ => rfl
            · exact q
          obtain ⟨s, g⟩ := h3 (i + 1) (by omega)
          have hq := h1 (i + 1) (by omega)
          unfold Hk at hq
          exact ⟨(s.fr g.1.1.n g.1.1.m (sm _ _ (by omega))).cg eq2 g.1.1, g.cg eq2⟩
      obtain ⟨M', d', o', n', hh', s1, s2, p'⟩ := hj M1 (hDrop H) 3 o1 (by decide) (by rw [hM1]; rfl) hh1 (hS.fr ga.1.1.n ga.1.1.m (sm _ _ (by omega)))
      refine ⟨M', d', o', n', hh', (sm _ _ (by omega)).tr s1, (sm _ _ (by omega)).tr s2, fun r j hr => ?_⟩
      show M'.2.2.2 r j = _
      rw [p', hM1]
      exact p2 r j hr
    · rw [if_pos (by omega), if_neg h4, if_neg h4]
      obtain ⟨M', d', o', n', hh', s1, s2, p'⟩ := hj M H k h (by omega) hk hh hS
      exact ⟨M', d', o', n', hh', s1, s2, fun r j hr => by show M'.2.2.2 r j = _; rw [p']; rfl⟩
