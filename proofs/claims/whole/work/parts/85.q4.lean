/-! ## questions: what covers a place -/
def rCv (a : RW) (x : Int) : Int := (xct (fun s => decide (rCov a s x)) (rn a) : Int)
theorem rCv_b {a : RW} (g : rGd a) {x : Int} : 0 ≤ rCv a x ∧ rCv a x ≤ 60 := by
  have := xct_le (fun s => decide (rCov a s x)) (rn a)
  have := g.n
  unfold rCv
  omega
theorem xct_z {p : Nat → Bool} {n : Nat} : xct p n = 0 ↔ ∀ k, k < n → p k = false := by
  constructor
  · intro h k hk
    cases hp : p k
    · rfl
    · have := (xct_pos (p := p) (n := n)).mpr ⟨k, hk, hp⟩
      omega
  · exact xct_0
theorem xpc_cov (hbc : BC) {M : xv_M} {a : RW} (h : LN a M) (g : rGd a) {x : Int} (hx : 0 ≤ x ∧ x ≤ 1000) {N : xv_M} : D_J13_bitCount_95d88 (xv_J M 32 x.toNat) N = some (rCv a x, N) := by
  have hn := g.n
  rw [hbc]
  unfold rCv
  rw [xpc_n (p := fun s => decide (rCov a s x)) (n := rn a) (by omega) (fun s hs => by
    have := h.2.2.1 x.toNat (by omega) s hs
    rw [Int.toNat_of_nonneg hx.1] at this
    rw [this]
    simp)]
theorem xm_bare {M : xv_M} {a : RW} (h : LN a M) (g : rGd a) {x : Int} (hx : 0 ≤ x ∧ x ≤ 1000) : xv_J M 32 x.toNat = 0 ↔ rCv a x = 0 := by
  have hn := g.n
  have b := fun s hs => h.2.2.1 x.toNat (by omega) s hs
  rw [Int.toNat_of_nonneg hx.1] at b
  have e : rCv a x = 0 ↔ xct (fun s => decide (rCov a s x)) (rn a) = 0 := by unfold rCv; omega
  rw [e, xct_z]
  constructor
  · intro z s hs
    have q := b s (by omega)
    rw [z, xb_0] at q
    have q2 := of_decide_eq_false q.symm
    exact decide_eq_false (fun w => q2 ⟨hs, w⟩)
  · intro z
    refine xb_ext (fun s hs => ?_)
    rw [b s hs, xb_0]
    refine decide_eq_false (fun w => ?_)
    have := z s w.1
    exact (of_decide_eq_false this) w.2
theorem md_covering {M : xv_M} {a : RW} (h : xl_OK M) (e : xv_I M 189 = a) (g : rGd a) {x : Int} (hx : 0 ≤ x ∧ x ≤ 1000) : D_X12_covering 188 x M = some (rCv a x, M) := by
  have hn := g.n
  have en := g.en
  unfold D_X12_covering rCv
  refine xe_loop (n := rn a) (fun k => ((xct (fun s => decide (rCov a s x)) k : Int), (k : Int), M)) rfl (by omega) ?_ ?_
  · intro s hs f
    have ek : ((s : Int) + 1) = ((s + 1 : Nat) : Int) := by omega
    dsimp only
    rw [xg_188_0 h, w_r1 h e, xe_cmp (by omega) (by omega) (by omega) (by omega), if_neg (by omega), xr_188 h, w_cov h e g (by omega) hx, xe_call, xe_let, xe_b0, xct_s, ek]
    by_cases c : rCov a s x
    · rw [if_pos c, if_pos (decide_eq_true c)]
    · rw [if_neg c, if_neg (fun z => c (of_decide_eq_true z))]
  · intro f
    dsimp only
    rw [xg_188_0 h, w_r1 h e, xe_cmp (by omega) (by omega) (by omega) (by omega), if_pos (by omega)]
/-- where c is greatest, from 0 to k: the first -/
def rMx (c : Nat → Int) : Nat → Nat
  | 0 => 0
  | k + 1 => if c (rMx c k) < c (k + 1) then k + 1 else rMx c k
theorem rMx_le {c : Nat → Int} : ∀ k, rMx c k ≤ k
  | 0 => Nat.le_refl _
  | k + 1 => by
    have := rMx_le (c := c) k
    have hs : rMx c (k + 1) = if c (rMx c k) < c (k + 1) then k + 1 else rMx c k := rfl
    rw [hs]
    split <;> omega
abbrev rCn (a : RW) (x : Nat) : Int := rCv a (x : Int)
def rMoV (a : RW) (t : Int) : Int := if t = 0 then (rMx (rCn a) 1000 : Int) else if t = 1 then rCn a (rMx (rCn a) 1000) else (xct (fun x => decide (rCn a x = 0)) 1001 : Int)
def rMoQ (a : RW) (t : Int) : Int := if 0 ≤ t ∧ t ≤ 2 then rMoV a t else -2
theorem xm_fullest (hbc : BC) {M : xv_M} {a : RW} (h : LN a M) (g : rGd a) : D_X0_fullestPlace 31 M = some ((rMx (rCn a) 1000 : Int), M) := by
  have hO := h.1.1
  unfold D_X0_fullestPlace
  refine xe_loop (n := 1000) (fun k => ((rMx (rCn a) k : Int), (k : Int) + 1, M)) rfl (by decide) ?_ ?_
  · intro k hk f
    have ek : ((k : Int) + 1 + 1) = ((k + 1 : Nat) : Int) + 1 := by omega
    have ek2 : ((k : Int) + 1) = ((k + 1 : Nat) : Int) := by omega
    have hle := rMx_le (c := rCn a) k
    have b1 : 0 ≤ rCn a (k + 1) ∧ rCn a (k + 1) ≤ 60 := rCv_b g
    have b2 : 0 ≤ rCn a (rMx (rCn a) k) ∧ rCn a (rMx (rCn a) k) ≤ 60 := rCv_b g
    have e1 : D_J13_bitCount_95d88 (xv_J M 32 (((k + 1 : Nat) : Int)).toNat) M = some (rCn a (k + 1), M) := xpc_cov hbc h g (by omega)
    have e2 : D_J13_bitCount_95d88 (xv_J M 32 (((rMx (rCn a) k : Nat) : Int)).toNat) M = some (rCn a (rMx (rCn a) k), M) := xpc_cov hbc h g (by omega)
    have hs : rMx (rCn a) (k + 1) = if rCn a (rMx (rCn a) k) < rCn a (k + 1) then k + 1 else rMx (rCn a) k := rfl
    dsimp only
    rw [hs, xe_cmp (by omega) (by omega) (by decide) (by decide), if_neg (by omega), xg_31_0 hO, ek2, xa_32 hO (by omega) (by omega), e1, xe_call, xg_31_0 hO, xa_32 hO (by omega) (by omega), e2, xe_call, xe_let, xe_cmp (by omega) (by omega) (by omega) (by omega)]
    by_cases c : rCn a (rMx (rCn a) k) < rCn a (k + 1)
    · rw [if_neg (by omega), if_pos c]
    · rw [if_pos (by omega), if_neg c]
  · intro f
    dsimp only
    rw [xe_cmp (by decide) (by decide) (by decide) (by decide), if_pos (by decide)]
theorem xm_countFree {M : xv_M} {a : RW} (h : LN a M) (g : rGd a) : D_X0_countFree 31 M = some ((xct (fun x => decide (rCn a x = 0)) 1001 : Int), M) := by
  have hO := h.1.1
  unfold D_X0_countFree
  refine xe_loop (n := 1001) (fun k => ((xct (fun x => decide (rCn a x = 0)) k : Int), (k : Int))) rfl (by decide) ?_ ?_
  · intro k hk f
    have ek : ((k : Int) + 1) = ((k + 1 : Nat) : Int) := by omega
    have hb := xm_bare h g (x := (k : Int)) (by omega)
    obtain ⟨l1, l2⟩ := xb_lcr (xv_J M 32 ((k : Int)).toNat) 0
    dsimp only
    rw [xe_cmp (by omega) (by omega) (by decide) (by decide), if_neg (by omega), xg_31_0 hO, xa_32 hO (by omega) (by omega), xe_let, xe_cmp l1 l2 (by decide) (by decide), xct_s, ek]
    by_cases c : rCn a k = 0
    · rw [if_neg (fun z => z (xb_lc0.mpr (hb.mpr c))), if_pos (decide_eq_true c)]
    · rw [if_pos (fun z => c (hb.mp (xb_lc0.mp z))), if_neg (fun z => c (of_decide_eq_true z)), Int.add_zero]
  · intro f
    dsimp only
    rw [xe_cmp (by decide) (by decide) (by decide) (by decide), if_pos (by decide)]
theorem xc_most (hbc : BC) {a H : RW} {k : Nat} {M : xv_M} (h : CLh a H k M) {t : Int} (ht : iR t) : ∃ M', D_X11_most 1 t M = some (rMoQ a t, M') ∧ Scr M M' := by
  refine ⟨M, ?_, Scr.rf⟩
  have hO := h.1.1.1
  have g := h.2.1.1.1
  have hle := rMx_le (c := rCn a) 1000
  unfold D_X11_most rMoQ
  rw [xe_g (xe_inb ht.1 ht.2)]
  by_cases c : 0 ≤ t ∧ t ≤ 2
  · rw [if_pos c]
    unfold rMoV
    have hc : t = 0 ∨ t = 1 ∨ t = 2 := by omega
    rcases hc with rfl | rfl | rfl
    · rw [xi_t rfl, if_pos rfl, xg_1_0 hO, xg_2_1 hO, xr_31 hO, xm_fullest hbc h.1 g, xe_call]
    · rw [xi_f (by decide), xi_t rfl, if_neg (by decide), if_pos rfl, xg_1_0 hO, xg_2_1 hO, xg_1_0 hO, xg_2_1 hO, xr_31 hO, xm_fullest hbc h.1 g, xe_call, xr_31 hO, xm_over hO (by omega), xe_call, xpc_cov hbc h.1 g (by omega), xe_call]
    · rw [xi_f (by decide), xi_f (by decide), xi_t rfl, if_neg (by decide), if_neg (by decide), xg_1_0 hO, xg_2_1 hO, xr_31 hO, xm_countFree h.1 g, xe_call]
  · rw [if_neg c, xi_f (by omega), xi_f (by omega), xi_f (by omega)]
theorem md_most {M : xv_M} {a : RW} (h : xl_OK M) (gr : rRW a) (e : xv_I M 189 = a) {t : Int} (ht : iR t) : ∃ M', D_X12_most 188 t M = some (rMoQ a t, M') ∧ Scr M M' := by
  refine ⟨M, ?_, Scr.rf⟩
  have g := gr.1.1
  unfold D_X12_most rMoQ
  rw [md_in ht (by decide) (by decide), xe_call, xe_b1]
  by_cases c : 0 ≤ t ∧ t ≤ 2
  · rw [if_pos c, if_pos c]
    refine xe_loop (n := 1001) (fun k => match k with
      | 0 => ((0 : Int), (-1 : Int), (0 : Int), (0 : Int), M)
      | k + 1 => ((rMx (rCn a) k : Int), rCn a (rMx (rCn a) k), (xct (fun x => decide (rCn a x = 0)) (k + 1) : Int), ((k + 1 : Nat) : Int), M)) rfl (by decide) ?_ ?_
    · intro k hk f
      have b : 0 ≤ rCn a k ∧ rCn a k ≤ 60 := rCv_b g
      have ek : ((k : Int) + 1) = ((k + 1 : Nat) : Int) := by omega
      have hcv : D_X12_covering 188 (k : Int) M = some (rCn a k, M) := md_covering h e g (by omega)
      have fin : ∀ (z1 z2 : Int) (f : Int × Int → Option (Int × xv_M)), (if rCn a k ≠ 0 then f (z1, 0) else f (z1, 1)) = f (z1, if decide (rCn a k = 0) = true then 1 else 0) := fun z1 z2 f => by
        by_cases c0 : rCn a k = 0
        · rw [if_neg (fun z => z c0), if_pos (decide_eq_true c0)]
        · rw [if_pos c0, if_neg (fun z => c0 (of_decide_eq_true z))]
      cases k with
      | zero =>
        have z0 : (((0 : Nat)) : Int) = 0 := rfl
        rw [z0] at hcv
        dsimp only
        rw [xe_cmp (by decide) (by decide) (by decide) (by decide), if_neg (by decide), xr_188 h, hcv, xe_call]
        refine xe_letp (fun j => j (0, rCn a 0) = f (((rMx (rCn a) 0 : Nat) : Int), rCn a (rMx (rCn a) 0), (xct (fun x => decide (rCn a x = 0)) (0 + 1) : Int), ((0 + 1 : Nat) : Int), M)) ?_ (fun j hj => ?_)
        · refine xe_letp (fun j => j (0, if decide (rCn a 0 = 0) = true then 1 else 0) = f (((rMx (rCn a) 0 : Nat) : Int), rCn a (rMx (rCn a) 0), (xct (fun x => decide (rCn a x = 0)) (0 + 1) : Int), ((0 + 1 : Nat) : Int), M)) ?_ (fun j hj => ?_)
          · rw [xct_s]
            rfl
          · rw [xe_cmp (by omega) (by omega) (by decide) (by decide), fin 0 0 j, hj]
        · rw [xe_cmp (by omega) (by omega) (by decide) (by decide), if_neg (by omega), hj]
      | succ k =>
        have b2 : 0 ≤ rCn a (rMx (rCn a) k) ∧ rCn a (rMx (rCn a) k) ≤ 60 := rCv_b g
        have hs : rMx (rCn a) (k + 1) = if rCn a (rMx (rCn a) k) < rCn a (k + 1) then k + 1 else rMx (rCn a) k := rfl
        dsimp only
        rw [xe_cmp (by omega) (by omega) (by decide) (by decide), if_neg (by omega), xr_188 h, hcv, xe_call]
        refine xe_letp (fun j => j ((rMx (rCn a) (k + 1) : Int), rCn a (rMx (rCn a) (k + 1))) = f ((rMx (rCn a) (k + 1) : Int), rCn a (rMx (rCn a) (k + 1)), (xct (fun x => decide (rCn a x = 0)) (k + 1 + 1) : Int), ((k + 1 + 1 : Nat) : Int), M)) ?_ (fun j hj => ?_)
        · refine xe_letp (fun j => j ((xct (fun x => decide (rCn a x = 0)) (k + 1) : Int), if decide (rCn a (k + 1) = 0) = true then 1 else 0) = f ((rMx (rCn a) (k + 1) : Int), rCn a (rMx (rCn a) (k + 1)), (xct (fun x => decide (rCn a x = 0)) (k + 1 + 1) : Int), ((k + 1 + 1 : Nat) : Int), M)) ?_ (fun j hj => ?_)
          · rw [xct_s (n := k + 1), ek]
          · rw [xe_cmp (by omega) (by omega) (by decide) (by decide), fin _ 0 j, hj]
        · rw [xe_cmp (by omega) (by omega) (by omega) (by omega)]
          by_cases c2 : rCn a (rMx (rCn a) k) < rCn a (k + 1)
          · rw [if_pos c2] at hs
            rw [hs] at hj
            rw [if_neg (by omega), hs, hj]
          · rw [if_neg c2] at hs
            rw [hs] at hj
            rw [if_pos (by omega), hs, hj]
    · intro f
      dsimp only
      rw [xe_cmp (by decide) (by decide) (by decide) (by decide), if_pos (by decide)]
      unfold rMoV
      have hc : t = 0 ∨ t = 1 ∨ t = 2 := by omega
      rcases hc with rfl | rfl | rfl
      · rw [xe_cmp (by decide) (by decide) (by decide) (by decide), if_neg (by decide), if_pos rfl]
      · rw [xe_cmp (by decide) (by decide) (by decide) (by decide), if_pos (by decide), xe_cmp (by decide) (by decide) (by decide) (by decide), if_neg (by decide), if_neg (by decide), if_pos rfl]
      · rw [xe_cmp (by decide) (by decide) (by decide) (by decide), if_pos (by decide), xe_cmp (by decide) (by decide) (by decide) (by decide), if_pos (by decide), if_neg (by decide), if_neg (by decide)]
  · rw [if_neg c, if_neg c]
theorem ok_most (hbc : BC) {M : xv_M} (hi : INV M) {t : Int} (ht : iR t) : ok2 (D_X11_most 1 t) (D_X12_most 188 t) M := ok_q hi (A := fun a => rMoQ a t) (fun a H k c => xc_most hbc c ht) (fun M a h g e => md_most h g e ht)
/-! the nearest free place -/
def rFr (c : Int → Int) (d : Int) : Nat → Int → Int
  | 0, _ => -5
  | n + 1, x => if c x = 0 then x else rFr c d n (x + d)
def rFrQ (a : RW) (x t : Int) : Int := if 0 ≤ x ∧ x ≤ 1000 then (if t = 0 then rFr (rCv a) (-1) (x + 1).toNat x else rFr (rCv a) 1 (1001 - x).toNat x) else -2
theorem xm_right {M : xv_M} {a : RW} (h : LN a M) (g : rGd a) {x : Int} (hx : 0 ≤ x ∧ x ≤ 1000) : D_X0_freeToTheRight 31 x M = some (rFr (rCv a) 1 (1001 - x).toNat x, M) := by
  have hO := h.1.1
  unfold D_X0_freeToTheRight xv_max
  rw [if_pos ⟨xe_inb (by omega) (by omega), xe_inb (by decide) (by decide)⟩]
  have ex : (if x < 0 then (0 : Int) else x) = x := if_neg (by omega)
  rw [ex]
  refine xe_invx0 (I := fun (k : Nat) (s : Int) => s = x + (k : Int) ∧ rFr (rCv a) 1 (1001 - x).toNat x = rFr (rCv a) 1 ((1001 - x).toNat - k) s) (n := (1001 - x).toNat) (P := fun z => z = some (rFr (rCv a) 1 (1001 - x).toNat x, M)) (by omega) ⟨by omega, rfl⟩ ?_ ?_
  · rintro k s hk ⟨h1, h2⟩
    have e6 : (1001 - x).toNat - k = ((1001 - x).toNat - (k + 1)) + 1 := by omega
    have h6 : rFr (rCv a) 1 ((1001 - x).toNat - k) s = if rCv a s = 0 then s else rFr (rCv a) 1 ((1001 - x).toNat - (k + 1)) (s + 1) := by rw [e6]; rfl
    rw [h6] at h2
    have hs : 0 ≤ s ∧ s ≤ 1000 := by omega
    have hb := xm_bare h g hs
    obtain ⟨l1, l2⟩ := xb_lcr (xv_J M 32 s.toNat) 0
    by_cases c : rCv a s = 0
    · rw [if_pos c] at h2
      refine Or.inr (fun f => ?_)
      rw [xe_cmp (by omega) (by omega) (by decide) (by decide), if_neg (by omega), xg_31_0 hO, xa_32 hO (by omega) (by omega), xe_cmp l1 l2 (by decide) (by decide), if_neg (fun z => z (xb_lc0.mpr (hb.mpr c))), h2]
    · rw [if_neg c] at h2
      refine Or.inl ⟨s + 1, ⟨by omega, h2⟩, fun f => ?_⟩
      rw [xe_cmp (by omega) (by omega) (by decide) (by decide), if_neg (by omega), xg_31_0 hO, xa_32 hO (by omega) (by omega), xe_cmp l1 l2 (by decide) (by decide), if_pos (fun z => c (hb.mp (xb_lc0.mp z)))]
  · rintro s ⟨h1, h2⟩ f
    rw [xe_cmp (by omega) (by omega) (by decide) (by decide), if_pos (by omega), h2, Nat.sub_self]
    rfl
theorem xm_leftw {M : xv_M} {a : RW} (h : LN a M) (g : rGd a) {x : Int} (hx : 0 ≤ x ∧ x ≤ 1000) : D_X0_freeToTheLeft 31 x M = some (rFr (rCv a) (-1) (x + 1).toNat x, M) := by
  have hO := h.1.1
  unfold D_X0_freeToTheLeft xv_min
  rw [if_pos ⟨xe_inb (by omega) (by omega), xe_inb (by decide) (by decide)⟩]
  have ex : (if 1000 < x then (1000 : Int) else x) = x := if_neg (by omega)
  rw [ex]
  refine xe_invx0 (I := fun (k : Nat) (s : Int) => s = x - (k : Int) ∧ rFr (rCv a) (-1) (x + 1).toNat x = rFr (rCv a) (-1) ((x + 1).toNat - k) s) (n := (x + 1).toNat) (P := fun z => z = some (rFr (rCv a) (-1) (x + 1).toNat x, M)) (by omega) ⟨by omega, rfl⟩ ?_ ?_
  · rintro k s hk ⟨h1, h2⟩
    have e6 : (x + 1).toNat - k = ((x + 1).toNat - (k + 1)) + 1 := by omega
    have h6 : rFr (rCv a) (-1) ((x + 1).toNat - k) s = if rCv a s = 0 then s else rFr (rCv a) (-1) ((x + 1).toNat - (k + 1)) (s + -1) := by rw [e6]; rfl
    rw [h6] at h2
    have hs : 0 ≤ s ∧ s ≤ 1000 := by omega
    have hb := xm_bare h g hs
    obtain ⟨l1, l2⟩ := xb_lcr (xv_J M 32 s.toNat) 0
    by_cases c : rCv a s = 0
    · rw [if_pos c] at h2
      refine Or.inr (fun f => ?_)
      rw [xe_cmp (by omega) (by omega) (by decide) (by decide), if_neg (by omega), xg_31_0 hO, xa_32 hO (by omega) (by omega), xe_cmp l1 l2 (by decide) (by decide), if_neg (fun z => z (xb_lc0.mpr (hb.mpr c))), h2]
    · rw [if_neg c] at h2
      refine Or.inl ⟨s + -1, ⟨by omega, h2⟩, fun f => ?_⟩
      rw [xe_cmp (by omega) (by omega) (by decide) (by decide), if_neg (by omega), xg_31_0 hO, xa_32 hO (by omega) (by omega), xe_cmp l1 l2 (by decide) (by decide), if_pos (fun z => c (hb.mp (xb_lc0.mp z)))]
  · rintro s ⟨h1, h2⟩ f
    rw [xe_cmp (by omega) (by omega) (by decide) (by decide), if_pos (by omega), h2, Nat.sub_self]
    rfl
theorem xc_free {a H : RW} {k : Nat} {M : xv_M} (h : CLh a H k M) {x t : Int} (hx : iR x) (ht : iR t) : ∃ M', D_X11_free 1 x t M = some (rFrQ a x t, M') ∧ Scr M M' := by
  refine ⟨M, ?_, Scr.rf⟩
  have hO := h.1.1.1
  have g := h.2.1.1.1
  unfold D_X11_free rFrQ
  rw [xm_isPlace hx, xe_call, xe_b1]
  by_cases c : 0 ≤ x ∧ x ≤ 1000
  · rw [if_pos c, if_pos c, xe_cmp ht.1 ht.2 (by decide) (by decide)]
    by_cases c2 : t = 0
    · rw [if_pos c2, if_pos c2, xg_1_0 hO, xg_2_1 hO, xr_31 hO, xm_leftw h.1 g c, xe_call]
    · rw [if_neg c2, if_neg c2, xg_1_0 hO, xg_2_1 hO, xr_31 hO, xm_right h.1 g c, xe_call]
  · rw [if_neg c, if_neg c]
theorem md_free {M : xv_M} {a : RW} (h : xl_OK M) (gr : rRW a) (e : xv_I M 189 = a) {x t : Int} (hx : iR x) (ht : iR t) : ∃ M', D_X12_free 188 x t M = some (rFrQ a x t, M') ∧ Scr M M' := by
  refine ⟨M, ?_, Scr.rf⟩
  have g := gr.1.1
  unfold D_X12_free rFrQ
  rw [md_in hx (by decide) (by decide), xe_call, xe_b1]
  by_cases c : 0 ≤ x ∧ x ≤ 1000
  · rw [if_pos c, if_pos c]
    obtain ⟨d, hd⟩ : ∃ d : Int, d = if t = 0 then -1 else 1 := ⟨_, rfl⟩
    obtain ⟨n, hn⟩ : ∃ n : Nat, n = if t = 0 then (x + 1).toNat else (1001 - x).toNat := ⟨_, rfl⟩
    have eR : (if t = 0 then rFr (rCv a) (-1) (x + 1).toNat x else rFr (rCv a) 1 (1001 - x).toNat x) = rFr (rCv a) d n x := by
      by_cases c2 : t = 0
      · rw [if_pos c2] at hd hn ⊢
        rw [hd, hn]
      · rw [if_neg c2] at hd hn ⊢
        rw [hd, hn]
    rw [eR]
    have hdn : (t = 0 ∧ d = -1 ∧ n = (x + 1).toNat) ∨ (t ≠ 0 ∧ d = 1 ∧ n = (1001 - x).toNat) := by
      by_cases c2 : t = 0
      · rw [if_pos c2] at hd hn
        exact Or.inl ⟨c2, hd, hn⟩
      · rw [if_neg c2] at hd hn
        exact Or.inr ⟨c2, hd, hn⟩
    refine xe_invx0 (I := fun (k : Nat) (s : Int × xv_M) => s.1 = x + d * (k : Int) ∧ s.2 = M ∧ rFr (rCv a) d n x = rFr (rCv a) d (n - k) s.1) (n := n) (P := fun z => z = some (rFr (rCv a) d n x, M)) (by omega) ⟨by dsimp only; omega, rfl, rfl⟩ ?_ ?_
    · rintro k ⟨s, N⟩ hk ⟨h1, h3, h2⟩
      dsimp only at h1 h2 h3 ⊢
      subst h3
      have e6 : n - k = (n - (k + 1)) + 1 := by omega
      have h6 : rFr (rCv a) d (n - k) s = if rCv a s = 0 then s else rFr (rCv a) d (n - (k + 1)) (s + d) := by rw [e6]; rfl
      rw [h6] at h2
      have hs : 0 ≤ s ∧ s ≤ 1000 := by
        rcases hdn with ⟨_, q1, q2⟩ | ⟨_, q1, q2⟩
        · subst q1; omega
        · subst q1; omega
      have b := rCv_b g (x := s)
      by_cases c3 : rCv a s = 0
      · rw [if_pos c3] at h2
        refine Or.inr (fun f => ?_)
        rw [md_in (by omega) (by decide) (by decide), xe_call, xe_let, xe_b0, if_pos hs, xr_188 h, md_covering h e g hs, xe_call, xe_cmp (by omega) (by omega) (by decide) (by decide), if_pos (by omega)]
        dsimp only
        rw [md_in (by omega) (by decide) (by decide), xe_call, xe_b0, if_pos hs, h2]
      · rw [if_neg c3] at h2
        refine Or.inl ⟨(s + d, N), ⟨?_, rfl, h2⟩, fun f => ?_⟩
        · dsimp only
          rcases hdn with ⟨_, q1, q2⟩ | ⟨_, q1, q2⟩
          · subst q1; omega
          · subst q1; omega
        · rw [md_in (by omega) (by decide) (by decide), xe_call, xe_let, xe_b0, if_pos hs, xr_188 h, md_covering h e g hs, xe_call, xe_cmp (by omega) (by omega) (by decide) (by decide), if_neg (by omega), xe_let, xe_cmp ht.1 ht.2 (by decide) (by decide)]
          rcases hdn with ⟨q0, q1, q2⟩ | ⟨q0, q1, q2⟩
          · rw [if_pos q0, q1]
          · rw [if_neg q0, q1]
    · rintro ⟨s, N⟩ ⟨h1, h3, h2⟩ f
      dsimp only at h1 h2 h3 ⊢
      subst h3
      have hs : ¬ (0 ≤ s ∧ s ≤ 1000) := by
        rcases hdn with ⟨_, q1, q2⟩ | ⟨_, q1, q2⟩
        · subst q1; omega
        · subst q1; omega
      have hs2 : iR s := by
        rcases hdn with ⟨_, q1, q2⟩ | ⟨_, q1, q2⟩
        · subst q1; unfold iR; omega
        · subst q1; unfold iR; omega
      rw [md_in hs2 (by decide) (by decide), xe_call, xe_let, xe_b0, if_neg hs]
      dsimp only
      rw [md_in hs2 (by decide) (by decide), xe_call, xe_b0, if_neg hs, h2, Nat.sub_self]
      rfl
  · rw [if_neg c, if_neg c]
theorem ok_free {M : xv_M} (hi : INV M) {x t : Int} (hx : iR x) (ht : iR t) : ok2 (D_X11_free 1 x t) (D_X12_free 188 x t) M := ok_q hi (A := fun a => rFrQ a x t) (fun a H k c => xc_free c hx ht) (fun M a h g e => md_free h g e hx ht)
/-! which of those that cover -/
def rCh (a : RW) (x fw : Int) : Nat → Int
  | 0 => -5
  | k + 1 => if rCov a k x ∧ (rCh a x fw k = -5 ∨ (fw ≠ 0 ∧ rG a k - rF a k < rG a (rCh a x fw k).toNat - rF a (rCh a x fw k).toNat)) then (k : Int) else rCh a x fw k
theorem rCh_ok {a : RW} {x fw : Int} : ∀ k, rCh a x fw k = -5 ∨ (0 ≤ rCh a x fw k ∧ rCh a x fw k < (k : Int) ∧ rCov a (rCh a x fw k).toNat x)
  | 0 => Or.inl rfl
  | k + 1 => by
    have ih := rCh_ok (a := a) (x := x) (fw := fw) k
    have hs : rCh a x fw (k + 1) = if rCov a k x ∧ (rCh a x fw k = -5 ∨ (fw ≠ 0 ∧ rG a k - rF a k < rG a (rCh a x fw k).toNat - rF a (rCh a x fw k).toNat)) then (k : Int) else rCh a x fw k := rfl
    rw [hs]
    split
    · rename_i c
      rw [Int.toNat_natCast]
      exact Or.inr ⟨by omega, by omega, c.1⟩
    · rcases ih with ih | ih
      · exact Or.inl ih
      · exact Or.inr ⟨ih.1, by omega, ih.2.2⟩
theorem rMem_app {p : Nat → Bool} : ∀ n k, rMem p (n + 1) k 0 = if rMem p n k 0 = -5 then (if p (k + n) = true then ((k + n : Nat) : Int) else -5) else rMem p n k 0
  | 0, k => by
    show (if p k = true then (if (0 : Int) = 0 then (k : Int) else _) else (-5 : Int)) = if (-5 : Int) = -5 then _ else _
    rw [if_pos rfl, if_pos rfl]
    rfl
  | n + 1, k => by
    have ih := rMem_app (p := p) n (k + 1)
    have e1 : rMem p (n + 1 + 1) k 0 = if p k = true then (k : Int) else rMem p (n + 1) (k + 1) 0 := rfl
    have e2 : rMem p (n + 1) k 0 = if p k = true then (k : Int) else rMem p n (k + 1) 0 := rfl
    rw [e1, e2, ih]
    by_cases c : p k = true
    · rw [if_pos c, if_pos c, if_neg (by omega)]
    · rw [if_neg c, if_neg c, show k + 1 + n = k + (n + 1) by omega]
theorem rCh_mem {a : RW} {x : Int} : ∀ n, rCh a x 0 n = rMem (fun s => decide (rCov a s x)) n 0 0
  | 0 => rfl
  | n + 1 => by
    have ih := rCh_mem (a := a) (x := x) n
    have hs : rCh a x 0 (n + 1) = if rCov a n x ∧ (rCh a x 0 n = -5 ∨ ((0 : Int) ≠ 0 ∧ rG a n - rF a n < rG a (rCh a x 0 n).toNat - rF a (rCh a x 0 n).toNat)) then (n : Int) else rCh a x 0 n := rfl
    rw [hs, rMem_app, Nat.zero_add, ← ih]
    by_cases c : rCh a x 0 n = -5
    · rw [if_pos c]
      by_cases c2 : rCov a n x
      · rw [if_pos ⟨c2, Or.inl c⟩, if_pos (decide_eq_true c2)]
      · rw [if_neg (fun z => c2 z.1), if_neg (fun z => c2 (of_decide_eq_true z)), c]
    · rw [if_neg c, if_neg (fun z => by rcases z.2 with z | z; exact c z; exact z.1 rfl)]
theorem xm_shortest {M : xv_M} {a : RW} (h : LN a M) (g : rRW a) {x : Int} (hx : 0 ≤ x ∧ x ≤ 1000) : D_X5_shortestOf 4 (xv_J M 32 x.toNat) M = some (rCh a x 1 (rn a), M) := by
  have hO := h.1.1
  have hn := g.1.1.n
  have en := g.1.1.en
  have hz : xv_I M 4 0 = a 1 := h.1.2.2.1.1
  unfold D_X5_shortestOf
  refine xe_loop (n := rn a) (fun k => (rCh a x 1 k, (if rCh a x 1 k = -5 then 1002 else rG a (rCh a x 1 k).toNat - rF a (rCh a x 1 k).toNat + 1), (k : Int), M)) rfl (by omega) ?_ ?_
  · intro s hs f
    have ek : ((s : Int) + 1) = ((s + 1 : Nat) : Int) := by omega
    have hb := h.2.2.1 x.toNat (by omega) s (by omega)
    rw [Int.toNat_of_nonneg hx.1] at hb
    have hk := rCh_ok (a := a) (x := x) (fw := 1) s
    obtain ⟨r, hr⟩ : ∃ r : Int, r = rCh a x 1 s := ⟨_, rfl⟩
    have hsr : rCh a x 1 (s + 1) = if rCov a s x ∧ (r = -5 ∨ ((1 : Int) ≠ 0 ∧ rG a s - rF a s < rG a r.toNat - rF a r.toNat)) then (s : Int) else r := by rw [hr]; rfl
    obtain ⟨_, _, r3, r4, _, _⟩ := h.1.2.2.1.2.2.1 s hs
    have r3' : xv_I M 7 s = rF a s := r3
    have r4' : xv_I M 8 s = rG a s := r4
    rw [hsr]
    dsimp only
    rw [← hr] at hk ⊢
    rw [xg_4_0 hO, hz, xe_cmp (by omega) (by omega) (by omega) (by omega), if_neg (by omega), xg_4_5 hO, xa_8 hO (by omega) (by omega), Int.toNat_natCast, r4', xg_4_4 hO, xa_7 hO (by omega) (by omega), Int.toNat_natCast, r3', xm_isMember (by omega), xe_call, xe_let, xe_b0, hb, ek]
    by_cases c : rCov a s x
    · have hp := g.1.2.1.pl s hs c.1
      have hp2 : 0 ≤ rF a s ∧ rF a s ≤ rG a s ∧ rG a s ≤ 1000 := hp
      rw [if_pos (decide_eq_true ⟨hs, c⟩)]
      by_cases c2 : r = -5
      · rw [if_pos c2, xe_cmp (by omega) (by omega) (by omega) (by omega), if_neg (by omega), if_pos ⟨c, Or.inl c2⟩, if_neg (by omega), Int.toNat_natCast]
      · have hk2 : 0 ≤ r ∧ r < (s : Int) ∧ rCov a r.toNat x := by
          rcases hk with hk | hk
          · exact absurd hk c2
          · exact hk
        have hq : 0 ≤ rF a r.toNat ∧ rF a r.toNat ≤ rG a r.toNat ∧ rG a r.toNat ≤ 1000 := g.1.2.1.pl r.toNat (by omega) hk2.2.2.1
        rw [if_neg c2, xe_cmp (by omega) (by omega) (by omega) (by omega)]
        by_cases c3 : rG a s - rF a s < rG a r.toNat - rF a r.toNat
        · rw [if_neg (by omega), if_pos ⟨c, Or.inr ⟨by decide, c3⟩⟩, if_neg (by omega), Int.toNat_natCast]
        · rw [if_pos (by omega), if_neg (show ¬ (rCov a s x ∧ (r = -5 ∨ ((1 : Int) ≠ 0 ∧ rG a s - rF a s < rG a r.toNat - rF a r.toNat))) from fun z => by rcases z.2 with z | z; exact c2 z; exact c3 z.2), if_neg c2]
    · rw [if_neg (fun z => c (of_decide_eq_true z).2), if_neg (show ¬ (rCov a s x ∧ (r = -5 ∨ ((1 : Int) ≠ 0 ∧ rG a s - rF a s < rG a r.toNat - rF a r.toNat))) from fun z => c z.1)]
  · intro f
    dsimp only
    rw [xg_4_0 hO, hz, xe_cmp (by omega) (by omega) (by omega) (by omega), if_pos (by omega)]
theorem md_chosen {M : xv_M} {a : RW} (h : xl_OK M) (e : xv_I M 189 = a) (g : rRW a) {x : Int} (hx : 0 ≤ x ∧ x ≤ 1000) {fw : Int} (hf : fw = 0 ∨ fw = 1) : D_X12_chosen 188 x fw M = some (rCh a x fw (rn a), M) := by
  have hn := g.1.1.n
  have en := g.1.1.en
  unfold D_X12_chosen
  refine xe_loop (n := rn a) (fun k => (rCh a x fw k, (k : Int), M)) rfl (by omega) ?_ ?_
  · intro s hs f
    have ek : ((s : Int) + 1) = ((s + 1 : Nat) : Int) := by omega
    have hk := rCh_ok (a := a) (x := x) (fw := fw) s
    obtain ⟨r, hr⟩ : ∃ r : Int, r = rCh a x fw s := ⟨_, rfl⟩
    have hsr : rCh a x fw (s + 1) = if rCov a s x ∧ (r = -5 ∨ (fw ≠ 0 ∧ rG a s - rF a s < rG a r.toNat - rF a r.toNat)) then (s : Int) else r := by rw [hr]; rfl
    rw [hsr]
    dsimp only
    rw [← hr] at hk ⊢
    rw [xg_188_0 h, w_r1 h e, xe_cmp (by omega) (by omega) (by omega) (by omega), if_neg (by omega), xr_188 h, w_cov h e g.1.1 (by omega) hx, xe_call]
    refine xe_letp (fun j => j (if rCov a s x ∧ (r = -5 ∨ (fw ≠ 0 ∧ rG a s - rF a s < rG a r.toNat - rF a r.toNat)) then (s : Int) else r, M) = f (if rCov a s x ∧ (r = -5 ∨ (fw ≠ 0 ∧ rG a s - rF a s < rG a r.toNat - rF a r.toNat)) then (s : Int) else r, ((s + 1 : Nat) : Int), M)) ?_ (fun j hj => ?_)
    · rw [ek]
    · rw [xe_b0]
      by_cases c : rCov a s x
      · rw [if_pos c, xe_let, xe_cmp (by omega) (by omega) (by decide) (by decide)]
        by_cases c2 : r = -5
        · rw [if_pos ⟨c, Or.inl c2⟩] at hj
          rw [if_pos c2]
          dsimp only
          rw [hj, if_pos ⟨c, Or.inl c2⟩]
        · rw [if_neg c2, xe_cmp (by omega) (by omega) (by decide) (by decide)]
          by_cases c3 : fw = 0
          · have cn : ¬ (rCov a s x ∧ (r = -5 ∨ (fw ≠ 0 ∧ rG a s - rF a s < rG a r.toNat - rF a r.toNat))) := fun z => by
              rcases z.2 with z | z
              · exact c2 z
              · exact z.1 c3
            rw [if_neg cn] at hj
            rw [if_pos c3, hj, if_neg cn]
          · have hk2 : 0 ≤ r ∧ r < (s : Int) ∧ rCov a r.toNat x := by
              rcases hk with hk | hk
              · exact absurd hk c2
              · exact hk
            obtain ⟨q, hq⟩ : ∃ q : Nat, r = (q : Int) := ⟨r.toNat, by omega⟩
            have hp : 0 ≤ rF a s ∧ rF a s ≤ rG a s ∧ rG a s ≤ 1000 := g.1.2.1.pl s hs c.1
            rw [hq, Int.toNat_natCast] at hk2
            have hp2 : 0 ≤ rF a q ∧ rF a q ≤ rG a q ∧ rG a q ≤ 1000 := g.1.2.1.pl q (by omega) hk2.2.2.1
            rw [hq, Int.toNat_natCast] at hj ⊢
            have u1 : D_X12_of 188 (s : Int) 3 M = some (rG a s, M) := w_of3 h e (by omega)
            have u2 : D_X12_of 188 (s : Int) 2 M = some (rF a s, M) := w_of2 h e (by omega)
            have u3 : D_X12_of 188 (q : Int) 3 M = some (rG a q, M) := w_of3 h e (by omega)
            have u4 : D_X12_of 188 (q : Int) 2 M = some (rF a q, M) := w_of2 h e (by omega)
            rw [if_neg c3, xr_188 h, u1, xe_call, xr_188 h, u2, xe_call, xr_188 h, u3, xe_call, xr_188 h, u4, xe_call, xe_cmp (by omega) (by omega) (by omega) (by omega)]
            by_cases c4 : rG a s - rF a s < rG a q - rF a q
            · have cy : rCov a s x ∧ ((q : Int) = -5 ∨ (fw ≠ 0 ∧ rG a s - rF a s < rG a q - rF a q)) := ⟨c, Or.inr ⟨c3, c4⟩⟩
              rw [if_pos cy] at hj
              rw [if_neg (by omega)]
              dsimp only
              rw [hj, if_pos cy]
            · have cn : ¬ (rCov a s x ∧ ((q : Int) = -5 ∨ (fw ≠ 0 ∧ rG a s - rF a s < rG a q - rF a q))) := fun z => by
                rcases z.2 with z | z
                · omega
                · exact c4 z.2
              rw [if_neg cn] at hj
              rw [if_pos (by omega), hj, if_neg cn]
      · have cn : ¬ (rCov a s x ∧ (r = -5 ∨ (fw ≠ 0 ∧ rG a s - rF a s < rG a r.toNat - rF a r.toNat))) := fun z => c z.1
        rw [if_neg cn] at hj
        rw [if_neg c, hj, if_neg cn]
  · intro f
    dsimp only
    rw [xg_188_0 h, w_r1 h e, xe_cmp (by omega) (by omega) (by omega) (by omega), if_pos (by omega)]
