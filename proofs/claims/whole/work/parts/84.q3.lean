/-! ## questions: the spans that a walker is inside of, one by one; the log -/
def rMem (p : Nat → Bool) : Nat → Nat → Int → Int
  | 0, _, _ => -5
  | n + 1, k, l => if p k = true then (if l = 0 then (k : Int) else rMem p n (k + 1) (l - 1)) else rMem p n (k + 1) l
theorem rMem_0 {p : Nat → Bool} : ∀ n k l, (∀ s, k ≤ s → p s = false) → rMem p n k l = -5
  | 0, _, _, _ => rfl
  | n + 1, k, l, h => by
    show (if p k = true then _ else _) = _
    rw [if_neg (by rw [h k (Nat.le_refl _)]; decide)]
    exact rMem_0 n (k + 1) l (fun s hs => h s (by omega))
theorem rMem_up {p : Nat → Bool} {d : Nat} : ∀ n k l, (∀ s, k + n ≤ s → p s = false) → rMem p (n + d) k l = rMem p n k l
  | 0, k, l, h => by
    rw [Nat.zero_add]
    exact rMem_0 d k l (fun s hs => h s (by omega))
  | n + 1, k, l, h => by
    rw [show n + 1 + d = (n + d) + 1 by omega]
    show (if p k = true then (if l = 0 then (k : Int) else rMem p (n + d) (k + 1) (l - 1)) else rMem p (n + d) (k + 1) l) = (if p k = true then (if l = 0 then (k : Int) else rMem p n (k + 1) (l - 1)) else rMem p n (k + 1) l)
    rw [rMem_up n (k + 1) (l - 1) (fun s hs => h s (by omega)), rMem_up n (k + 1) l (fun s hs => h s (by omega))]
theorem rMem_cg {p q : Nat → Bool} : ∀ n k l, (∀ s, k ≤ s → s < k + n → p s = q s) → rMem p n k l = rMem q n k l
  | 0, _, _, _ => rfl
  | n + 1, k, l, h => by
    show (if p k = true then (if l = 0 then (k : Int) else rMem p n (k + 1) (l - 1)) else rMem p n (k + 1) l) = (if q k = true then (if l = 0 then (k : Int) else rMem q n (k + 1) (l - 1)) else rMem q n (k + 1) l)
    rw [h k (Nat.le_refl _) (by omega), rMem_cg n (k + 1) (l - 1) (fun s h1 h2 => h s (by omega) (by omega)), rMem_cg n (k + 1) l (fun s h1 h2 => h s (by omega) (by omega))]
theorem xm_memberAt {v : Int64} {l : Int} (hl : 0 ≤ l ∧ l ≤ 2147483647) {M : xv_M} : D_X11_memberAt v l M = some (rMem (fun s => xb v s) 60 0 l, M) := by
  unfold D_X11_memberAt
  refine xe_invx0 (I := fun (k : Nat) (s : Int × Int × xv_M) => 0 ≤ s.1 ∧ s.1 ≤ (k : Int) ∧ s.1 ≤ l ∧ s.2.1 = (k : Int) ∧ s.2.2 = M ∧ rMem (fun s => xb v s) 60 0 l = rMem (fun s => xb v s) (60 - k) k (l - s.1)) (n := 60) (P := fun z => z = some (rMem (fun s => xb v s) 60 0 l, M)) (by decide) ⟨Int.le_refl 0, Int.le_refl 0, hl.1, rfl, rfl, by rw [Int.sub_zero]⟩ ?_ ?_
  · rintro k ⟨b, i, N⟩ hk ⟨h1, h2, h2b, h3, h4, h5⟩
    dsimp only at h1 h2 h2b h3 h4 h5 ⊢
    subst h3 h4
    have ek : ((k : Int) + 1) = ((k + 1 : Nat) : Int) := by omega
    have e6 : 60 - k = (60 - (k + 1)) + 1 := by omega
    have h6 : rMem (fun s => xb v s) (60 - k) k (l - b) = (if xb v k = true then (if l - b = 0 then (k : Int) else rMem (fun s => xb v s) (60 - (k + 1)) (k + 1) (l - b - 1)) else rMem (fun s => xb v s) (60 - (k + 1)) (k + 1) (l - b)) := by rw [e6]; rfl
    rw [h6] at h5
    by_cases c : xb v k = true
    · rw [if_pos c] at h5
      by_cases c2 : b = l
      · rw [if_pos (by omega)] at h5
        refine Or.inr (fun f => ?_)
        rw [xe_cmp (by omega) (by omega) (by decide) (by decide), if_neg (by omega), xm_isMember (by omega), xe_call, xe_let, xe_b0, if_pos c, xe_cmp (by omega) (by omega) (by omega) (by omega), if_neg (fun z => z c2), h5]
      · rw [if_neg (by omega)] at h5
        refine Or.inl ⟨(b + 1, ((k + 1 : Nat) : Int), N), ⟨by dsimp only; omega, by dsimp only; omega, by dsimp only; omega, rfl, rfl, ?_⟩, fun f => ?_⟩
        · dsimp only
          rw [h5]
          congr 1
          omega
        · rw [xe_cmp (by omega) (by omega) (by decide) (by decide), if_neg (by omega), xm_isMember (by omega), xe_call, xe_let, xe_b0, if_pos c, xe_cmp (by omega) (by omega) (by omega) (by omega), if_pos c2, ek]
    · rw [if_neg c] at h5
      refine Or.inl ⟨(b, ((k + 1 : Nat) : Int), N), ⟨h1, by dsimp only; omega, h2b, rfl, rfl, h5⟩, fun f => ?_⟩
      rw [xe_cmp (by omega) (by omega) (by decide) (by decide), if_neg (by omega), xm_isMember (by omega), xe_call, xe_let, xe_b0, if_neg c, ek]
  · rintro ⟨b, i, N⟩ ⟨h1, h2, h2b, h3, h4, h5⟩ f
    dsimp only at h1 h2 h2b h3 h4 h5 ⊢
    subst h3 h4
    rw [xe_cmp (by decide) (by decide) (by decide) (by decide), if_pos (by decide), h5]
    rfl
def rInsQ (a : RW) (x l : Int) : Int := if 0 ≤ x ∧ x < a 2 then (if 0 ≤ l then rMem (fun s => decide (s < rn a ∧ rIn a x.toNat s)) (rn a) 0 l else -2) else -1
theorem xc_inside {a H : RW} {k : Nat} {M : xv_M} (h : CLh a H k M) {x l : Int} (hx : iR x) (hl : iR l) : ∃ M', D_X11_inside 1 x l M = some (rInsQ a x l, M') ∧ Scr M M' := by
  refine ⟨M, ?_, Scr.rf⟩
  have hO := h.1.1.1
  have g := h.2.1
  have em := g.1.1.em
  have hn := g.1.1.n
  unfold D_X11_inside rInsQ
  rw [xg_1_0 hO, xg_2_0 hO, xg_3_2 hO, xr_11 hO, xm_has9 hO h.1.1.2.2.2.1 g.1.1.2.2.1 hx, xe_call, xe_b1]
  by_cases c : 0 ≤ x ∧ x < a 2
  · rw [if_pos c, if_pos c, xe_cmp hl.1 hl.2 (by decide) (by decide)]
    obtain ⟨w, rfl⟩ : ∃ w : Nat, x = (w : Int) := ⟨x.toNat, by omega⟩
    rw [Int.toNat_natCast]
    have hw : w < rm a := by omega
    have hm := g.1.1.m
    by_cases c2 : 0 ≤ l
    · rw [if_pos c2, if_pos c2, xg_11_3 hO, xa_14 hO (by omega) (by omega), Int.toNat_natCast, xm_memberAt ⟨c2, hl.2⟩, xe_call]
      have e1 : rMem (fun s => xb (xv_J M 14 w) s) 60 0 l = rMem (fun s => decide (s < rn a ∧ rIn a w s)) 60 0 l := rMem_cg _ _ _ (fun s h1 h2 => h.1.2.1.1 w hw s (by omega))
      have e2 : rMem (fun s => decide (s < rn a ∧ rIn a w s)) 60 0 l = rMem (fun s => decide (s < rn a ∧ rIn a w s)) (rn a) 0 l := by
        have := rMem_up (p := fun s => decide (s < rn a ∧ rIn a w s)) (d := 60 - rn a) (rn a) 0 l (fun s hs => decide_eq_false (fun z => by omega))
        rw [← this]
        congr 1
        omega
      rw [e1, e2]
    · rw [if_neg c2, if_neg c2]
  · rw [if_neg c, if_neg c]
theorem md_inside {M : xv_M} {a : RW} (h : xl_OK M) (g : rRW a) (e : xv_I M 189 = a) {x l : Int} (hx : iR x) (hl : iR l) : ∃ M', D_X12_inside 188 x l M = some (rInsQ a x l, M') ∧ Scr M M' := by
  refine ⟨M, ?_, Scr.rf⟩
  have em := g.1.1.em
  have en := g.1.1.en
  have hn := g.1.1.n
  unfold D_X12_inside rInsQ
  rw [xr_188 h, w_noWalker h e g.1.1 hx, xe_call]
  by_cases c : 0 ≤ x ∧ x < a 2
  · obtain ⟨w, rfl⟩ : ∃ w : Nat, x = (w : Int) := ⟨x.toNat, by omega⟩
    have hw : w < rm a := by omega
    have hm := g.1.1.m
    rw [if_pos c, if_pos c, xe_cmp (by decide) (by decide) (by decide) (by decide), if_pos rfl, xe_cmp hl.1 hl.2 (by decide) (by decide), Int.toNat_natCast]
    by_cases c2 : 0 ≤ l
    · rw [if_pos c2, if_pos c2]
      generalize hp : (fun s => decide (s < rn a ∧ rIn a w s)) = p
      have ep : ∀ s, s < rn a → p s = decide (rIn a w s) := fun s hs => by rw [← hp]; simp [hs]
      refine xe_invx0 (I := fun (k : Nat) (s : Int × Int × xv_M) => 0 ≤ s.1 ∧ s.1 ≤ l ∧ s.2.1 = (k : Int) ∧ s.2.2 = M ∧ rMem p (rn a) 0 l = rMem p (rn a - k) k s.1) (n := rn a) (P := fun z => z = some (rMem p (rn a) 0 l, M)) (by omega) ⟨c2, Int.le_refl _, rfl, rfl, rfl⟩ ?_ ?_
      · rintro k ⟨b, i, N⟩ hk ⟨h1, h2, h3, h4, h5⟩
        dsimp only at h1 h2 h3 h4 h5 ⊢
        subst h3 h4
        have ek : ((k : Int) + 1) = ((k + 1 : Nat) : Int) := by omega
        have e6 : rn a - k = (rn a - (k + 1)) + 1 := by omega
        have h6 : rMem p (rn a - k) k b = (if p k = true then (if b = 0 then (k : Int) else rMem p (rn a - (k + 1)) (k + 1) (b - 1)) else rMem p (rn a - (k + 1)) (k + 1) b) := by rw [e6]; rfl
        rw [h6, ep k hk] at h5
        have hb := hl.2
        by_cases c3 : rIn a w k
        · rw [if_pos (decide_eq_true c3)] at h5
          by_cases c4 : b = 0
          · rw [if_pos c4] at h5
            refine Or.inr (fun f => ?_)
            rw [xg_188_0 h, w_r1 h e, xe_cmp (by omega) (by omega) (by omega) (by omega), if_neg (by omega), xr_188 h, w_ins h e g.1.1 (by omega) (by omega), xe_call, xe_let, xe_b0, if_pos c3, xe_cmp (by omega) (by omega) (by decide) (by decide), if_neg (fun z => z c4), h5]
          · rw [if_neg c4] at h5
            refine Or.inl ⟨(b + -1, ((k + 1 : Nat) : Int), N), ⟨by dsimp only; omega, by dsimp only; omega, rfl, rfl, h5⟩, fun f => ?_⟩
            rw [xg_188_0 h, w_r1 h e, xe_cmp (by omega) (by omega) (by omega) (by omega), if_neg (by omega), xr_188 h, w_ins h e g.1.1 (by omega) (by omega), xe_call, xe_let, xe_b0, if_pos c3, xe_cmp (by omega) (by omega) (by decide) (by decide), if_pos c4, ek]
        · rw [if_neg (fun z => c3 (of_decide_eq_true z))] at h5
          refine Or.inl ⟨(b, ((k + 1 : Nat) : Int), N), ⟨h1, h2, rfl, rfl, h5⟩, fun f => ?_⟩
          rw [xg_188_0 h, w_r1 h e, xe_cmp (by omega) (by omega) (by omega) (by omega), if_neg (by omega), xr_188 h, w_ins h e g.1.1 (by omega) (by omega), xe_call, xe_let, xe_b0, if_neg c3, ek]
      · rintro ⟨b, i, N⟩ ⟨h1, h2, h3, h4, h5⟩ f
        dsimp only at h1 h2 h3 h4 h5 ⊢
        subst h3 h4
        rw [xg_188_0 h, w_r1 h e, xe_cmp (by omega) (by omega) (by omega) (by omega), if_pos (by omega), h5, Nat.sub_self]
        rfl
    · rw [if_neg c2, if_neg c2]
  · rw [if_neg c, if_neg c, xe_cmp (by decide) (by decide) (by decide) (by decide), if_neg (by decide)]
theorem ok_inside {M : xv_M} (hi : INV M) {x l : Int} (hx : iR x) (hl : iR l) : ok2 (D_X11_inside 1 x l) (D_X12_inside 188 x l) M := ok_q hi (A := fun a => rInsQ a x l) (fun a H k c => xc_inside c hx hl) (fun M a h g e => md_inside h g e hx hl)
/-! the log -/
def rEvQ (a : RW) (b t : Int) : Int := if 0 ≤ b ∧ 0 ≤ t ∧ t ≤ 3 then (if b < a 5 then a (822 + 4 * ((a 5).toNat - 1 - b.toNat) + t.toNat) else -5) else -2
theorem xc_event {a H : RW} {k : Nat} {M : xv_M} (h : CLh a H k M) {b t : Int} (hb : iR b) (ht : iR t) : ∃ M', D_X11_event 1 b t M = some (rEvQ a b t, M') ∧ Scr M M' := by
  refine ⟨M, ?_, Scr.rf⟩
  have hO := h.1.1.1
  have g := h.2.1
  have g5 := g.1.1.2.2.2.1.2.2.2.1
  obtain ⟨l1, l2, l3⟩ := h.1.1.2.2.2.2.1
  have l1' : xv_I M 26 0 = a 5 := l1
  have l2' : 0 ≤ xv_I M 26 1 ∧ xv_I M 26 1 < 12 := l2
  unfold D_X11_event rEvQ
  rw [xe_cmp hb.1 hb.2 (by decide) (by decide), xe_cmp ht.1 ht.2 (by decide) (by decide), xe_cmp ht.1 ht.2 (by decide) (by decide)]
  by_cases c : 0 ≤ b ∧ 0 ≤ t ∧ t ≤ 3
  · rw [if_pos c, if_neg (by omega), if_neg (by omega), if_pos (by omega), xg_1_0 hO, xg_2_0 hO, xg_3_3 hO, xg_26_0 hO, l1', xe_cmp hb.1 hb.2 (by omega) (by omega)]
    by_cases c2 : b < a 5
    · obtain ⟨n, rfl⟩ : ∃ n : Nat, b = (n : Int) := ⟨b.toNat, by omega⟩
      obtain ⟨v1, v2, v3, v4⟩ := l3 n (by omega)
      have v1' : xv_I M 27 ((xv_I M 26 1 - (n : Int)) % 12).toNat = _ := v1
      have v2' : xv_I M 28 ((xv_I M 26 1 - (n : Int)) % 12).toNat = _ := v2
      have v3' : xv_I M 29 ((xv_I M 26 1 - (n : Int)) % 12).toNat = _ := v3
      have v4' : xv_I M 30 ((xv_I M 26 1 - (n : Int)) % 12).toNat = _ := v4
      have hslot : D_X3_slotOf 26 (n : Int) M = some ((xv_I M 26 1 - (n : Int)) % 12, M) := by
        unfold D_X3_slotOf
        rw [xg_26_1 hO, xm_floorMod (by omega), xe_call]
      have q1 : 0 ≤ (xv_I M 26 1 - (n : Int)) % 12 ∧ (xv_I M 26 1 - (n : Int)) % 12 < 12 := by omega
      rw [if_pos c2, if_pos c2, xr_26 hO, hslot, xe_call, xe_g (xe_inb ht.1 ht.2), Int.toNat_natCast]
      have hc : t = 0 ∨ t = 1 ∨ t = 2 ∨ t = 3 := by omega
      rcases hc with rfl | rfl | rfl | rfl
      · rw [xi_t rfl, xg_26_2 hO, xa_27 hO q1.1 q1.2, v1']; rfl
      · rw [xi_f (by decide), xi_t rfl, xg_26_3 hO, xa_28 hO q1.1 q1.2, v2']; rfl
      · rw [xi_f (by decide), xi_f (by decide), xi_t rfl, xg_26_4 hO, xa_29 hO q1.1 q1.2, v3']; rfl
      · rw [xi_f (by decide), xi_f (by decide), xi_f (by decide), xg_26_5 hO, xa_30 hO q1.1 q1.2, v4']; rfl
    · rw [if_neg c2, if_neg c2]
  · rw [if_neg c]
    by_cases c1 : b < 0
    · rw [if_pos c1]
    · rw [if_neg c1]
      by_cases c2 : t < 0
      · rw [if_pos c2]
      · rw [if_neg c2, if_neg (by omega)]
theorem md_event {M : xv_M} {a : RW} (h : xl_OK M) (g : rRW a) (e : xv_I M 189 = a) {b t : Int} (hb : iR b) (ht : iR t) : ∃ M', D_X12_event 188 b t M = some (rEvQ a b t, M') ∧ Scr M M' := by
  refine ⟨M, ?_, Scr.rf⟩
  have g5 := g.1.1.2.2.2.1.2.2.2.1
  unfold D_X12_event rEvQ
  rw [xe_cmp hb.1 hb.2 (by decide) (by decide), md_in ht (by decide) (by decide), xe_call, xe_b1]
  by_cases c1 : b < 0
  · rw [if_pos c1, if_neg (by omega)]
  · rw [if_neg c1]
    by_cases c2 : 0 ≤ t ∧ t ≤ 3
    · rw [if_pos c2, if_pos (by omega), xg_188_0 h, w_r5 h e, xe_cmp hb.1 hb.2 (by omega) (by omega)]
      by_cases c3 : b < a 5
      · have i2 : ((822 : Int) + 4 * (a 5 - 1 - b) + t) = ((822 + 4 * ((a 5).toNat - 1 - b.toNat) + t.toNat : Nat) : Int) := by omega
        rw [if_neg (by omega), if_pos c3, xg_188_0 h, xg_188_0 h, w_r5 h e, i2, w_rd h e (by omega)]
      · rw [if_pos (by omega), if_neg c3]
    · rw [if_neg c2, if_neg (fun z => c2 z.2)]
theorem ok_event {M : xv_M} (hi : INV M) {b t : Int} (hb : iR b) (ht : iR t) : ok2 (D_X11_event 1 b t) (D_X12_event 188 b t) M := ok_q hi (A := fun a => rEvQ a b t) (fun a H k c => xc_event c hb ht) (fun M a h g e => md_event h g e hb ht)
/-! how long until something changes, until two meet -/
def rWk (p v : Int) : Nat → Int × Int
  | 0 => (p, v)
  | k + 1 => (rTrn ((rWk p v k).1 + (rWk p v k).2), if 0 ≤ (rWk p v k).1 + (rWk p v k).2 ∧ (rWk p v k).1 + (rWk p v k).2 ≤ 1000 then (rWk p v k).2 else -(rWk p v k).2)
theorem rWk_b {p v : Int} (hp : 0 ≤ p ∧ p ≤ 1000) (hv : -50 ≤ v ∧ v ≤ 50) : ∀ k, (0 ≤ (rWk p v k).1 ∧ (rWk p v k).1 ≤ 1000) ∧ (-50 ≤ (rWk p v k).2 ∧ (rWk p v k).2 ≤ 50)
  | 0 => ⟨hp, hv⟩
  | k + 1 => by
    obtain ⟨h1, h2⟩ := rWk_b hp hv k
    refine ⟨rTrn_b (by omega), ?_⟩
    have e : (rWk p v (k + 1)).2 = if 0 ≤ (rWk p v k).1 + (rWk p v k).2 ∧ (rWk p v k).1 + (rWk p v k).2 ≤ 1000 then (rWk p v k).2 else -(rWk p v k).2 := rfl
    rw [e]
    generalize (rWk p v k).2 = y at h2 ⊢
    split
    · exact h2
    · omega
/-- the first k of n from k0 on -/
def rFs (q : Nat → Bool) : Nat → Nat → Int
  | 0, _ => -5
  | n + 1, k => if q k = true then (k : Int) else rFs q n (k + 1)
def rOth (a : RW) (x y : Int) : Bool := decide (∃ s, s < rn a ∧ ¬ (rCov a s x ↔ rCov a s y))
def rCiQ (a : RW) (x : Int) : Int := if 0 ≤ x ∧ x < a 2 then rFs (fun k => rOth a (a (426 + 6 * x.toNat + 0)) (rWk (a (426 + 6 * x.toNat + 0)) (a (426 + 6 * x.toNat + 1)) k).1) 200 1 else -1
theorem xm_other {M : xv_M} {a : RW} (h : LN a M) (hn : rn a ≤ 60) {x y : Int} (hx : 0 ≤ x ∧ x ≤ 1000) (hy : 0 ≤ y ∧ y ≤ 1000) : xv_J M 32 x.toNat = xv_J M 32 y.toNat ↔ rOth a x y = false := by
  have b1 := fun s hs => h.2.2.1 x.toNat (by omega) s hs
  have b2 := fun s hs => h.2.2.1 y.toNat (by omega) s hs
  rw [Int.toNat_of_nonneg hx.1] at b1
  rw [Int.toNat_of_nonneg hy.1] at b2
  unfold rOth
  constructor
  · intro e
    refine decide_eq_false (fun ⟨s, hs, z⟩ => z ?_)
    have q1 := b1 s (by omega)
    have q2 := b2 s (by omega)
    rw [e, q2] at q1
    have q3 := decide_eq_decide.mp q1
    exact ⟨fun w => (q3.mpr ⟨hs, w⟩).2, fun w => (q3.mp ⟨hs, w⟩).2⟩
  · intro e
    have q := of_decide_eq_false e
    refine xb_ext (fun s hs => ?_)
    rw [b1 s hs, b2 s hs]
    refine decide_eq_decide.mpr ⟨fun w => ⟨w.1, ?_⟩, fun w => ⟨w.1, ?_⟩⟩
    · exact Decidable.byContradiction (fun z => q ⟨s, w.1, fun t => z (t.mp w.2)⟩)
    · exact Decidable.byContradiction (fun z => q ⟨s, w.1, fun t => z (t.mpr w.2)⟩)
theorem xc_changesIn {a H : RW} {k : Nat} {M : xv_M} (h : CLh a H k M) {x : Int} (hx : iR x) : ∃ M', D_X11_changesIn 1 x M = some (rCiQ a x, M') ∧ Scr M M' := by
  refine ⟨M, ?_, Scr.rf⟩
  have hO := h.1.1.1
  have g := h.2.1
  have em := g.1.1.em
  have hn := g.1.1.n
  unfold D_X11_changesIn rCiQ
  rw [xg_1_0 hO, xg_2_0 hO, xg_3_2 hO, xr_11 hO, xm_has9 hO h.1.1.2.2.2.1 g.1.1.2.2.1 hx, xe_call, xe_b1]
  by_cases c : 0 ≤ x ∧ x < a 2
  · obtain ⟨w, rfl⟩ : ∃ w : Nat, x = (w : Int) := ⟨x.toNat, by omega⟩
    have hw : w < rm a := by omega
    have hm := g.1.1.m
    obtain ⟨hp, hv⟩ := g.1.1.2.2.2.2.2.2 w hw
    obtain ⟨r1, r2, _⟩ := h.1.1.2.2.2.1.2.1 w hw
    have r1' : xv_I M 12 w = a (426 + 6 * w + 0) := r1
    have r2' : xv_I M 13 w = a (426 + 6 * w + 1) := r2
    rw [if_pos c, if_pos c, Int.toNat_natCast]
    obtain ⟨p, hpp⟩ : ∃ p : Int, p = a (426 + 6 * w + 0) := ⟨_, rfl⟩
    obtain ⟨v, hvv⟩ : ∃ v : Int, v = a (426 + 6 * w + 1) := ⟨_, rfl⟩
    have hp' : 0 ≤ p ∧ p ≤ 1000 := by rw [hpp]; exact hp
    have hv' : -50 ≤ v ∧ v ≤ 50 := by rw [hvv]; exact hv
    rw [← hpp, ← hvv]
    rw [← hpp] at r1'
    rw [← hvv] at r2'
    generalize hq : (fun k => rOth a p (rWk p v k).1) = q
    unfold D_X2_ticksToChange
    rw [xg_1_0 hO, xr_2 hO, xg_2_0 hO, xg_3_2 hO, xg_11_1 hO, xa_12 hO (by omega) (by omega), Int.toNat_natCast, r1', xg_2_0 hO, xg_3_2 hO, xg_11_2 hO, xa_13 hO (by omega) (by omega), Int.toNat_natCast, r2', xg_2_1 hO, xr_31 hO, xm_over hO hp', xe_call]
    refine congrArg (fun d => xv_call d (fun z8 M7 => some (z8, M7))) (a₂ := some (rFs q 200 1, M)) ?_
    refine xe_invx0 (I := fun (k : Nat) (s : Int × Int × Int × xv_M) => s.1 = (rWk p v k).1 ∧ s.2.1 = (rWk p v k).2 ∧ s.2.2.1 = (k : Int) + 1 ∧ s.2.2.2 = M ∧ rFs q 200 1 = rFs q (200 - k) (k + 1)) (n := 200) (P := fun z => z = some (rFs q 200 1, M)) (by decide) ⟨rfl, rfl, rfl, rfl, rfl⟩ ?_ ?_
    · rintro k ⟨x1, x2, i, N⟩ hk ⟨h1, h2, h3, h4, h5⟩
      dsimp only at h1 h2 h3 h4 h5 ⊢
      subst h1 h2 h3 h4
      have ek : ((k : Int) + 1 + 1) = ((k + 1 : Nat) : Int) + 1 := by omega
      obtain ⟨b1, b2⟩ := rWk_b hp' hv' k
      obtain ⟨b3, b4⟩ := rWk_b hp' hv' (k + 1)
      have hir : iR ((rWk p v k).1 + (rWk p v k).2) := by unfold iR; omega
      have hoth := xm_other h.1 hn b3 hp'
      have e6 : 200 - k = (200 - (k + 1)) + 1 := by omega
      have h6 : rFs q (200 - k) (k + 1) = (if q (k + 1) = true then ((k + 1 : Nat) : Int) else rFs q (200 - (k + 1)) (k + 1 + 1)) := by rw [e6]; rfl
      have eq : q (k + 1) = rOth a p (rWk p v (k + 1)).1 := by rw [← hq]
      have esym : rOth a p (rWk p v (k + 1)).1 = rOth a (rWk p v (k + 1)).1 p := by
        unfold rOth
        exact decide_eq_decide.mpr ⟨fun ⟨s, z1, z2⟩ => ⟨s, z1, fun t => z2 t.symm⟩, fun ⟨s, z1, z2⟩ => ⟨s, z1, fun t => z2 t.symm⟩⟩
      rw [h6, eq, esym] at h5
      have eT : rTrn ((rWk p v k).1 + (rWk p v k).2) = (rWk p v (k + 1)).1 := rfl
      have eV : (if 0 ≤ (rWk p v k).1 + (rWk p v k).2 ∧ (rWk p v k).1 + (rWk p v k).2 ≤ 1000 then (rWk p v k).2 else -(rWk p v k).2) = (rWk p v (k + 1)).2 := rfl
      obtain ⟨l1, l2⟩ := xb_lcr (xv_J N 32 (rWk p v (k + 1)).1.toNat) (xv_J N 32 p.toNat)
      by_cases c2 : rOth a (rWk p v (k + 1)).1 p = true
      · rw [if_pos c2] at h5
        refine Or.inr (fun f => ?_)
        rw [xe_cmp (by omega) (by omega) (by decide) (by decide), if_neg (by omega), xm_nextPlace hir, xe_call, xm_nextSpeed hir, xe_call, eT, eV, xg_2_1 hO, xr_31 hO, xm_over hO b3, xe_call, xe_cmp l1 l2 (by decide) (by decide), if_neg (fun z => by
          have := hoth.mp (xb_lc0.mp z)
          rw [c2] at this
          cases this), h5]
        rfl
      · have c3 : rOth a (rWk p v (k + 1)).1 p = false := by cases hh : rOth a (rWk p v (k + 1)).1 p; rfl; exact absurd hh c2
        rw [if_neg c2] at h5
        refine Or.inl ⟨((rWk p v (k + 1)).1, (rWk p v (k + 1)).2, ((k + 1 : Nat) : Int) + 1, N), ⟨rfl, rfl, rfl, rfl, h5⟩, fun f => ?_⟩
        rw [xe_cmp (by omega) (by omega) (by decide) (by decide), if_neg (by omega), xm_nextPlace hir, xe_call, xm_nextSpeed hir, xe_call, eT, eV, xg_2_1 hO, xr_31 hO, xm_over hO b3, xe_call, xe_cmp l1 l2 (by decide) (by decide), if_pos (xb_lc0.mpr (hoth.mpr c3)), ek]
    · rintro ⟨x1, x2, i, N⟩ ⟨h1, h2, h3, h4, h5⟩ f
      dsimp only at h3 h4 h5 ⊢
      subst h3 h4
      rw [xe_cmp (by decide) (by decide) (by decide) (by decide), if_pos (by decide), h5]
      rfl
  · rw [if_neg c, if_neg c]
theorem md_isOther {M : xv_M} {a : RW} (h : xl_OK M) (e : xv_I M 189 = a) (g : rGd a) {x y : Int} (hx : 0 ≤ x ∧ x ≤ 1000) (hy : 0 ≤ y ∧ y ≤ 1000) : D_X12_isOther 188 x y M = some (if rOth a x y = true then 1 else 0, M) := by
  have hn := g.n
  have en := g.en
  unfold D_X12_isOther
  refine xe_invx0 (I := fun (k : Nat) (s : Int × xv_M) => s.1 = (k : Int) ∧ s.2 = M ∧ ∀ s, s < k → (rCov a s x ↔ rCov a s y)) (n := rn a) (P := fun z => z = some (if rOth a x y = true then 1 else 0, M)) (by omega) ⟨rfl, rfl, fun s hs => by omega⟩ ?_ ?_
  · rintro k ⟨i, N⟩ hk ⟨h1, h2, h3⟩
    dsimp only at h1 h2 h3 ⊢
    subst h1 h2
    have ek : ((k : Int) + 1) = ((k + 1 : Nat) : Int) := by omega
    by_cases c : rCov a k x ↔ rCov a k y
    · refine Or.inl ⟨(((k + 1 : Nat) : Int), N), ⟨rfl, rfl, fun s hs => ?_⟩, fun f => ?_⟩
      · by_cases e : s = k
        · subst e; exact c
        · exact h3 s (by omega)
      · rw [xg_188_0 h, w_r1 h e, xe_cmp (by omega) (by omega) (by omega) (by omega), if_neg (by omega), xr_188 h, w_cov h e g (by omega) hx, xe_call, xr_188 h, w_cov h e g (by omega) hy, xe_call]
        by_cases c1 : rCov a k x
        · rw [if_pos c1, if_pos (c.mp c1), xe_cmp (by decide) (by decide) (by decide) (by decide), if_pos rfl, ek]
        · rw [if_neg c1, if_neg (fun z => c1 (c.mpr z)), xe_cmp (by decide) (by decide) (by decide) (by decide), if_pos rfl, ek]
    · have ho : rOth a x y = true := decide_eq_true ⟨k, hk, c⟩
      refine Or.inr (fun f => ?_)
      rw [xg_188_0 h, w_r1 h e, xe_cmp (by omega) (by omega) (by omega) (by omega), if_neg (by omega), xr_188 h, w_cov h e g (by omega) hx, xe_call, xr_188 h, w_cov h e g (by omega) hy, xe_call, if_pos ho]
      by_cases c1 : rCov a k x
      · rw [if_pos c1, if_neg (fun z => c ⟨fun _ => z, fun _ => c1⟩), xe_cmp (by decide) (by decide) (by decide) (by decide), if_neg (by decide), xe_g1]
      · rw [if_neg c1, if_pos (Decidable.byContradiction (fun z => c ⟨fun t => absurd t c1, fun t => absurd t z⟩)), xe_cmp (by decide) (by decide) (by decide) (by decide), if_neg (by decide), xe_g1]
  · rintro ⟨i, N⟩ ⟨h1, h2, h3⟩ f
    dsimp only at h1 h2 h3 ⊢
    subst h1 h2
    have ho : ¬ rOth a x y = true := fun z => by
      obtain ⟨s, z1, z2⟩ := of_decide_eq_true z
      exact z2 (h3 s z1)
    rw [xg_188_0 h, w_r1 h e, xe_cmp (by omega) (by omega) (by omega) (by omega), if_pos (by omega), xe_g0, if_neg ho]
theorem rTrn_ne {x : Int} : (rTrn x ≠ x) ↔ ¬ (0 ≤ x ∧ x ≤ 1000) := by rw [← rTrn_eq]
theorem md_changesIn {M : xv_M} {a : RW} (h : xl_OK M) (g : rRW a) (e : xv_I M 189 = a) {x : Int} (hx : iR x) : ∃ M', D_X12_changesIn 188 x M = some (rCiQ a x, M') ∧ Scr M M' := by
  refine ⟨M, ?_, Scr.rf⟩
  have em := g.1.1.em
  unfold D_X12_changesIn rCiQ
  rw [xr_188 h, w_noWalker h e g.1.1 hx, xe_call]
  by_cases c : 0 ≤ x ∧ x < a 2
  · obtain ⟨w, rfl⟩ : ∃ w : Nat, x = (w : Int) := ⟨x.toNat, by omega⟩
    have hw : w < rm a := by omega
    have hm := g.1.1.m
    obtain ⟨hp, hv⟩ := g.1.1.2.2.2.2.2.2 w hw
    rw [if_pos c, if_pos c, xe_cmp (by decide) (by decide) (by decide) (by decide), if_pos rfl, xr_188 h, show D_X12_its 188 (w : Int) 0 M = _ from w_its h e (show w < 6 by omega) (j := 0) (by decide), xe_call, xr_188 h, show D_X12_its 188 (w : Int) 1 M = _ from w_its h e (show w < 6 by omega) (j := 1) (by decide), xe_call, Int.toNat_natCast]
    obtain ⟨p, hpp⟩ : ∃ p : Int, p = a (426 + 6 * w + 0) := ⟨_, rfl⟩
    obtain ⟨v, hvv⟩ : ∃ v : Int, v = a (426 + 6 * w + 1) := ⟨_, rfl⟩
    have hp' : 0 ≤ p ∧ p ≤ 1000 := by rw [hpp]; exact hp
    have hv' : -50 ≤ v ∧ v ≤ 50 := by rw [hvv]; exact hv
    rw [← hpp, ← hvv]
    generalize hq : (fun k => rOth a p (rWk p v k).1) = q
    refine xe_invx0 (I := fun (k : Nat) (s : Int × Int × Int × xv_M) => s.1 = (rWk p v k).1 ∧ s.2.1 = (rWk p v k).2 ∧ s.2.2.1 = (k : Int) + 1 ∧ s.2.2.2 = M ∧ rFs q 200 1 = rFs q (200 - k) (k + 1)) (n := 200) (P := fun z => z = some (rFs q 200 1, M)) (by decide) ⟨rfl, rfl, rfl, rfl, rfl⟩ ?_ ?_
    · rintro k ⟨x1, x2, i, N⟩ hk ⟨h1, h2, h3, h4, h5⟩
      dsimp only at h1 h2 h3 h4 h5 ⊢
      subst h1 h2 h3 h4
      have ek : ((k : Int) + 1 + 1) = ((k + 1 : Nat) : Int) + 1 := by omega
      obtain ⟨b1, b2⟩ := rWk_b hp' hv' k
      obtain ⟨b3, b4⟩ := rWk_b hp' hv' (k + 1)
      have hir : iR ((rWk p v k).1 + (rWk p v k).2) := by unfold iR; omega
      have e6 : 200 - k = (200 - (k + 1)) + 1 := by omega
      have h6 : rFs q (200 - k) (k + 1) = (if q (k + 1) = true then ((k + 1 : Nat) : Int) else rFs q (200 - (k + 1)) (k + 1 + 1)) := by rw [e6]; rfl
      have eq : q (k + 1) = rOth a p (rWk p v (k + 1)).1 := by rw [← hq]
      rw [h6, eq] at h5
      have eT : rTrn ((rWk p v k).1 + (rWk p v k).2) = (rWk p v (k + 1)).1 := rfl
      have eV : (if rTrn ((rWk p v k).1 + (rWk p v k).2) ≠ (rWk p v k).1 + (rWk p v k).2 then -(rWk p v k).2 else (rWk p v k).2) = (rWk p v (k + 1)).2 := by
        show _ = (if _ then _ else _)
        by_cases cc : 0 ≤ (rWk p v k).1 + (rWk p v k).2 ∧ (rWk p v k).1 + (rWk p v k).2 ≤ 1000
        · rw [if_pos cc, if_neg (fun z => rTrn_ne.mp z cc)]
        · rw [if_neg cc, if_pos (rTrn_ne.mpr cc)]
      have hxs : ∀ (f : Int → Option (Int × xv_M)), (if rTrn ((rWk p v k).1 + (rWk p v k).2) ≠ (rWk p v k).1 + (rWk p v k).2 then f (-(rWk p v k).2) else f ((rWk p v k).2)) = f ((rWk p v (k + 1)).2) := fun f => by
        rw [← eV]
        split <;> rfl
      by_cases c2 : rOth a p (rWk p v (k + 1)).1 = true
      · rw [if_pos c2] at h5
        refine Or.inr (fun f => ?_)
        rw [xe_cmp (by omega) (by omega) (by decide) (by decide), if_neg (by omega), md_turned hir, xe_call]
        refine xe_letp (fun j => j ((rWk p v (k + 1)).2) = some (rFs q 200 1, N)) ?_ (fun j hj => ?_)
        · rw [eT, xr_188 h, md_isOther h e g.1.1 hp' b3, xe_call, if_pos c2, xe_cmp (by decide) (by decide) (by decide) (by decide), if_neg (by decide), h5]
          rfl
        · rw [xe_cmp (by omega) (by omega) (by omega) (by omega), hxs j, hj]
      · rw [if_neg c2] at h5
        refine Or.inl ⟨((rWk p v (k + 1)).1, (rWk p v (k + 1)).2, ((k + 1 : Nat) : Int) + 1, N), ⟨rfl, rfl, rfl, rfl, h5⟩, fun f => ?_⟩
        rw [xe_cmp (by omega) (by omega) (by decide) (by decide), if_neg (by omega), md_turned hir, xe_call]
        refine xe_letp (fun j => j ((rWk p v (k + 1)).2) = f ((rWk p v (k + 1)).1, (rWk p v (k + 1)).2, ((k + 1 : Nat) : Int) + 1, N)) ?_ (fun j hj => ?_)
        · rw [eT, xr_188 h, md_isOther h e g.1.1 hp' b3, xe_call, if_neg c2, xe_cmp (by decide) (by decide) (by decide) (by decide), if_pos rfl, ek]
        · rw [xe_cmp (by omega) (by omega) (by omega) (by omega), hxs j, hj]
    · rintro ⟨x1, x2, i, N⟩ ⟨h1, h2, h3, h4, h5⟩ f
      dsimp only at h3 h4 h5 ⊢
      subst h3 h4
      rw [xe_cmp (by decide) (by decide) (by decide) (by decide), if_pos (by decide), h5]
      rfl
  · rw [if_neg c, if_neg c, xe_cmp (by decide) (by decide) (by decide) (by decide), if_neg (by decide)]
theorem ok_changesIn {M : xv_M} (hi : INV M) {x : Int} (hx : iR x) : ok2 (D_X11_changesIn 1 x) (D_X12_changesIn 188 x) M := ok_q hi (A := fun a => rCiQ a x) (fun a H k c => xc_changesIn c hx) (fun M a h g e => md_changesIn h g e hx)
def rMtQ (a : RW) (x y : Int) : Int := if (0 ≤ x ∧ x < a 2) ∧ (0 ≤ y ∧ y < a 2) then (if x = y then -2 else rFs (fun k => decide ((rWk (a (426 + 6 * x.toNat + 0)) (a (426 + 6 * x.toNat + 1)) k).1 = (rWk (a (426 + 6 * y.toNat + 0)) (a (426 + 6 * y.toNat + 1)) k).1)) 201 0) else -1
theorem xc_meetIn {a H : RW} {k : Nat} {M : xv_M} (h : CLh a H k M) {x y : Int} (hx : iR x) (hy : iR y) : ∃ M', D_X11_meetIn 1 x y M = some (rMtQ a x y, M') ∧ Scr M M' := by
  refine ⟨M, ?_, Scr.rf⟩
  have hO := h.1.1.1
  have g := h.2.1
  have em := g.1.1.em
  have hm := g.1.1.m
  unfold D_X11_meetIn rMtQ
  rw [xg_1_0 hO, xg_2_0 hO, xg_3_2 hO, xr_11 hO, xm_has9 hO h.1.1.2.2.2.1 g.1.1.2.2.1 hx, xe_call, xe_b0]
  by_cases c : 0 ≤ x ∧ x < a 2
  · rw [if_pos c, xg_1_0 hO, xg_2_0 hO, xg_3_2 hO, xr_11 hO, xm_has9 hO h.1.1.2.2.2.1 g.1.1.2.2.1 hy, xe_call, xe_b1]
    by_cases c2 : 0 ≤ y ∧ y < a 2
    · rw [if_pos c2, if_pos ⟨c, c2⟩, xe_cmp hx.1 hx.2 hy.1 hy.2]
      by_cases c3 : x = y
      · rw [if_neg (fun z => z c3), if_pos c3]
      · obtain ⟨w, rfl⟩ : ∃ w : Nat, x = (w : Int) := ⟨x.toNat, by omega⟩
        obtain ⟨u, rfl⟩ : ∃ u : Nat, y = (u : Int) := ⟨y.toNat, by omega⟩
        have hw : w < rm a := by omega
        have hu : u < rm a := by omega
        obtain ⟨hp, hv⟩ := g.1.1.2.2.2.2.2.2 w hw
        obtain ⟨hp2, hv2⟩ := g.1.1.2.2.2.2.2.2 u hu
        obtain ⟨r1, r2, _⟩ := h.1.1.2.2.2.1.2.1 w hw
        obtain ⟨u1, u2, _⟩ := h.1.1.2.2.2.1.2.1 u hu
        have r1' : xv_I M 12 w = a (426 + 6 * w + 0) := r1
        have r2' : xv_I M 13 w = a (426 + 6 * w + 1) := r2
        have u1' : xv_I M 12 u = a (426 + 6 * u + 0) := u1
        have u2' : xv_I M 13 u = a (426 + 6 * u + 1) := u2
        rw [if_pos c3, if_neg c3, Int.toNat_natCast, Int.toNat_natCast]
        obtain ⟨p, hpp⟩ : ∃ p : Int, p = a (426 + 6 * w + 0) := ⟨_, rfl⟩
        obtain ⟨v, hvv⟩ : ∃ v : Int, v = a (426 + 6 * w + 1) := ⟨_, rfl⟩
        obtain ⟨p2, hpp2⟩ : ∃ p : Int, p = a (426 + 6 * u + 0) := ⟨_, rfl⟩
        obtain ⟨v2, hvv2⟩ : ∃ v : Int, v = a (426 + 6 * u + 1) := ⟨_, rfl⟩
        have hp' : 0 ≤ p ∧ p ≤ 1000 := by rw [hpp]; exact hp
        have hv' : -50 ≤ v ∧ v ≤ 50 := by rw [hvv]; exact hv
        have hp2' : 0 ≤ p2 ∧ p2 ≤ 1000 := by rw [hpp2]; exact hp2
        have hv2' : -50 ≤ v2 ∧ v2 ≤ 50 := by rw [hvv2]; exact hv2
        rw [← hpp, ← hvv, ← hpp2, ← hvv2]
        rw [← hpp] at r1'
        rw [← hvv] at r2'
        rw [← hpp2] at u1'
        rw [← hvv2] at u2'
        generalize hq : (fun k => decide ((rWk p v k).1 = (rWk p2 v2 k).1)) = q
        unfold D_X9_ticksToMeet
        rw [xg_1_0 hO, xg_2_0 hO, xg_3_2 hO, xr_11 hO, xg_11_1 hO, xa_12 hO (by omega) (by omega), Int.toNat_natCast, r1', xg_11_2 hO, xa_13 hO (by omega) (by omega), Int.toNat_natCast, r2', xg_11_1 hO, xa_12 hO (by omega) (by omega), Int.toNat_natCast, u1', xg_11_2 hO, xa_13 hO (by omega) (by omega), Int.toNat_natCast, u2']
        refine congrArg (fun d => xv_call d (fun z8 M7 => some (z8, M7))) (a₂ := some (rFs q 201 0, M)) ?_
        refine xe_invx0 (I := fun (k : Nat) (s : Int × Int × Int × Int × Int × xv_M) => s.1 = (rWk p v k).1 ∧ s.2.1 = (rWk p v k).2 ∧ s.2.2.1 = (rWk p2 v2 k).1 ∧ s.2.2.2.1 = (rWk p2 v2 k).2 ∧ s.2.2.2.2.1 = (k : Int) ∧ s.2.2.2.2.2 = M ∧ rFs q 201 0 = rFs q (201 - k) k) (n := 201) (P := fun z => z = some (rFs q 201 0, M)) (by decide) ⟨rfl, rfl, rfl, rfl, rfl, rfl, rfl⟩ ?_ ?_
        · rintro k ⟨x1, x2, y1, y2, i, N⟩ hk ⟨h1, h2, h1b, h2b, h3, h4, h5⟩
          dsimp only at h1 h2 h1b h2b h3 h4 h5 ⊢
          subst h1 h2 h1b h2b h3 h4
          have ek : ((k : Int) + 1) = ((k + 1 : Nat) : Int) := by omega
          obtain ⟨b1, b2⟩ := rWk_b hp' hv' k
          obtain ⟨b3, b4⟩ := rWk_b hp2' hv2' k
          have hir : iR ((rWk p v k).1 + (rWk p v k).2) := by unfold iR; omega
          have hir2 : iR ((rWk p2 v2 k).1 + (rWk p2 v2 k).2) := by unfold iR; omega
          have e6 : 201 - k = (201 - (k + 1)) + 1 := by omega
          have h6 : rFs q (201 - k) k = (if q k = true then (k : Int) else rFs q (201 - (k + 1)) (k + 1)) := by rw [e6]; rfl
          have eq : q k = decide ((rWk p v k).1 = (rWk p2 v2 k).1) := by rw [← hq]
          rw [h6, eq] at h5
          by_cases c2 : (rWk p v k).1 = (rWk p2 v2 k).1
          · rw [if_pos (decide_eq_true c2)] at h5
            refine Or.inr (fun f => ?_)
            rw [xe_cmp (by omega) (by omega) (by decide) (by decide), if_neg (by omega), xe_cmp (by omega) (by omega) (by omega) (by omega), if_neg (fun z => z c2), h5]
          · rw [if_neg (fun z => c2 (of_decide_eq_true z))] at h5
            refine Or.inl ⟨((rWk p v (k + 1)).1, (rWk p v (k + 1)).2, (rWk p2 v2 (k + 1)).1, (rWk p2 v2 (k + 1)).2, ((k + 1 : Nat) : Int), N), ⟨rfl, rfl, rfl, rfl, rfl, rfl, h5⟩, fun f => ?_⟩
            rw [xe_cmp (by omega) (by omega) (by decide) (by decide), if_neg (by omega), xe_cmp (by omega) (by omega) (by omega) (by omega), if_pos c2, xm_nextPlace hir, xe_call, xm_nextSpeed hir, xe_call, xm_nextPlace hir2, xe_call, xm_nextSpeed hir2, xe_call, ek]
            rfl
        · rintro ⟨x1, x2, y1, y2, i, N⟩ ⟨h1, h2, h1b, h2b, h3, h4, h5⟩ f
          dsimp only at h3 h4 h5 ⊢
          subst h3 h4
          rw [xe_cmp (by decide) (by decide) (by decide) (by decide), if_pos (by decide), h5]
          rfl
    · rw [if_neg c2, if_neg (fun z => c2 z.2)]
  · rw [if_neg c, if_neg (fun z => c z.1)]
theorem md_meetIn {M : xv_M} {a : RW} (h : xl_OK M) (g : rRW a) (e : xv_I M 189 = a) {x y : Int} (hx : iR x) (hy : iR y) : ∃ M', D_X12_meetIn 188 x y M = some (rMtQ a x y, M') ∧ Scr M M' := by
  refine ⟨M, ?_, Scr.rf⟩
  have em := g.1.1.em
  have hm := g.1.1.m
  unfold D_X12_meetIn rMtQ
  rw [xr_188 h, w_noWalker h e g.1.1 hx, xe_call]
  by_cases c : 0 ≤ x ∧ x < a 2
  · rw [if_pos c, xe_cmp (by decide) (by decide) (by decide) (by decide), if_neg (by decide), xr_188 h, w_noWalker h e g.1.1 hy, xe_call]
    by_cases c2 : 0 ≤ y ∧ y < a 2
    · rw [if_pos c2, if_pos ⟨c, c2⟩, xe_cmp (by decide) (by decide) (by decide) (by decide), if_pos rfl, xe_cmp hx.1 hx.2 hy.1 hy.2]
      by_cases c3 : x = y
      · rw [if_neg (fun z => z c3), if_pos c3]
      · obtain ⟨w, rfl⟩ : ∃ w : Nat, x = (w : Int) := ⟨x.toNat, by omega⟩
        obtain ⟨u, rfl⟩ : ∃ u : Nat, y = (u : Int) := ⟨y.toNat, by omega⟩
        have hw : w < rm a := by omega
        have hu : u < rm a := by omega
        obtain ⟨hp, hv⟩ := g.1.1.2.2.2.2.2.2 w hw
        obtain ⟨hp2, hv2⟩ := g.1.1.2.2.2.2.2.2 u hu
        rw [if_pos c3, if_neg c3, Int.toNat_natCast, Int.toNat_natCast, xr_188 h, show D_X12_its 188 (w : Int) 0 M = _ from w_its h e (show w < 6 by omega) (j := 0) (by decide), xe_call, xr_188 h, show D_X12_its 188 (u : Int) 0 M = _ from w_its h e (show u < 6 by omega) (j := 0) (by decide), xe_call, xr_188 h, show D_X12_its 188 (w : Int) 1 M = _ from w_its h e (show w < 6 by omega) (j := 1) (by decide), xe_call, xr_188 h, show D_X12_its 188 (u : Int) 1 M = _ from w_its h e (show u < 6 by omega) (j := 1) (by decide), xe_call]
        obtain ⟨p, hpp⟩ : ∃ p : Int, p = a (426 + 6 * w + 0) := ⟨_, rfl⟩
        obtain ⟨v, hvv⟩ : ∃ v : Int, v = a (426 + 6 * w + 1) := ⟨_, rfl⟩
        obtain ⟨p2, hpp2⟩ : ∃ p : Int, p = a (426 + 6 * u + 0) := ⟨_, rfl⟩
        obtain ⟨v2, hvv2⟩ : ∃ v : Int, v = a (426 + 6 * u + 1) := ⟨_, rfl⟩
        have hp' : 0 ≤ p ∧ p ≤ 1000 := by rw [hpp]; exact hp
        have hv' : -50 ≤ v ∧ v ≤ 50 := by rw [hvv]; exact hv
        have hp2' : 0 ≤ p2 ∧ p2 ≤ 1000 := by rw [hpp2]; exact hp2
        have hv2' : -50 ≤ v2 ∧ v2 ≤ 50 := by rw [hvv2]; exact hv2
        rw [← hpp, ← hvv, ← hpp2, ← hvv2]
        generalize hq : (fun k => decide ((rWk p v k).1 = (rWk p2 v2 k).1)) = q
        refine xe_invx0 (I := fun (k : Nat) (s : Int × Int × Int × Int × Int × xv_M) => s.1 = (rWk p v k).1 ∧ s.2.1 = (rWk p2 v2 k).1 ∧ s.2.2.1 = (rWk p v k).2 ∧ s.2.2.2.1 = (rWk p2 v2 k).2 ∧ s.2.2.2.2.1 = (k : Int) ∧ s.2.2.2.2.2 = M ∧ rFs q 201 0 = rFs q (201 - k) k) (n := 201) (P := fun z => z = some (rFs q 201 0, M)) (by decide) ⟨rfl, rfl, rfl, rfl, rfl, rfl, rfl⟩ ?_ ?_
        · rintro k ⟨x1, y1, x2, y2, i, N⟩ hk ⟨h1, h1b, h2, h2b, h3, h4, h5⟩
          dsimp only at h1 h2 h1b h2b h3 h4 h5 ⊢
          subst h1 h2 h1b h2b h3 h4
          have ek : ((k : Int) + 1) = ((k + 1 : Nat) : Int) := by omega
          obtain ⟨b1, b2⟩ := rWk_b hp' hv' k
          obtain ⟨b3, b4⟩ := rWk_b hp2' hv2' k
          have hir : iR ((rWk p v k).1 + (rWk p v k).2) := by unfold iR; omega
          have hir2 : iR ((rWk p2 v2 k).1 + (rWk p2 v2 k).2) := by unfold iR; omega
          have ht1 := rTrn_b (x := (rWk p v k).1 + (rWk p v k).2) (by omega)
          have ht2 := rTrn_b (x := (rWk p2 v2 k).1 + (rWk p2 v2 k).2) (by omega)
          have e6 : 201 - k = (201 - (k + 1)) + 1 := by omega
          have h6 : rFs q (201 - k) k = (if q k = true then (k : Int) else rFs q (201 - (k + 1)) (k + 1)) := by rw [e6]; rfl
          have eq : q k = decide ((rWk p v k).1 = (rWk p2 v2 k).1) := by rw [← hq]
          rw [h6, eq] at h5
          have hsw : ∀ (p v : Int) (f : Int → Option (Int × xv_M)), (if rTrn ((rWk p v k).1 + (rWk p v k).2) ≠ (rWk p v k).1 + (rWk p v k).2 then f (-(rWk p v k).2) else f ((rWk p v k).2)) = f ((rWk p v (k + 1)).2) := fun p v f => by
            have eV : (if rTrn ((rWk p v k).1 + (rWk p v k).2) ≠ (rWk p v k).1 + (rWk p v k).2 then -(rWk p v k).2 else (rWk p v k).2) = (rWk p v (k + 1)).2 := by
              show _ = (if _ then _ else _)
              by_cases cc : 0 ≤ (rWk p v k).1 + (rWk p v k).2 ∧ (rWk p v k).1 + (rWk p v k).2 ≤ 1000
              · rw [if_pos cc, if_neg (fun z => rTrn_ne.mp z cc)]
              · rw [if_neg cc, if_pos (rTrn_ne.mpr cc)]
            rw [← eV]
            split <;> rfl
          by_cases c2 : (rWk p v k).1 = (rWk p2 v2 k).1
          · rw [if_pos (decide_eq_true c2)] at h5
            refine Or.inr (fun f => ?_)
            rw [xe_cmp (by omega) (by omega) (by decide) (by decide), if_neg (by omega), xe_cmp (by omega) (by omega) (by omega) (by omega), if_neg (fun z => z c2), h5]
          · rw [if_neg (fun z => c2 (of_decide_eq_true z))] at h5
            refine Or.inl ⟨((rWk p v (k + 1)).1, (rWk p2 v2 (k + 1)).1, (rWk p v (k + 1)).2, (rWk p2 v2 (k + 1)).2, ((k + 1 : Nat) : Int), N), ⟨rfl, rfl, rfl, rfl, rfl, rfl, h5⟩, fun f => ?_⟩
            rw [xe_cmp (by omega) (by omega) (by decide) (by decide), if_neg (by omega), xe_cmp (by omega) (by omega) (by omega) (by omega), if_pos c2, md_turned hir, xe_call]
            refine xe_letp (fun j => j ((rWk p v (k + 1)).2) = f ((rWk p v (k + 1)).1, (rWk p2 v2 (k + 1)).1, (rWk p v (k + 1)).2, (rWk p2 v2 (k + 1)).2, ((k + 1 : Nat) : Int), N)) ?_ (fun j hj => ?_)
            · rw [md_turned hir2, xe_call]
              refine xe_letp (fun j => j ((rWk p2 v2 (k + 1)).2) = f ((rWk p v (k + 1)).1, (rWk p2 v2 (k + 1)).1, (rWk p v (k + 1)).2, (rWk p2 v2 (k + 1)).2, ((k + 1 : Nat) : Int), N)) ?_ (fun j hj => ?_)
              · rw [ek]
                rfl
              · rw [xe_cmp (by omega) (by omega) (by omega) (by omega), hsw p2 v2 j, hj]
            · rw [xe_cmp (by omega) (by omega) (by omega) (by omega), hsw p v j, hj]
        · rintro ⟨x1, y1, x2, y2, i, N⟩ ⟨h1, h1b, h2, h2b, h3, h4, h5⟩ f
          dsimp only at h3 h4 h5 ⊢
          subst h3 h4
          rw [xe_cmp (by decide) (by decide) (by decide) (by decide), if_pos (by decide), h5]
          rfl
    · rw [if_neg c2, if_neg (fun z => c2 z.2), xe_cmp (by decide) (by decide) (by decide) (by decide), if_neg (by decide)]
  · rw [if_neg c, if_neg (fun z => c z.1), xe_cmp (by decide) (by decide) (by decide) (by decide), if_pos (by decide)]
theorem ok_meetIn {M : xv_M} (hi : INV M) {x y : Int} (hx : iR x) (hy : iR y) : ok2 (D_X11_meetIn 1 x y) (D_X12_meetIn 188 x y) M := ok_q hi (A := fun a => rMtQ a x y) (fun a H k c => xc_meetIn c hx hy) (fun M a h g e => md_meetIn h g e hx hy)
