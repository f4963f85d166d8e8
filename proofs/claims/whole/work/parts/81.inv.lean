/-! ## what is held of both; undo, keep, restore, texts -/
theorem LN.cg {a b : RW} {M : xv_M} (h : LN a M) (e : rEq a b) (g : rGd a) : LN b M := h.st ⟨e 1 (by omega), fun s j h1 h2 h3 => e _ (by omega)⟩ g.n h.1.1 ((h.1.sb h.2.1).cg e g) Sm.rf
theorem CLh.cg {a b H : RW} {k : Nat} {M : xv_M} (h : CLh a H k M) (e : rEq a b) : CLh b H k M := ⟨h.1.cg e h.2.1.1.1, h.2.1.cg e, h.2.2⟩
theorem CLh.fr {a H : RW} {k : Nat} {M M' : xv_M} (h : CLh a H k M) (hO : xl_OK M') (hP : M'.2.2.2 = M.2.2.2) (s : Sm 1 152 M M') : CLh a H k M' := ⟨h.1.fr h.2.1.1.1 hO (s.sub (by omega) (by omega)), h.2.1, (s 39 0 (by omega) (by omega)).1.trans h.2.2.1, h.2.2.2.1, h.2.2.2.2.fr h.2.2.2.1 hP (s.sub (by omega) (by omega))⟩
/-- the text: as long, and the same -/
def TXT (M : xv_M) : Prop := ∃ n : Nat, n ≤ 60 ∧ xv_I M 181 0 = (n : Int) ∧ xv_I M 188 5 = (n : Int) ∧ ∀ i, i < n → xv_I M 182 i = xv_I M 192 i ∧ 0 ≤ xv_I M 192 i ∧ xv_I M 192 i ≤ 65535
def SLT (M : xv_M) : Prop := xv_I M 188 4 = xv_I M 1 5 ∧ (xv_I M 1 5 = 0 ∨ xv_I M 1 5 = 1) ∧ (xv_I M 1 5 = 1 → SB 153 (xv_I M 191) M ∧ rRW (xv_I M 191))
def INV (M : xv_M) : Prop := ∃ k : Nat, xv_I M 188 2 = (k : Int) ∧ CLh (xv_I M 189) (xv_I M 190) k M ∧ SLT M ∧ TXT M
theorem TXT.fr {M M' : xv_M} (h : TXT M) (s1 : xv_I M' 181 0 = xv_I M 181 0) (s2 : ∀ j, xv_I M' 182 j = xv_I M 182 j) (s3 : xv_I M' 188 5 = xv_I M 188 5) (s4 : ∀ j, xv_I M' 192 j = xv_I M 192 j) : TXT M' := by
  obtain ⟨n, h1, h2, h3, h4⟩ := h
  exact ⟨n, h1, s1.trans h2, s3.trans h3, fun i hi => by rw [s2, s4]; exact h4 i hi⟩
theorem SLT.fr {M M' : xv_M} (h : SLT M) (s1 : xv_I M' 188 4 = xv_I M 188 4) (s2 : xv_I M' 1 5 = xv_I M 1 5) (s3 : Sm 153 180 M M') (s4 : xv_I M' 191 = xv_I M 191) : SLT M' := by
  obtain ⟨h1, h2, h3⟩ := h
  refine ⟨by rw [s1, s2]; exact h1, by rw [s2]; exact h2, fun q => ?_⟩
  rw [s2] at q
  obtain ⟨b, g⟩ := h3 q
  rw [s4]
  exact ⟨b.fr g.1.1.n g.1.1.m s3, g⟩
theorem mk_norm {M : xv_M} {k : Int} (h : xv_I M 188 2 = k) : mk (mkh M (xv_I M 190) k) (xv_I M 189) = M := by
  rw [← h, mkh_self, mk_self]
/-- the class's cells, behind the reference's act -/
theorem mAct_lo {M : xv_M} {H a : RW} {k : Nat} {o : Option RW} {r j : Nat} (hr : r < 188) : xv_I (mAct M H a k o) r j = xv_I M r j ∧ xv_J (mAct M H a k o) r j = xv_J M r j := by
  cases o with
  | none => exact ⟨(mk_In (by omega)).trans (mkh_In (by omega) (by omega)), rfl⟩
  | some b => exact ⟨(mk_In (by omega)).trans (mkh_In (by omega) (by omega)), rfl⟩
/-- both act -/
theorem INV.act {M M1 : xv_M} {k : Nat} (hi : INV M) (hk : xv_I M 188 2 = (k : Int)) {o : Option RW} (c : CAct (xv_I M 189) (xv_I M 190) k M M1 o) : mk (mkh M1 (xv_I M 190) (k : Int)) (xv_I M 189) = M1 ∧ xl_OK M1 ∧ INV (mAct M1 (xv_I M 190) (xv_I M 189) k o) := by
  obtain ⟨k', hk', cl, sl, tx⟩ := hi
  have ek : k' = k := by omega
  subst ek
  cases o with
  | none =>
    have e : M1 = M := c
    subst e
    have en := mk_norm hk
    refine ⟨en, cl.1.1.1, ?_⟩
    show INV (mk (mkh M1 (xv_I M1 190) (k' : Int)) (xv_I M1 189))
    rw [en]
    exact ⟨k', hk, cl, sl, tx⟩
  | some b =>
    obtain ⟨c1, fr⟩ := c
    have e189 : xv_I M1 189 = xv_I M 189 := funext fun j => (fr.1 189 j (by omega) (by omega)).1
    have e190 : xv_I M1 190 = xv_I M 190 := funext fun j => (fr.1 190 j (by omega) (by omega)).1
    have e2 : xv_I M1 188 2 = (k' : Int) := (fr.1 188 2 (by omega) (by omega)).1.trans hk
    have en : mk (mkh M1 (xv_I M 190) (k' : Int)) (xv_I M 189) = M1 := by rw [← e189, ← e190]; exact mk_norm e2
    refine ⟨en, c1.1.1.1, hCnt k', ?_, ?_, ?_, ?_⟩
    · show xv_I (mk (mkh M1 _ _) b) 188 2 = _
      rw [mk_In (by decide), mkh_Ik]
    · have r1 : xv_I (mAct M1 (xv_I M 190) (xv_I M 189) k' (some b)) 189 = b := funext fun j => mk_I
      have r2 : xv_I (mAct M1 (xv_I M 190) (xv_I M 189) k' (some b)) 190 = hRec (xv_I M 190) k' (xv_I M 189) := funext fun j => (mk_In (by decide)).trans mkh_I190
      rw [r1, r2]
      exact c1.fr c1.1.1.1 rfl (fun r j h1 h2 => mAct_lo (by omega))
    · refine sl.fr ?_ ?_ ?_ ?_
      · exact ((mk_In (by decide)).trans (mkh_In (by decide) (by decide))).trans (fr.1 188 4 (by omega) (by omega)).1
      · exact (mAct_lo (by decide)).1.trans fr.2
      · exact (fr.1.sub (by omega) (by omega)).tr (fun r j h1 h2 => mAct_lo (by omega))
      · exact funext fun j => ((mk_In (by decide)).trans (mkh_In (by decide) (by omega))).trans (fr.1 191 j (by omega) (by omega)).1
    · refine tx.fr ?_ (fun j => ?_) ?_ (fun j => ?_)
      · exact (mAct_lo (by decide)).1.trans (fr.1 181 0 (by omega) (by omega)).1
      · exact (mAct_lo (by decide)).1.trans (fr.1 182 j (by omega) (by omega)).1
      · exact ((mk_In (by decide)).trans (mkh_In (by decide) (by decide))).trans (fr.1 188 5 (by omega) (by omega)).1
      · exact ((mk_In (by decide)).trans (mkh_In (by decide) (by omega))).trans (fr.1 192 j (by omega) (by omega)).1
/-- what the law asks of a call: both answer, alike, and all is held again -/
def ok2 (d1 d2 : xv_M → Option (Int × xv_M)) (M : xv_M) : Prop := ∃ z M1 M2, xl_OK M1 ∧ d1 M = some (z, M1) ∧ d2 M1 = some (z, M2) ∧ INV M2
theorem INV.ok {M : xv_M} (hi : INV M) : xl_OK M := by
  obtain ⟨k, _, c, _⟩ := hi
  exact c.1.1.1
theorem ok_act {d1 d2 : xv_M → Option (Int × xv_M)} {M : xv_M} (hi : INV M) {A : RW → Int × Option RW}
    (h1 : ∀ (a H : RW) (k : Nat), CLh a H k M → ∃ M', d1 M = some ((A a).1, M') ∧ CAct a H k M M' (A a).2)
    (h2 : ∀ (M : xv_M) (a H : RW) (k : Nat), xl_OK M → k ≤ 4 → rRW a → d2 (mk (mkh M H (k : Int)) a) = some ((A a).1, mAct M H a k (A a).2)) : ok2 d1 d2 M := by
  have hi' := hi
  obtain ⟨k, hk, cl, _, _⟩ := hi'
  obtain ⟨M1, e1, c⟩ := h1 _ _ _ cl
  obtain ⟨en, o1, i2⟩ := hi.act hk c
  have e2 := h2 M1 (xv_I M 189) (xv_I M 190) k o1 cl.2.2.2.1 cl.2.1
  rw [en] at e2
  exact ⟨_, M1, _, o1, e1, e2, i2⟩
theorem ok_add (hbc : BC) {M : xv_M} (hi : INV M) {l r : Int} (hl : iR l) (hr : iR r) : ok2 (D_X11_add 1 l r) (D_X12_add 188 l r) M := ok_act hi (A := fun a => rAddA a l r) (fun a H k c => xc_add hbc c hl hr) (fun M a H k h hk g => md_add h hk g hl hr)
theorem ok_remove (hbc : BC) {M : xv_M} (hi : INV M) {x : Int} (hx : iR x) : ok2 (D_X11_remove 1 x) (D_X12_remove 188 x) M := ok_act hi (A := fun a => rRemA a x) (fun a H k c => xc_remove hbc c hx) (fun M a H k h hk g => md_remove h hk g hx)
theorem ok_move (hbc : BC) {M : xv_M} (hi : INV M) {x d : Int} (hx : iR x) (hd : iR d) : ok2 (D_X11_move 1 x d) (D_X12_move 188 x d) M := ok_act hi (A := fun a => rMovA a x d) (fun a H k c => xc_move hbc c hx hd) (fun M a H k h hk g => md_move h hk g hx hd)
theorem ok_come (hbc : BC) {M : xv_M} (hi : INV M) {p v : Int} (hp : iR p) (hv : iR v) : ok2 (D_X11_come 1 p v) (D_X12_come 188 p v) M := ok_act hi (A := fun a => rComA a p v) (fun a H k c => xc_come hbc c hp hv) (fun M a H k h hk g => md_come h hk g hp hv)
theorem ok_put (hbc : BC) {M : xv_M} (hi : INV M) {x p : Int} (hx : iR x) (hp : iR p) : ok2 (D_X11_put 1 x p) (D_X12_put 188 x p) M := ok_act hi (A := fun a => rPutA a x p) (fun a H k c => xc_put hbc c hx hp) (fun M a H k h hk g => md_put h hk g hx hp)
theorem ok_speed {M : xv_M} (hi : INV M) {x v : Int} (hx : iR x) (hv : iR v) : ok2 (D_X11_speed 1 x v) (D_X12_speed 188 x v) M := ok_act hi (A := fun a => rSpdA a x v) (fun a H k c => xc_speed c hx hv) (fun M a H k h hk g => md_speed h hk g hx hv)
theorem ok_pass (hbc : BC) {M : xv_M} (hi : INV M) {n : Int} (hn : iR n) : ok2 (D_X11_pass 1 n) (D_X12_pass 188 n) M := ok_act hi (A := fun a => rPasA a n) (fun a H k c => xc_pass hbc c hn) (fun M a H k h hk g => md_pass h hk g hn)
/-! undo -/
theorem xc_undo {a H : RW} {k : Nat} {M : xv_M} (h : CLh a H (k + 1) M) : ∃ M', D_X11_undo 1 M = some ((k : Int), M') ∧ CLh (HS H k) H k M' ∧ Fr M M' := by
  obtain ⟨ln, g, hk, hk4, hh⟩ := h
  have hO := ln.1.1
  obtain ⟨M1, hM1⟩ : ∃ M1 : xv_M, M1 = xv_sI M 39 0 (k : Int) := ⟨_, rfl⟩
  have o1 : xl_OK M1 := by rw [hM1]; exact hO
  have f1 : ∀ x y, (y < 39 ∨ 40 ≤ x) → Sm x y M M1 := fun x y hx => by rw [hM1]; exact Sm.sI (by omega)
  have p1 : M1.2.2.2 = M.2.2.2 := by rw [hM1]; rfl
  have h1 : HI H (k + 1) M1 := hh.fr hk4 p1 (f1 _ _ (by omega))
  obtain ⟨sb, gb⟩ := h1.2.2 k (by omega)
  have hp := h1.1 k (by omega)
  have e1 : (((k + 1 : Nat) : Int) - 1) = (k : Int) := by omega
  have hp2 : xv_P M1 40 k = xv_P M 40 k := by rw [hM1]; rfl
  have d1 : D_X1_takeLatest 39 M = some (xv_P M1 40 k, M1) := by
    unfold D_X1_takeLatest
    rw [xg_39_0 hO, hk, xe_cmp (by omega) (by omega) (by decide) (by decide), if_pos (by omega), xg_39_0 hO, hk, e1, xu_39_0 hO, ← hM1, xg_39_1 o1, xg_39_0 o1]
    have e39 : xv_I M1 39 0 = (k : Int) := by rw [hM1, xe_I_sI, if_pos ⟨rfl, rfl⟩]
    rw [e39, xe_aP (xk_40 o1) (by omega) (by omega) (by decide), Int.toNat_natCast]
  obtain ⟨M2, d2, l2, s2, p2, q2⟩ := xm_become o1 hp.bk (by unfold Hk at hp; omega) gb sb
  have e39 : xv_I M2 39 0 = (k : Int) := by rw [(s2 39 0 (by omega) (by omega)).1, hM1, xe_I_sI, if_pos ⟨rfl, rfl⟩]
  have d : D_X11_undo 1 M = some ((k : Int), M2) := by
    unfold D_X11_undo
    rw [xg_1_1 hO, xr_39 hO, d1, xe_call]
    unfold xv_if
    rw [if_neg (by unfold Hk at hp; omega), xg_1_0 o1, xr_2 o1, d2, xe_call, xg_1_1 l2.1.1, xg_39_0 l2.1.1, e39]
  have e15 : xv_I M2 1 5 = xv_I M 1 5 := q2.trans (f1 1 1 (by omega) 1 5 (by omega) (by omega)).1
  exact ⟨M2, d, ⟨l2, gb, e39, by omega, (show HI H k M1 from ⟨h1.1, h1.2.1, fun i hi => h1.2.2 i (by omega)⟩).fr (by omega) p2 (s2.sub (by omega) (by omega))⟩, (f1 _ _ (by omega)).tr (s2.sub (by omega) (by omega)), e15⟩
theorem xc_undo0 {a H : RW} {M : xv_M} (h : CLh a H 0 M) : D_X11_undo 1 M = some (-5, M) := by
  have hO := h.1.1.1
  have hk := h.2.2.1
  unfold D_X11_undo D_X1_takeLatest
  rw [xg_1_1 hO, xr_39 hO, xg_39_0 hO, hk, xe_cmp (by decide) (by decide) (by decide) (by decide), if_neg (by decide), xe_call]
  unfold xv_if
  rw [if_pos rfl]
theorem ok_undo {M : xv_M} (hi : INV M) : ok2 (D_X11_undo 1) (D_X12_undo 188) M := by
  have hi' := hi
  obtain ⟨k, hk, cl, sl, tx⟩ := hi'
  have hO := cl.1.1.1
  cases k with
  | zero =>
    have en := mk_norm hk
    have e2 := md_undo0 (M := M) (H := xv_I M 190) (a := xv_I M 189) hO
    have hz : ((0 : Nat) : Int) = 0 := rfl
    rw [hz] at en
    rw [en] at e2
    exact ⟨_, M, M, hO, xc_undo0 cl, e2, hi⟩
  | succ k =>
    obtain ⟨M1, e1, c1, fr⟩ := xc_undo cl
    have e189 : xv_I M1 189 = xv_I M 189 := funext fun j => (fr.1 189 j (by omega) (by omega)).1
    have e190 : xv_I M1 190 = xv_I M 190 := funext fun j => (fr.1 190 j (by omega) (by omega)).1
    have ek : xv_I M1 188 2 = ((k + 1 : Nat) : Int) := (fr.1 188 2 (by omega) (by omega)).1.trans hk
    have en := mk_norm ek
    have o1 := c1.1.1.1
    have e2 := md_undo (M := M1) (H := xv_I M1 190) (a := xv_I M1 189) (k := k) o1 (by have := cl.2.2.2.1; omega)
    rw [en] at e2
    refine ⟨_, M1, _, o1, e1, e2, k, ?_, ?_, ?_, ?_⟩
    · rw [mk_In (by decide), mkh_Ik]
    · have r1 : xv_I (mk (mkh M1 (xv_I M1 190) (k : Int)) (rUnd (xv_I M1 190) k (xv_I M1 189))) 189 = rUnd (xv_I M1 190) k (xv_I M1 189) := funext fun j => mk_I
      have r2 : xv_I (mk (mkh M1 (xv_I M1 190) (k : Int)) (rUnd (xv_I M1 190) k (xv_I M1 189))) 190 = xv_I M1 190 := funext fun j => (mk_In (by decide)).trans mkh_I190
      rw [r1, r2, e190]
      have eq : rEq (HS (xv_I M 190) k) (rUnd (xv_I M 190) k (xv_I M1 189)) := fun j hj => if_pos hj
      exact (c1.cg eq).fr o1 rfl (fun r j h1 h2 => ⟨(mk_In (by omega)).trans (mkh_In (by omega) (by omega)), rfl⟩)
    · refine sl.fr ?_ ?_ ?_ ?_
      · exact ((mk_In (by decide)).trans (mkh_In (by decide) (by decide))).trans (fr.1 188 4 (by omega) (by omega)).1
      · exact ((mk_In (by decide)).trans (mkh_In (by decide) (by decide))).trans fr.2
      · exact (fr.1.sub (by omega) (by omega)).tr (fun r j h1 h2 => ⟨(mk_In (by omega)).trans (mkh_In (by omega) (by omega)), rfl⟩)
      · exact funext fun j => ((mk_In (by decide)).trans (mkh_In (by decide) (by omega))).trans (fr.1 191 j (by omega) (by omega)).1
    · refine tx.fr ?_ (fun j => ?_) ?_ (fun j => ?_)
      · exact ((mk_In (by decide)).trans (mkh_In (by decide) (by decide))).trans (fr.1 181 0 (by omega) (by omega)).1
      · exact ((mk_In (by decide)).trans (mkh_In (by decide) (by omega))).trans (fr.1 182 j (by omega) (by omega)).1
      · exact ((mk_In (by decide)).trans (mkh_In (by decide) (by decide))).trans (fr.1 188 5 (by omega) (by omega)).1
      · exact ((mk_In (by decide)).trans (mkh_In (by decide) (by omega))).trans (fr.1 192 j (by omega) (by omega)).1
/-! keep, restore -/
theorem rth_cg {a b : RW} : ∀ {n : Nat}, (∀ s, s < n → b (6 + 7 * s + 4) = a (6 + 7 * s + 4)) → rth b n = rth a n
  | 0, _ => rfl
  | n + 1, h => by
    show rth b n + _ = rth a n + _
    rw [rth_cg (fun s hs => h s (by omega)), h n (by omega)]
theorem rth_ct {a : RW} (g4 : ∀ s : Nat, s < 60 → (a (6 + 7 * s + 4) = 0 ∨ a (6 + 7 * s + 4) = 1)) : ∀ n, n ≤ 60 → rth a n = (xct (fun s => decide (a (6 + 7 * s + 4) = 1)) n : Int)
  | 0, _ => rfl
  | n + 1, hn => by
    show rth a n + a (6 + 7 * n + 4) = ((xct _ n + (if decide (a (6 + 7 * n + 4) = 1) = true then 1 else 0) : Nat) : Int)
    rw [rth_ct g4 n (by omega)]
    rcases g4 n (by omega) with e | e
    · rw [e, if_neg (by decide)]; omega
    · rw [e, if_pos (by decide)]; omega
/-- the first n bits alone -/
theorem xpc_n {v : Int64} {p : Nat → Bool} {n : Nat} (hn : n ≤ 64) (h : ∀ s, s < 64 → xb v s = (decide (s < n) && p s)) : xpc v = xct p n := by
  unfold xpc
  rw [xct_cg (p := fun s => xb v s) (q := fun s => decide (s < n) && p s) h, xct_up hn (fun s h1 h2 => by simp [show ¬ s < n by omega])]
  exact xct_cg (fun s hs => by simp [hs])
theorem xm_countThere (hbc : BC) {p : Nat} {M : xv_M} {a : RW} (h : xl_OK M) (hp : Bk p) (hS : SBs p a M) (g : rGd a) : D_X5_countThere (p + 1) M = some (rth a (rn a), M) := by
  unfold D_X5_countThere
  rw [bgJ h hp (r := 1) (c := 5) (by decide) rfl, hbc, xe_call, rth_ct g.2.2.2.2.1 _ g.n]
  have hn := g.n
  rw [xpc_n (p := fun s => decide (a (6 + 7 * s + 4) = 1)) (n := rn a) (by omega) (fun s hs => by rw [hS.2.1 s hs]; simp)]
theorem xc_keep (hbc : BC) {a H : RW} {k : Nat} {M : xv_M} (h : CLh a H k M) : ∃ M', D_X11_keep 1 M = some (rth a (rn a), M') ∧ CLh a H k M' ∧ SB 153 a M' ∧ xv_I M' 1 5 = 1 ∧ Sm 181 1000 M M' := by
  have hO := h.1.1.1
  have g := h.2.1.1.1
  obtain ⟨M1, d1, c1⟩ := xm_copy hO (p := 153) (q := 3) (by unfold Bk; omega) (Or.inl rfl) (by decide)
  have sb := (h.1.1.sb h.1.2.1).cp g.n g.m c1
  obtain ⟨M2, hM2⟩ : ∃ M2 : xv_M, M2 = xv_sI M1 1 5 1 := ⟨_, rfl⟩
  have o2 : xl_OK M2 := by rw [hM2]; exact c1.1
  have f2 : ∀ x y, 2 ≤ x → Sm x y M1 M2 := fun x y hx => by rw [hM2]; exact Sm.sI (by omega)
  have sb2 : SB 153 a M2 := sb.fr g.n g.m (f2 _ _ (by omega))
  have f1 : ∀ x y, (y < 153 ∨ 181 ≤ x) → Sm x y M M1 := fun x y hx r j q1 q2 => c1.2.2.2.2 r j (by omega)
  refine ⟨M2, ?_, ⟨h.1.fr g o2 ((f1 _ _ (by omega)).tr (f2 _ _ (by omega))), h.2.1, ((f1 39 39 (by omega)).tr (f2 39 39 (by omega)) 39 0 (by omega) (by omega)).1.trans h.2.2.1, h.2.2.2.1, h.2.2.2.2.fr h.2.2.2.1 (by rw [hM2]; exact c1.2.1) ((f1 _ _ (by omega)).tr (f2 _ _ (by omega)))⟩, sb2, by rw [hM2, xe_I_sI, if_pos ⟨rfl, rfl⟩], (f1 _ _ (by omega)).tr (f2 _ _ (by omega))⟩
  unfold D_X11_keep
  rw [xg_1_2 hO, xg_1_0 hO, xg_2_0 hO, brcs hO (p := 153) (by unfold Bk; omega), d1, xe_call, xu_1_5 c1.1 (Or.inr rfl), ← hM2, xg_1_2 o2, bgs o2 (p := 153) (by unfold Bk; omega) 0 (j := 1) (v := 1) rfl, brc o2 (p := 153) (by unfold Bk; omega) (r := 1) (c := 5) (by decide) rfl, xm_countThere hbc o2 (p := 153) (by unfold Bk; omega) sb2.2.1 g, xe_call]
theorem ok_keep (hbc : BC) {M : xv_M} (hi : INV M) : ok2 (D_X11_keep 1) (D_X12_keep 188) M := by
  obtain ⟨k, hk, cl, sl, tx⟩ := hi
  obtain ⟨M1, e1, c1, sb, e15, fr⟩ := xc_keep hbc cl
  have o1 := c1.1.1.1
  have e189 : xv_I M1 189 = xv_I M 189 := funext fun j => (fr 189 j (by omega) (by omega)).1
  have e190 : xv_I M1 190 = xv_I M 190 := funext fun j => (fr 190 j (by omega) (by omega)).1
  have ek : xv_I M1 188 2 = (k : Int) := (fr 188 2 (by omega) (by omega)).1.trans hk
  have e2 := md_keep (M := M1) (a := xv_I M1 189) (s := xv_I M1 191) (f0 := xv_I M1 188 4) o1 (by rw [e189]; exact cl.2.1.1.1.2.1)
  have en : mk (mks M1 (xv_I M1 191) (xv_I M1 188 4)) (xv_I M1 189) = M1 := by
    have q : mks M1 (xv_I M1 191) (xv_I M1 188 4) = M1 := by
      unfold mks xv_sI xv_rI
      obtain ⟨K, I, J, P⟩ := M1
      simp only [Prod.mk.injEq, true_and, and_true]
      funext r j
      by_cases h1 : r = 188 ∧ j = 4
      · obtain ⟨rfl, rfl⟩ := h1
        simp [xv_up, xv_I]
      · by_cases h2 : r = 191
        · subst h2
          simp [xv_up, xv_rw, xv_I]
        · simp [xv_up, xv_rw, h1, h2]
    rw [q, mk_self]
  rw [en] at e2
  have fm : ∀ r j, r ≠ 189 → r ≠ 191 → ¬ (r = 188 ∧ j = 4) → xv_I (mk (mks M1 (rTop (xv_I M1 189) (xv_I M1 191)) 1) (xv_I M1 189)) r j = xv_I M1 r j := fun r j h1 h2 h3 => by
    rw [mk_In h1]
    simp [mks, xv_I, xv_sI, xv_rI, xv_rw, xv_up, h2, h3]
  have f4 : xv_I (mk (mks M1 (rTop (xv_I M1 189) (xv_I M1 191)) 1) (xv_I M1 189)) 188 4 = 1 := by
    rw [mk_In (by decide)]
    simp [mks, xv_I, xv_sI, xv_rI, xv_rw, xv_up]
  have f191 : xv_I (mk (mks M1 (rTop (xv_I M1 189) (xv_I M1 191)) 1) (xv_I M1 189)) 191 = rTop (xv_I M1 189) (xv_I M1 191) := funext fun j => by
    rw [mk_In (by decide)]
    simp [mks, xv_I, xv_sI, xv_rI, xv_rw, xv_up]
  have r1 : xv_I (mk (mks M1 (rTop (xv_I M1 189) (xv_I M1 191)) 1) (xv_I M1 189)) 189 = xv_I M1 189 := funext fun j => mk_I
  have r2 : xv_I (mk (mks M1 (rTop (xv_I M1 189) (xv_I M1 191)) 1) (xv_I M1 189)) 190 = xv_I M1 190 := funext fun j => fm 190 j (by decide) (by decide) (by omega)
  rw [e189] at e2
  refine ⟨_, M1, _, o1, e1, e2, k, ?_, ?_, ?_, ?_⟩
  · rw [← e189, fm 188 2 (by decide) (by decide) (by decide)]; exact ek
  · rw [← e189, r1, r2, e189, e190]
    exact c1.fr o1 rfl (fun r j h1 h2 => ⟨by rw [← e189]; exact fm r j (by omega) (by omega) (by omega), rfl⟩)
  · rw [← e189]
    refine ⟨by rw [f4, fm 1 5 (by decide) (by decide) (by decide), e15], by rw [fm 1 5 (by decide) (by decide) (by decide), e15]; exact Or.inr rfl, fun _ => ?_⟩
    rw [f191]
    have eq : rEq (xv_I M 189) (rTop (xv_I M1 189) (xv_I M1 191)) := fun j hj => by
      show (if j < 870 then xv_I M1 189 j else _) = _
      rw [if_pos hj, e189]
    exact ⟨(sb.cg eq cl.2.1.1.1).fr (cl.2.1.cg eq).1.1.n (cl.2.1.cg eq).1.1.m (fun r j h1 h2 => ⟨fm r j (by omega) (by omega) (by omega), rfl⟩), cl.2.1.cg eq⟩
  · rw [← e189]
    refine tx.fr ?_ (fun j => ?_) ?_ (fun j => ?_)
    · exact (fm 181 0 (by decide) (by decide) (by decide)).trans (fr 181 0 (by omega) (by omega)).1
    · exact (fm 182 j (by decide) (by decide) (by omega)).trans (fr 182 j (by omega) (by omega)).1
    · exact (fm 188 5 (by decide) (by decide) (by decide)).trans (fr 188 5 (by omega) (by omega)).1
    · exact (fm 192 j (by decide) (by decide) (by omega)).trans (fr 192 j (by omega) (by omega)).1
theorem ok_restore (hbc : BC) {M : xv_M} (hi : INV M) : ok2 (D_X11_restore 1) (D_X12_restore 188) M := by
  have hi' := hi
  obtain ⟨k, hk, cl, sl, tx⟩ := hi'
  have hO := cl.1.1.1
  obtain ⟨sl1, sl2, sl3⟩ := sl
  rcases sl2 with e | e
  · have en := mk_norm hk
    have e2 := md_restore0 (M := M) (H := xv_I M 190) (a := xv_I M 189) (k := k) hO (sl1.trans e)
    rw [en] at e2
    refine ⟨_, M, M, hO, ?_, e2, hi⟩
    unfold D_X11_restore
    rw [xg_1_5 hO, e, xe_cmp (by decide) (by decide) (by decide) (by decide), if_neg (by decide)]
  · obtain ⟨sb, gs⟩ := sl3 e
    obtain ⟨M1, d1, rc, f1, s1⟩ := xc_rec cl
    have o1 := rc.1.1.1
    have hb : Bk 153 := by unfold Bk; omega
    obtain ⟨M2, d2, l2, s2, p2, q2⟩ := xm_become (a := xv_I M 191) o1 hb (by decide) gs (sb.fr gs.1.1.n gs.1.1.m (f1.1.sub (by omega) (by omega)))
    have o2 := l2.1.1
    have dc : D_X11_restore 1 M = some (rth (xv_I M 191) (rn (xv_I M 191)), M2) := by
      unfold D_X11_restore
      rw [xg_1_5 hO, e, xe_cmp (by decide) (by decide) (by decide) (by decide), if_pos (by decide), xg_1_1 hO, xg_1_0 hO, xg_2_0 hO, xr_39 hO, d1, xe_call, xg_1_0 o1, xg_1_2 o1, xr_2 o1, d2, xe_call, xg_1_0 o2, xg_2_0 o2, xg_3_1 o2, xr_4 o2, show D_X5_countThere 4 M2 = _ from xm_countThere hbc o2 (p := 3) (Or.inl rfl) l2.1.2.2.1 gs.1.1, xe_call]
    have fr : Fr M M2 := f1.tr ⟨s2.sub (by omega) (by omega), q2⟩
    have e191 : xv_I M2 191 = xv_I M 191 := funext fun j => (fr.1 191 j (by omega) (by omega)).1
    have eq : rEq (xv_I M 191) (rTop (xv_I M 191) (xv_I M 189)) := fun j hj => if_pos hj
    have c2 : CAct (xv_I M 189) (xv_I M 190) k M M2 (some (rTop (xv_I M 191) (xv_I M 189))) := ⟨⟨l2.cg eq gs.1.1, gs.cg eq, (s2 39 0 (by omega) (by omega)).1.trans rc.2.1, hCnt_le cl.2.2.2.1, rc.2.2.fr (hCnt_le cl.2.2.2.1) p2 (s2.sub (by omega) (by omega))⟩, fr⟩
    obtain ⟨en, o2', i2⟩ := hi.act hk c2
    have e4 : xv_I M2 188 4 = 1 := (fr.1 188 4 (by omega) (by omega)).1.trans (sl1.trans e)
    have e2 := md_restore (M := M2) (H := xv_I M 190) (a := xv_I M 189) (k := k) o2 cl.2.2.2.1 e4 e191 gs.1.1.2.1
    have hgn := gs.1.1.n
    rw [en, rth_cg (a := xv_I M 191) (fun s hs => eq _ (by omega))] at e2
    exact ⟨_, M2, _, o2, dc, e2, i2⟩
