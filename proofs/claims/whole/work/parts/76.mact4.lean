/-! ## the reference undoes, keeps, restores -/
/-- how many are there -/
def rth (a : RW) : Nat → Int
  | 0 => 0
  | n + 1 => rth a n + a (6 + 7 * n + 4)
def rUnd (H : RW) (k : Nat) (a : RW) : RW := fun i => if i < 870 then H (870 * k + i) else a i
def rTop (s a : RW) : RW := fun i => if i < 870 then s i else a i
/-- the memory, but the reference's slot is s and is filled -/
def mks (M : xv_M) (s : RW) (f : Int) : xv_M := xv_sI (xv_rI M 191 s) 188 4 f
theorem mks_OK {M : xv_M} {s : RW} {f : Int} : xl_OK (mks M s f) = xl_OK M := rfl
section MG
variable {M : xv_M} {H a : RW} {k : Nat}
theorem md_there (h : xl_OK M) (g1 : 0 ≤ a 1 ∧ a 1 ≤ 60) : D_X12_there 188 (mk M a) = some (rth a (rn a), mk M a) := by
  have hM : ∀ b : RW, xl_OK (mk M b) := fun _ => h
  have e1 : (1 : Int).toNat = 1 := rfl
  have en : ((rn a : Nat) : Int) = a 1 := by show (((a 1).toNat : Nat) : Int) = a 1; omega
  unfold D_X12_there
  refine xe_loop (n := rn a) (fun i => (rth a i, (i : Int), mk M a)) rfl (by omega) ?_ ?_
  · intro i hi f
    have ek : ((i + 1 : Nat) : Int) = (i : Int) + 1 := by omega
    dsimp only
    rw [xg_188_0 (hM _), xa_189 (hM _) (by decide) (by decide), mk_I, e1, xe_cmp (by omega) (by omega) (by omega) (by omega), if_neg (by omega), xr_188 (hM _), md_of4 h (by omega), xe_call, ek]
    rfl
  · intro f
    dsimp only
    rw [xg_188_0 (hM _), xa_189 (hM _) (by decide) (by decide), mk_I, e1, xe_cmp (by omega) (by omega) (by omega) (by omega), if_pos (by omega)]
theorem md_undo0 (h : xl_OK M) : D_X12_undo 188 (mk (mkh M H 0) a) = some (-5, mk (mkh M H 0) a) := by
  have hM : xl_OK (mk (mkh M H 0) a) := h
  have e : xv_I (mk (mkh M H 0) a) 188 2 = 0 := by rw [mk_In (by decide), mkh_Ik]
  unfold D_X12_undo
  rw [xg_188_2 hM, e, xe_cmp (by decide) (by decide) (by decide) (by decide), if_neg (by decide)]
theorem md_undo (h : xl_OK M) (hk : k < 4) : D_X12_undo 188 (mk (mkh M H ((k + 1 : Nat) : Int)) a) = some ((k : Int), mk (mkh M H (k : Int)) (rUnd H k a)) := by
  have hM : ∀ (b H : RW) (k : Int), xl_OK (mk (mkh M H k) b) := fun _ _ _ => h
  have rk : ∀ (b h' : RW) (k' : Int), xv_I (mk (mkh M h' k') b) 188 2 = k' := fun _ _ _ => by rw [mk_In (by decide), mkh_Ik]
  have sk : ∀ (b h' : RW) (k' v : Int), xv_sI (mk (mkh M h' k') b) 188 2 v = mk (mkh M h' v) b := fun _ _ _ _ => by rw [mk_sIn (by decide), mkh_sk]
  have rh : ∀ (b h' : RW) (k' : Int) (i : Nat), xv_I (mk (mkh M h' k') b) 190 i = h' i := fun _ _ _ _ => by rw [mk_In (by decide), mkh_I190]
  have e : (((k + 1 : Nat) : Int) - 1) = (k : Int) := by omega
  unfold D_X12_undo
  rw [xg_188_2 (hM _ _ _), rk, xe_cmp (by omega) (by omega) (by decide) (by decide), if_pos (by omega), xg_188_2 (hM _ _ _), rk, xu_188_2 (hM _ _ _), sk, e]
  refine xe_loop (n := 870) (fun x => ((x : Int), mk (mkh M H (k : Int)) (fun i => if i < x then H (870 * k + i) else a i))) ?_ (by decide) ?_ ?_
  · refine congrArg (fun q => ((0 : Int), mk (mkh M H (k : Int)) q)) (funext fun i => ?_)
    rw [if_neg (by omega)]
  · intro x hx f
    have i1 : ((870 : Int) * (k : Int) + (x : Int)).toNat = 870 * k + x := by omega
    dsimp only
    rw [xe_cmp (by omega) (by omega) (by decide) (by decide), if_neg (by omega), xg_188_0 (hM _ _ _), xg_188_1 (hM _ _ _), xg_188_2 (hM _ _ _), rk, xa_190 (hM _ _ _) (by omega) (by omega), rh, i1, xw_189 (hM _ _ _) (by omega) (by omega), mk_sI, Int.toNat_natCast]
    refine congrArg f (Prod.ext (by simp) (congrArg (mk (mkh M H (k : Int))) (funext fun i => ?_)))
    by_cases hi : i = x
    · subst hi
      rw [up1_s, if_pos (by omega)]
    · rw [up1_n hi]
      by_cases h2 : i < x
      · rw [if_pos h2, if_pos (by omega)]
      · rw [if_neg h2, if_neg (by omega)]
  · intro f
    dsimp only
    rw [xe_cmp (by decide) (by decide) (by decide) (by decide), if_pos (by decide), xg_188_2 (hM _ _ _), rk]
    rfl
theorem md_keep (h : xl_OK M) (g1 : 0 ≤ a 1 ∧ a 1 ≤ 60) {s : RW} {f0 : Int} : D_X12_keep 188 (mk (mks M s f0) a) = some (rth a (rn a), mk (mks M (rTop a s) 1) a) := by
  have hM : ∀ (s : RW) (f0 : Int) (b : RW), xl_OK (mk (mks M s f0) b) := fun _ _ _ => h
  have rs : ∀ (s : RW) (f0 : Int) (i : Nat), xv_I (mks M s f0) 191 i = s i := fun s f0 i => by simp [mks, xv_I, xv_sI, xv_rI, xv_rw, xv_up]
  have ss : ∀ (s : RW) (f0 : Int) (i : Nat) (v : Int), xv_sI (mks M s f0) 191 i v = mks M (up1 s i v) f0 := fun s f0 i v => by
    unfold mks xv_sI xv_rI
    simp only [Prod.mk.injEq, true_and, and_true]
    funext r j
    by_cases h1 : r = 191
    · subst h1
      simp [xv_up, xv_rw, up1]
    · simp [xv_up, xv_rw, h1]
  have sf : ∀ (s : RW) (f0 v : Int), xv_sI (mks M s f0) 188 4 v = mks M s v := fun s f0 v => by
    unfold mks xv_sI xv_rI
    simp only [Prod.mk.injEq, true_and, and_true]
    funext r j
    by_cases h1 : r = 188 ∧ j = 4
    · simp [xv_up, h1]
    · simp [xv_up, h1]
  unfold D_X12_keep
  refine xe_loop (n := 870) (fun x => ((x : Int), mk (mks M (fun i => if i < x then a i else s i) f0) a)) ?_ (by decide) ?_ ?_
  · refine congrArg (fun q => ((0 : Int), mk (mks M q f0) a)) (funext fun i => ?_)
    rw [if_neg (by omega)]
  · intro x hx f
    dsimp only
    rw [xe_cmp (by omega) (by omega) (by decide) (by decide), if_neg (by omega), xg_188_3 (hM _ _ _), xg_188_0 (hM _ _ _), xa_189 (hM _ _ _) (by omega) (by omega), mk_I, Int.toNat_natCast, xw_191 (hM _ _ _) (by omega) (by omega), mk_sIn (by decide), ss, Int.toNat_natCast]
    refine congrArg f (Prod.ext (by simp) (congrArg (fun q => mk (mks M q f0) a) (funext fun i => ?_)))
    by_cases hi : i = x
    · subst hi
      rw [up1_s, if_pos (by omega)]
    · rw [up1_n hi]
      by_cases h2 : i < x
      · rw [if_pos h2, if_pos (by omega)]
      · rw [if_neg h2, if_neg (by omega)]
  · intro f
    dsimp only
    rw [xe_cmp (by decide) (by decide) (by decide) (by decide), if_pos (by decide), xu_188_4 (hM _ _ _) (Or.inr rfl), mk_sIn (by decide), sf, xr_188 (hM _ _ _), md_there (M := mks M _ _) h g1, xe_call]
    rfl
theorem md_restore0 (h : xl_OK M) (h4 : xv_I M 188 4 = 0) : D_X12_restore 188 (mk (mkh M H (k : Int)) a) = some (-5, mk (mkh M H (k : Int)) a) := by
  have hM : xl_OK (mk (mkh M H (k : Int)) a) := h
  have e : xv_I (mk (mkh M H (k : Int)) a) 188 4 = 0 := by rw [mk_In (by decide), mkh_In (by decide) (by decide), h4]
  unfold D_X12_restore
  rw [xg_188_4 hM, e, xe_cmp (by decide) (by decide) (by decide) (by decide), if_neg (by decide)]
theorem md_restore (h : xl_OK M) (hk : k ≤ 4) (h4 : xv_I M 188 4 = 1) {s : RW} (hs : xv_I M 191 = s) (g1 : 0 ≤ s 1 ∧ s 1 ≤ 60) : D_X12_restore 188 (mk (mkh M H (k : Int)) a) = some (rth (rTop s a) (rn s), mAct M H a k (some (rTop s a))) := by
  have hM : ∀ (b H : RW) (k : Int), xl_OK (mk (mkh M H k) b) := fun _ _ _ => h
  have e : xv_I (mk (mkh M H (k : Int)) a) 188 4 = 1 := by rw [mk_In (by decide), mkh_In (by decide) (by decide), h4]
  have es : ∀ (b H : RW) (k : Int) (i : Nat), xv_I (mk (mkh M H k) b) 191 i = s i := fun b H k i => by rw [mk_In (by decide), mkh_In (by decide) (by omega), hs]
  unfold D_X12_restore
  rw [xg_188_4 (hM _ _ _), e, xe_cmp (by decide) (by decide) (by decide) (by decide), if_pos (by decide), xr_188 (hM _ _ _), md_record h hk, xe_call]
  show _ = some (rth (rTop s a) (rn s), mk (mkh M (hRec H k a) (hCnt k : Int)) (rTop s a))
  generalize hRec H k a = H'
  generalize (hCnt k : Int) = k'
  refine xe_loop (n := 870) (fun x => ((x : Int), mk (mkh M H' k') (fun i => if i < x then s i else a i))) ?_ (by decide) ?_ ?_
  · refine congrArg (fun q => ((0 : Int), mk (mkh M H' k') q)) (funext fun i => ?_)
    rw [if_neg (by omega)]
  · intro x hx f
    dsimp only
    rw [xe_cmp (by omega) (by omega) (by decide) (by decide), if_neg (by omega), xg_188_0 (hM _ _ _), xg_188_3 (hM _ _ _), xa_191 (hM _ _ _) (by omega) (by omega), es, Int.toNat_natCast, xw_189 (hM _ _ _) (by omega) (by omega), mk_sI, Int.toNat_natCast]
    refine congrArg f (Prod.ext (by simp) (congrArg (mk (mkh M H' k')) (funext fun i => ?_)))
    by_cases hi : i = x
    · subst hi
      rw [up1_s, if_pos (by omega)]
    · rw [up1_n hi]
      by_cases h2 : i < x
      · rw [if_pos h2, if_pos (by omega)]
      · rw [if_neg h2, if_neg (by omega)]
  · intro f
    dsimp only
    have e1 : rTop s a 1 = s 1 := if_pos (by decide)
    have hth := md_there (M := mkh M H' k') (a := rTop s a) h (by rw [e1]; exact g1)
    have en : rn (rTop s a) = rn s := by show (rTop s a 1).toNat = (s 1).toNat; rw [e1]
    rw [en] at hth
    rw [xe_cmp (by decide) (by decide) (by decide) (by decide), if_pos (by decide), xr_188 (hM _ _ _), show D_X12_there 188 (mk (mkh M H' k') (fun i => if i < 870 then s i else a i)) = _ from hth, xe_call]
end MG
