/-! ## the reference records, restores -/
/-- the memory, but the reference's history row is h and it keeps k states -/
def mkh (M : xv_M) (h : RW) (k : Int) : xv_M := xv_sI (xv_rI M 190 h) 188 2 k
theorem mkh_I190 {M : xv_M} {h : RW} {k : Int} {i : Nat} : xv_I (mkh M h k) 190 i = h i := by simp [mkh, xv_I, xv_sI, xv_rI, xv_rw, xv_up]
theorem mkh_Ik {M : xv_M} {h : RW} {k : Int} : xv_I (mkh M h k) 188 2 = k := by simp [mkh, xv_I, xv_sI, xv_rI, xv_rw, xv_up]
theorem mkh_In {M : xv_M} {h : RW} {k : Int} {r i : Nat} (h1 : r ≠ 190) (h2 : ¬ (r = 188 ∧ i = 2)) : xv_I (mkh M h k) r i = xv_I M r i := by simp [mkh, xv_I, xv_sI, xv_rI, xv_rw, xv_up, h1, h2]
theorem mkh_OK {M : xv_M} {h : RW} {k : Int} : xl_OK (mkh M h k) = xl_OK M := rfl
theorem mkh_s190 {M : xv_M} {h : RW} {k : Int} {i : Nat} {v : Int} : xv_sI (mkh M h k) 190 i v = mkh M (up1 h i v) k := by
  unfold mkh xv_sI xv_rI
  simp only [Prod.mk.injEq, true_and, and_true]
  funext r j
  by_cases h1 : r = 190
  · subst h1
    simp [xv_up, xv_rw, up1]
  · simp [xv_up, xv_rw, h1]
theorem mkh_sk {M : xv_M} {h : RW} {k v : Int} : xv_sI (mkh M h k) 188 2 v = mkh M h v := by
  unfold mkh xv_sI xv_rI
  simp only [Prod.mk.injEq, true_and, and_true]
  funext r j
  by_cases h1 : r = 188 ∧ j = 2
  · simp [xv_up, h1]
  · simp [xv_up, h1]
theorem mkh_sn {M : xv_M} {h : RW} {k v : Int} {r i : Nat} (h1 : r ≠ 190) (h2 : ¬ (r = 188 ∧ i = 2)) : xv_sI (mkh M h k) r i v = mkh (xv_sI M r i v) h k := by
  unfold mkh xv_sI xv_rI
  simp only [Prod.mk.injEq, true_and, and_true]
  funext r' j
  by_cases h3 : r' = r ∧ j = i
  · obtain ⟨rfl, rfl⟩ := h3
    simp [xv_up, xv_rw, h1, h2]
  · by_cases h4 : r' = 190
    · subst h4
      simp [xv_up, xv_rw, h3]
    · simp [xv_up, xv_rw, h3, h4]
theorem mkh_self (M : xv_M) : mkh M (xv_I M 190) (xv_I M 188 2) = M := by
  unfold mkh xv_sI xv_rI
  obtain ⟨K, I, J, P⟩ := M
  simp only [Prod.mk.injEq, true_and, and_true]
  funext r j
  by_cases h1 : r = 190
  · subst h1
    simp [xv_up, xv_rw, xv_I]
  · by_cases h2 : r = 188 ∧ j = 2
    · obtain ⟨rfl, rfl⟩ := h2
      simp [xv_up, xv_I]
    · simp [xv_up, xv_rw, h1, h2]
/-- a state laid into the history at place k; the oldest dropped -/
def hLay (h : RW) (k : Nat) (a : RW) : RW := fun i => if 870 * k ≤ i ∧ i < 870 * k + 870 then a (i - 870 * k) else h i
def hDrop (h : RW) : RW := fun i => if i < 2610 then h (i + 870) else h i
section MD4
variable {M : xv_M} {a h : RW}
def hRec (h : RW) (k : Nat) (a : RW) : RW := if k = 4 then hLay (hDrop h) 3 a else hLay h k a
def hCnt (k : Nat) : Nat := if k = 4 then 4 else k + 1
theorem md_record (hM : xl_OK M) {k : Nat} (hk : k ≤ 4) : D_X12_record 188 (mk (mkh M h (k : Int)) a) = some ((), mk (mkh M (hRec h k a) (hCnt k : Int)) a) := by
  have hO : ∀ (b h' : RW) (k' : Int), xl_OK (mk (mkh M h' k') b) := fun _ _ _ => hM
  have rk : ∀ (b h' : RW) (k' : Int), xv_I (mk (mkh M h' k') b) 188 2 = k' := fun _ _ _ => by rw [mk_In (by decide), mkh_Ik]
  have sk : ∀ (b h' : RW) (k' v : Int), xv_sI (mk (mkh M h' k') b) 188 2 v = mk (mkh M h' v) b := fun _ _ _ _ => by rw [mk_sIn (by decide), mkh_sk]
  have rh : ∀ (b h' : RW) (k' : Int) (i : Nat), xv_I (mk (mkh M h' k') b) 190 i = h' i := fun _ _ _ _ => by rw [mk_In (by decide), mkh_I190]
  have sh : ∀ (b h' : RW) (k' : Int) (i : Nat) (v : Int), xv_sI (mk (mkh M h' k') b) 190 i v = mk (mkh M (up1 h' i v) k') b := fun _ _ _ _ _ => by rw [mk_sIn (by decide), mkh_s190]
  unfold D_X12_record
  rw [xg_188_2 (hO _ _ _), rk]
  refine xe_letp (fun j => ∀ (h' : RW) (n : Nat), n < 4 → j (mk (mkh M h' (n : Int)) a) = some ((), mk (mkh M (hLay h' n a) ((n : Int) + 1)) a)) ?_ ?_
  · intro h' n hn
    refine xe_loop (n := 870) (fun x => ((x : Int), mk (mkh M (fun i => if 870 * n ≤ i ∧ i < 870 * n + x then a (i - 870 * n) else h' i) (n : Int)) a)) ?_ (by decide) ?_ ?_
    · refine congrArg (fun q => ((0 : Int), mk (mkh M q (n : Int)) a)) (funext fun i => ?_)
      rw [if_neg (by omega)]
    · intro x hx f
      have i1 : ((870 : Int) * (n : Int) + (x : Int)).toNat = 870 * n + x := by omega
      show xv_cmp (x : Int) 870 ((870 : Int) ≤ (x : Int)) _ _ = _
      rw [xe_cmp (by omega) (by omega) (by decide) (by decide), if_neg (by omega)]
      rw [xg_188_1 (hO _ _ _), xg_188_2 (hO _ _ _), rk, xg_188_0 (hO _ _ _), xa_189 (hO _ _ _) (by omega) (by omega), mk_I, xw_190 (hO _ _ _) (by omega) (by omega), sh, i1, Int.toNat_natCast]
      refine congrArg f (Prod.ext (by simp) (congrArg (fun q => mk (mkh M q (n : Int)) a) (funext fun i => ?_)))
      by_cases hi : i = 870 * n + x
      · subst hi
        rw [up1_s, if_pos (by omega)]
        congr 1
        omega
      · rw [up1_n hi]
        by_cases h2 : 870 * n ≤ i ∧ i < 870 * n + x
        · rw [if_pos h2, if_pos (by omega)]
        · rw [if_neg h2, if_neg (by omega)]
    · intro f
      show xv_cmp (870 : Int) 870 ((870 : Int) ≤ 870) _ _ = _
      rw [xe_cmp (by decide) (by decide) (by decide) (by decide), if_pos (by decide)]
      rw [xg_188_2 (hO _ _ _), rk, xu_188_2 (hO _ _ _), sk]
      rfl
  · intro j hj
    rw [xe_cmp (by omega) (by omega) (by decide) (by decide)]
    unfold hRec hCnt
    by_cases h4 : k = 4
    · subst h4
      rw [if_neg (by decide), if_pos rfl, if_pos rfl]
      refine xe_loop (n := 2610) (fun x => ((x : Int), mk (mkh M (fun i => if i < x then h (i + 870) else h i) 4) a)) ?_ (by decide) ?_ ?_
      · refine congrArg (fun q => ((0 : Int), mk (mkh M q 4) a)) (funext fun i => ?_)
        rw [if_neg (by omega)]
      · intro x hx f
        have i1 : ((x : Int) + 870).toNat = x + 870 := by omega
        show xv_cmp (x : Int) 2610 ((2610 : Int) ≤ (x : Int)) _ _ = _
        rw [xe_cmp (by omega) (by omega) (by decide) (by decide), if_neg (by omega)]
        rw [xg_188_1 (hO _ _ _), xg_188_1 (hO _ _ _), xa_190 (hO _ _ _) (by omega) (by omega), rh, i1, xw_190 (hO _ _ _) (by omega) (by omega), sh, Int.toNat_natCast]
        refine congrArg f (Prod.ext (by simp) (congrArg (fun q => mk (mkh M q 4) a) (funext fun i => ?_)))
        by_cases hi : i = x
        · subst hi
          rw [up1_s, if_neg (by omega), if_pos (by omega)]
        · rw [up1_n hi]
          by_cases h2 : i < x
          · rw [if_pos h2, if_pos (by omega)]
          · rw [if_neg h2, if_neg (by omega)]
      · intro f
        show xv_cmp (2610 : Int) 2610 ((2610 : Int) ≤ 2610) _ _ = _
        rw [xe_cmp (by decide) (by decide) (by decide) (by decide), if_pos (by decide)]
        rw [xg_188_2 (hO _ _ _), rk, xu_188_2 (hO _ _ _), sk]
        exact hj (hDrop h) 3 (by decide)
    · rw [if_pos (by omega), if_neg h4, if_neg h4]
      exact hj h k (by omega)
end MD4
