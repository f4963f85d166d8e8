/-! ## one state's cells copied over another's -/
/-- where a state may lie -/
def Bk (p : Nat) : Prop := p = 3 ∨ p = 41 ∨ p = 69 ∨ p = 97 ∨ p = 125 ∨ p = 153
def xkT : List (Nat × Nat) := [(6, 0), (5, 0), (14, 60), (14, 60), (14, 60), (14, 60), (14, 60), (14, 60), (9, 0), (14, 6), (14, 6), (15, 6), (14, 6), (14, 6), (14, 6), (14, 6), (18, 6), (14, 60), (14, 60), (14, 60), (14, 60), (14, 60), (14, 60), (3, 0), (14, 12), (14, 12), (14, 12), (14, 12)]
theorem bk_kt : ∀ r, r < 28 → ((if 3 + r = 0 then (99, 0) else xl_K0.getD (3 + r - 1) (99, 0)) = xkT.getD r (99, 0) ∧ (if 41 + r = 0 then (99, 0) else xl_K0.getD (41 + r - 1) (99, 0)) = xkT.getD r (99, 0) ∧ (if 69 + r = 0 then (99, 0) else xl_K0.getD (69 + r - 1) (99, 0)) = xkT.getD r (99, 0) ∧ (if 97 + r = 0 then (99, 0) else xl_K0.getD (97 + r - 1) (99, 0)) = xkT.getD r (99, 0) ∧ (if 125 + r = 0 then (99, 0) else xl_K0.getD (125 + r - 1) (99, 0)) = xkT.getD r (99, 0) ∧ (if 153 + r = 0 then (99, 0) else xl_K0.getD (153 + r - 1) (99, 0)) = xkT.getD r (99, 0)) := by decide +kernel
theorem bk_k {M : xv_M} (h : xl_OK M) {p r : Nat} (hp : Bk p) (hr : r < 28) {k : Nat × Nat} (hk : xkT.getD r (99, 0) = k) : xv_kd M (p + r) = k := by
  obtain ⟨t1, t2, t3, t4, t5, t6⟩ := bk_kt r hr
  rw [hk] at t1 t2 t3 t4 t5 t6
  rcases hp with rfl | rfl | rfl | rfl | rfl | rfl
  · exact xl_k h _ t1
  · exact xl_k h _ t2
  · exact xl_k h _ t3
  · exact xl_k h _ t4
  · exact xl_k h _ t5
  · exact xl_k h _ t6
def bkT : List (Nat × Nat × Nat) := [(0, 1, 1), (0, 2, 8), (0, 3, 23), (1, 2, 2), (1, 3, 3), (1, 4, 4), (1, 5, 5), (1, 6, 6), (1, 7, 7), (8, 1, 9), (8, 2, 10), (8, 3, 11), (8, 4, 12), (8, 5, 13), (8, 6, 14), (8, 7, 15), (8, 8, 16), (16, 0, 17), (16, 1, 18), (16, 2, 19), (16, 3, 20), (16, 4, 21), (16, 5, 22), (23, 2, 24), (23, 3, 25), (23, 4, 26), (23, 5, 27)]
theorem bk_tb : ([3, 41, 69, 97, 125, 153].all (fun p => bkT.all (fun q => xl_tab.contains (p + q.1, q.2.1, p + q.2.2)))) = true := by decide +kernel
theorem bk_P {M : xv_M} (h : xl_OK M) {p : Nat} (hp : Bk p) (i : Nat) {r j v : Nat} (hi : bkT[i]? = some (r, j, v)) (hr : r < 28) : xv_P M (p + r) j = p + v := by
  have hm : p ∈ [3, 41, 69, 97, 125, 153] := by
    rcases hp with rfl | rfl | rfl | rfl | rfl | rfl <;> decide
  have t := List.all_eq_true.mp (List.all_eq_true.mp bk_tb p hm) _ (List.mem_of_getElem? hi)
  have t2 := List.all_eq_true.mp xl_tab_ok _ (List.contains_iff_mem.mp t)
  have t3 : xl_P0 (p + r) j = p + v := eq_of_beq t2
  refine xl_p h (p + r) j ?_ t3
  unfold Bk at hp
  omega
theorem bg {T : Type} {M : xv_M} (h : xl_OK M) {p : Nat} (hp : Bk p) (i : Nat) {r j v c : Nat} (hi : bkT[i]? = some (r, j, v)) (hr : r < 28) (hc : (xkT.getD r (99, 0)).1 = c) {f : Nat → Option T} : xv_gP M c (p + r) j f = f (p + v) := xe_gP (by rw [bk_k h hp hr rfl]; exact hc) (bk_P h hp i hi hr)
theorem bgI {T : Type} {M : xv_M} (h : xl_OK M) {p : Nat} (hp : Bk p) {r j c : Nat} (hr : r < 28) (hc : (xkT.getD r (99, 0)).1 = c) {f : Int → Option T} : xv_gI M c (p + r) j f = f (xv_I M (p + r) j) := xe_gI (by rw [bk_k h hp hr rfl]; exact hc)
theorem bgJ {T : Type} {M : xv_M} (h : xl_OK M) {p : Nat} (hp : Bk p) {r j c : Nat} (hr : r < 28) (hc : (xkT.getD r (99, 0)).1 = c) {f : Int64 → Option T} : xv_gJ M c (p + r) j f = f (xv_J M (p + r) j) := xe_gJ (by rw [bk_k h hp hr rfl]; exact hc)
theorem buI {T : Type} {M : xv_M} (h : xl_OK M) {p : Nat} (hp : Bk p) {r j c : Nat} {v : Int} (hr : r < 28) (hc : (xkT.getD r (99, 0)).1 = c) {f : xv_M → Option T} : xv_pI M c (p + r) j v f = f (xv_sI M (p + r) j v) := xe_pI (by rw [bk_k h hp hr rfl]; exact hc)
theorem buJ {T : Type} {M : xv_M} (h : xl_OK M) {p : Nat} (hp : Bk p) {r j c : Nat} {v : Int64} (hr : r < 28) (hc : (xkT.getD r (99, 0)).1 = c) {f : xv_M → Option T} : xv_pJ M c (p + r) j v f = f (xv_sJ M (p + r) j v) := xe_pJ (by rw [bk_k h hp hr rfl]; exact hc)
theorem brc {α : Type} {M : xv_M} (h : xl_OK M) {p : Nat} (hp : Bk p) {r c : Nat} {x : Option α} (hr : r < 28) (hc : (xkT.getD r (99, 0)).1 = c) : xv_rc M c (p + r) x = x := xe_rc (by rw [bk_k h hp hr rfl]; exact hc)
def KI (r j : Nat) : Prop := (r = 0 ∧ j = 0) ∨ (r = 1 ∧ j = 0) ∨ (2 ≤ r ∧ r ≤ 7 ∧ j < 60) ∨ (r = 8 ∧ j = 0) ∨ (9 ≤ r ∧ r ≤ 15 ∧ r ≠ 11 ∧ j < 6) ∨ (17 ≤ r ∧ r ≤ 22 ∧ j < 60) ∨ (r = 23 ∧ j < 2) ∨ (24 ≤ r ∧ r ≤ 27 ∧ j < 12)
def KJ (r j : Nat) : Prop := (r = 1 ∧ j = 1) ∨ (r = 11 ∧ j < 6)
/-- the first k rows of the state at q lie at p -/
def CpS (p q k : Nat) (M0 M : xv_M) : Prop := xl_OK M ∧ M.2.2.2 = M0.2.2.2 ∧ (∀ r j, r < k → KI r j → xv_I M (p + r) j = xv_I M0 (q + r) j) ∧ (∀ r j, r < k → KJ r j → xv_J M (p + r) j = xv_J M0 (q + r) j) ∧ (∀ r j, ¬ (p ≤ r ∧ r < p + k) → xv_I M r j = xv_I M0 r j ∧ xv_J M r j = xv_J M0 r j)
theorem bk_dis {p q : Nat} (hp : Bk p) (hq : Bk q) (h : p ≠ q) : p + 28 ≤ q ∨ q + 28 ≤ p := by
  unfold Bk at hp hq
  omega
theorem CpS.step {p q k : Nat} {M0 M M' : xv_M} (c : CpS p q k M0 M) (hd : p + 28 ≤ q ∨ q + 28 ≤ p) (hk : k < 28) (hO : xl_OK M') (hP : M'.2.2.2 = M.2.2.2) (hF : ∀ r j, r ≠ p + k → xv_I M' r j = xv_I M r j ∧ xv_J M' r j = xv_J M r j) (hI : ∀ j, KI k j → xv_I M' (p + k) j = xv_I M (q + k) j) (hJ : ∀ j, KJ k j → xv_J M' (p + k) j = xv_J M (q + k) j) : CpS p q (k + 1) M0 M' := by
  obtain ⟨c1, c2, c3, c4, c5⟩ := c
  refine ⟨hO, hP.trans c2, fun r j hr hj => ?_, fun r j hr hj => ?_, fun r j hr => ?_⟩
  · by_cases h : r = k
    · subst h
      rw [hI j hj, (c5 (q + r) j (by omega)).1]
    · rw [(hF (p + r) j (by omega)).1, c3 r j (by omega) hj]
  · by_cases h : r = k
    · subst h
      rw [hJ j hj, (c5 (q + r) j (by omega)).2]
    · rw [(hF (p + r) j (by omega)).2, c4 r j (by omega) hj]
  · rw [(hF r j (by omega)).1, (hF r j (by omega)).2]
    exact c5 r j (by omega)
theorem CpS.row {T : Type} {p q k n : Nat} {m : Int} (hm : m = (n : Int)) {M0 M : xv_M} (c : CpS p q k M0 M) (hp : Bk p) (hq : Bk q) (hn : p ≠ q) (hk : k < 28) (ht : xkT.getD k (99, 0) = (14, n)) (h60 : n ≤ 60) (hI : ∀ j, KI k j → j < n) (hJ : ∀ j, ¬ KJ k j) : ∃ M', CpS p q (k + 1) M0 M' ∧ ∀ f : xv_M → Option T, xv_cpI M (q + k) 0 (p + k) 0 m f = f M' := by
  subst hm
  have h := c.1
  refine ⟨xv_rI M (p + k) (va_cpy (xv_I M (q + k)) (xv_I M (p + k)) 0 0 n), c.step (bk_dis hp hq hn) hk h rfl (fun r j hr => ?_) (fun j hj => ?_) (fun j hj => absurd hj (hJ j)), fun f => ?_⟩
  · refine ⟨?_, rfl⟩
    show (if r = p + k then _ else _) = _
    rw [if_neg hr]
    rfl
  · show (if p + k = p + k then _ else _) = _
    rw [if_pos rfl]
    unfold va_cpy
    have := hI j hj
    rw [if_pos (by omega)]
    congr 1
    omega
  · unfold xv_cpI
    rw [bk_k h hp hk ht, bk_k h hq hk ht]
    rw [if_pos ⟨rfl, rfl, by omega, by omega, by omega, by show (0 : Int) + (n : Int) ≤ (n : Int); omega, by show (0 : Int) + (n : Int) ≤ (n : Int); omega, by omega, by omega, by omega⟩]
    rw [Int.toNat_natCast]
    rfl
theorem CpS.rowJ {T : Type} {p q : Nat} {M0 M : xv_M} (c : CpS p q 11 M0 M) (hp : Bk p) (hq : Bk q) (hn : p ≠ q) : ∃ M', CpS p q 12 M0 M' ∧ ∀ f : xv_M → Option T, xv_cpJ M (q + 11) 0 (p + 11) 0 6 f = f M' := by
  have h := c.1
  refine ⟨xv_rJ M (p + 11) (va_cpy (xv_J M (q + 11)) (xv_J M (p + 11)) 0 0 6), c.step (bk_dis hp hq hn) (by decide) h rfl (fun r j hr => ?_) (fun j hj => ?_) (fun j hj => ?_), fun f => ?_⟩
  · refine ⟨rfl, ?_⟩
    show (if r = p + 11 then _ else _) = _
    rw [if_neg hr]
    rfl
  · unfold KI at hj
    omega
  · show (if p + 11 = p + 11 then _ else _) = _
    rw [if_pos rfl]
    unfold va_cpy
    have : j < 6 := by unfold KJ at hj; omega
    rw [if_pos (by omega)]
    congr 1
    omega
  · unfold xv_cpJ
    rw [bk_k h hp (r := 11) (by decide) (k := (15, 6)) rfl, bk_k h hq (r := 11) (by decide) (k := (15, 6)) rfl]
    rw [if_pos ⟨rfl, rfl, by omega, by omega, by omega, by decide, by decide, by omega, by omega, by omega⟩]
    rfl
theorem CpS.skip {p q : Nat} {M0 M : xv_M} (c : CpS p q 16 M0 M) (hd : p + 28 ≤ q ∨ q + 28 ≤ p) : CpS p q 17 M0 M := c.step hd (by decide) c.1 rfl (fun _ _ _ => ⟨rfl, rfl⟩) (fun j hj => by unfold KI at hj; omega) (fun j hj => by unfold KJ at hj; omega)
/-- one number -/
theorem CpS.one {p q k : Nat} {M0 M : xv_M} (c : CpS p q k M0 M) (hp : Bk p) (hq : Bk q) (hn : p ≠ q) (hk : k < 28) (hI : ∀ j, KI k j → j = 0) (hJ : ∀ j, ¬ KJ k j) : CpS p q (k + 1) M0 (xv_sI M (p + k) 0 (xv_I M (q + k) 0)) := by
  refine c.step (bk_dis hp hq hn) hk c.1 rfl (fun r j hr => ⟨?_, rfl⟩) (fun j hj => ?_) (fun j hj => absurd hj (hJ j))
  · rw [xe_I_sI, if_neg (fun z => hr z.1)]
  · rw [hI j hj, xe_I_sI, if_pos ⟨rfl, rfl⟩]
theorem xm_cp5 {p q : Nat} {M0 M : xv_M} (c : CpS p q 1 M0 M) (hp : Bk p) (hq : Bk q) (hn : p ≠ q) : ∃ M', D_X5_copyFrom (p + 1) (q + 1) M = some ((), M') ∧ CpS p q 8 M0 M' := by
  have h := c.1
  have hd := bk_dis hp hq hn
  obtain ⟨M2, hM2⟩ : ∃ M2 : xv_M, M2 = xv_sI M (p + 1) 0 (xv_I M (q + 1) 0) := ⟨_, rfl⟩
  obtain ⟨M4, hM4⟩ : ∃ M4 : xv_M, M4 = xv_sJ M2 (p + 1) 1 (xv_J M2 (q + 1) 1) := ⟨_, rfl⟩
  have h2 : xl_OK M2 := by rw [hM2]; exact h
  have c2 : CpS p q 2 M0 M4 := by
    rw [hM4, hM2]
    refine c.step hd (by decide) h rfl (fun r j hr => ⟨?_, ?_⟩) (fun j hj => ?_) (fun j hj => ?_)
    · rw [xe_I_sJ, xe_I_sI, if_neg (fun z => hr z.1)]
    · rw [xe_J_sJ, if_neg (fun z => hr z.1), xe_J_sI]
    · have : j = 0 := by unfold KI at hj; omega
      subst this
      rw [xe_I_sJ, xe_I_sI, if_pos ⟨rfl, rfl⟩]
    · have : j = 1 := by unfold KJ at hj; omega
      subst this
      rw [xe_J_sJ, if_pos ⟨rfl, rfl⟩, xe_J_sI]
  obtain ⟨N3, c3, e3⟩ := CpS.row (T := Unit × xv_M) (k := 2) (m := 60) (n := 60) rfl c2 hp hq hn (by decide) rfl (by decide) (fun j hj => by unfold KI at hj; omega) (fun j hj => by unfold KJ at hj; omega)
  obtain ⟨N4, c4, e4⟩ := CpS.row (T := Unit × xv_M) (k := 3) (m := 60) (n := 60) rfl c3 hp hq hn (by decide) rfl (by decide) (fun j hj => by unfold KI at hj; omega) (fun j hj => by unfold KJ at hj; omega)
  obtain ⟨N5, c5, e5⟩ := CpS.row (T := Unit × xv_M) (k := 4) (m := 60) (n := 60) rfl c4 hp hq hn (by decide) rfl (by decide) (fun j hj => by unfold KI at hj; omega) (fun j hj => by unfold KJ at hj; omega)
  obtain ⟨N6, c6, e6⟩ := CpS.row (T := Unit × xv_M) (k := 5) (m := 60) (n := 60) rfl c5 hp hq hn (by decide) rfl (by decide) (fun j hj => by unfold KI at hj; omega) (fun j hj => by unfold KJ at hj; omega)
  obtain ⟨N7, c7, e7⟩ := CpS.row (T := Unit × xv_M) (k := 6) (m := 60) (n := 60) rfl c6 hp hq hn (by decide) rfl (by decide) (fun j hj => by unfold KI at hj; omega) (fun j hj => by unfold KJ at hj; omega)
  obtain ⟨N8, c8, e8⟩ := CpS.row (T := Unit × xv_M) (k := 7) (m := 60) (n := 60) rfl c7 hp hq hn (by decide) rfl (by decide) (fun j hj => by unfold KI at hj; omega) (fun j hj => by unfold KJ at hj; omega)
  refine ⟨N8, ?_, c8⟩
  unfold D_X5_copyFrom
  rw [bgI h hq (r := 1) (c := 5) (by decide) rfl, buI h hp (r := 1) (c := 5) (by decide) rfl, ← hM2, bgJ h2 hq (r := 1) (c := 5) (by decide) rfl, buJ h2 hp (r := 1) (c := 5) (by decide) rfl, ← hM4]
  rw [bg c2.1 hq 3 (r := 1) (j := 2) (v := 2) (c := 5) rfl (by decide) rfl, bg c2.1 hp 3 (r := 1) (j := 2) (v := 2) (c := 5) rfl (by decide) rfl]
  rw [e3]
  rw [bg c3.1 hq 4 (r := 1) (j := 3) (v := 3) (c := 5) rfl (by decide) rfl, bg c3.1 hp 4 (r := 1) (j := 3) (v := 3) (c := 5) rfl (by decide) rfl]
  rw [e4]
  rw [bg c4.1 hq 5 (r := 1) (j := 4) (v := 4) (c := 5) rfl (by decide) rfl, bg c4.1 hp 5 (r := 1) (j := 4) (v := 4) (c := 5) rfl (by decide) rfl]
  rw [e5]
  rw [bg c5.1 hq 6 (r := 1) (j := 5) (v := 5) (c := 5) rfl (by decide) rfl, bg c5.1 hp 6 (r := 1) (j := 5) (v := 5) (c := 5) rfl (by decide) rfl]
  rw [e6]
  rw [bg c6.1 hq 7 (r := 1) (j := 6) (v := 6) (c := 5) rfl (by decide) rfl, bg c6.1 hp 7 (r := 1) (j := 6) (v := 6) (c := 5) rfl (by decide) rfl]
  rw [e7]
  rw [bg c7.1 hq 8 (r := 1) (j := 7) (v := 7) (c := 5) rfl (by decide) rfl, bg c7.1 hp 8 (r := 1) (j := 7) (v := 7) (c := 5) rfl (by decide) rfl]
  rw [e8]
theorem xm_cp9 {p q : Nat} {M0 M : xv_M} (c : CpS p q 8 M0 M) (hp : Bk p) (hq : Bk q) (hn : p ≠ q) : ∃ M', D_X9_copyFrom (p + 8) (q + 8) M = some ((), M') ∧ CpS p q 23 M0 M' := by
  have h := c.1
  have hd := bk_dis hp hq hn
  obtain ⟨N9, hN9⟩ : ∃ N9 : xv_M, N9 = xv_sI M (p + 8) 0 (xv_I M (q + 8) 0) := ⟨_, rfl⟩
  have c9 : CpS p q 9 M0 N9 := by rw [hN9]; exact c.one hp hq hn (by decide) (fun j hj => by unfold KI at hj; omega) (fun j hj => by unfold KJ at hj; omega)
  obtain ⟨N10, c10, e10⟩ := CpS.row (T := Unit × xv_M) (k := 9) (m := 6) (n := 6) rfl c9 hp hq hn (by decide) rfl (by decide) (fun j hj => by unfold KI at hj; omega) (fun j hj => by unfold KJ at hj; omega)
  obtain ⟨N11, c11, e11⟩ := CpS.row (T := Unit × xv_M) (k := 10) (m := 6) (n := 6) rfl c10 hp hq hn (by decide) rfl (by decide) (fun j hj => by unfold KI at hj; omega) (fun j hj => by unfold KJ at hj; omega)
  obtain ⟨N12, c12, e12⟩ := c11.rowJ (T := Unit × xv_M) hp hq hn
  obtain ⟨N13, c13, e13⟩ := CpS.row (T := Unit × xv_M) (k := 12) (m := 6) (n := 6) rfl c12 hp hq hn (by decide) rfl (by decide) (fun j hj => by unfold KI at hj; omega) (fun j hj => by unfold KJ at hj; omega)
  obtain ⟨N14, c14, e14⟩ := CpS.row (T := Unit × xv_M) (k := 13) (m := 6) (n := 6) rfl c13 hp hq hn (by decide) rfl (by decide) (fun j hj => by unfold KI at hj; omega) (fun j hj => by unfold KJ at hj; omega)
  obtain ⟨N15, c15, e15⟩ := CpS.row (T := Unit × xv_M) (k := 14) (m := 6) (n := 6) rfl c14 hp hq hn (by decide) rfl (by decide) (fun j hj => by unfold KI at hj; omega) (fun j hj => by unfold KJ at hj; omega)
  obtain ⟨N16, c16, e16⟩ := CpS.row (T := Unit × xv_M) (k := 15) (m := 6) (n := 6) rfl c15 hp hq hn (by decide) rfl (by decide) (fun j hj => by unfold KI at hj; omega) (fun j hj => by unfold KJ at hj; omega)
  have c17 := c16.skip hd
  unfold D_X9_copyFrom
  rw [bgI h hq (r := 8) (c := 9) (by decide) rfl, buI h hp (r := 8) (c := 9) (by decide) rfl, ← hN9]
  rw [bg c9.1 hq 9 (r := 8) (j := 1) (v := 9) (c := 9) rfl (by decide) rfl, bg c9.1 hp 9 (r := 8) (j := 1) (v := 9) (c := 9) rfl (by decide) rfl]
  rw [e10]
  rw [bg c10.1 hq 10 (r := 8) (j := 2) (v := 10) (c := 9) rfl (by decide) rfl, bg c10.1 hp 10 (r := 8) (j := 2) (v := 10) (c := 9) rfl (by decide) rfl]
  rw [e11]
  rw [bg c11.1 hq 11 (r := 8) (j := 3) (v := 11) (c := 9) rfl (by decide) rfl, bg c11.1 hp 11 (r := 8) (j := 3) (v := 11) (c := 9) rfl (by decide) rfl]
  rw [e12]
  rw [bg c12.1 hq 12 (r := 8) (j := 4) (v := 12) (c := 9) rfl (by decide) rfl, bg c12.1 hp 12 (r := 8) (j := 4) (v := 12) (c := 9) rfl (by decide) rfl]
  rw [e13]
  rw [bg c13.1 hq 13 (r := 8) (j := 5) (v := 13) (c := 9) rfl (by decide) rfl, bg c13.1 hp 13 (r := 8) (j := 5) (v := 13) (c := 9) rfl (by decide) rfl]
  rw [e14]
  rw [bg c14.1 hq 14 (r := 8) (j := 6) (v := 14) (c := 9) rfl (by decide) rfl, bg c14.1 hp 14 (r := 8) (j := 6) (v := 14) (c := 9) rfl (by decide) rfl]
  rw [e15]
  rw [bg c15.1 hq 15 (r := 8) (j := 7) (v := 15) (c := 9) rfl (by decide) rfl, bg c15.1 hp 15 (r := 8) (j := 7) (v := 15) (c := 9) rfl (by decide) rfl]
  rw [e16]
  refine xe_inv0 (I := fun (k : Nat) (s : Int × xv_M) => s.1 = (k : Int) ∧ CpS p q (17 + k) M0 s.2) (n := 6) (P := fun z => ∃ M', z = some ((), M') ∧ CpS p q 23 M0 M') (by decide) ⟨rfl, c17⟩ ?_ ?_
  · rintro k ⟨i, M1⟩ hk ⟨hi, c1⟩
    dsimp only at hi c1 ⊢
    subst hi
    have ek : ((k : Int) + 1) = ((k + 1 : Nat) : Int) := by omega
    have ht : xkT.getD (17 + k) (99, 0) = (14, 60) := by
      have : ∀ k, k < 6 → xkT.getD (17 + k) (99, 0) = (14, 60) := by decide
      exact this k hk
    obtain ⟨M2, c2, e2⟩ := CpS.row (T := Unit × xv_M) (m := 60) (n := 60) rfl c1 hp hq hn (by omega) ht (by decide) (fun j hj => by unfold KI at hj; omega) (fun j hj => by unfold KJ at hj; omega)
    refine ⟨(((k + 1 : Nat) : Int), M2), ⟨rfl, c2⟩, fun f => ?_⟩
    have hb : bkT[17 + k]? = some (16, k, 17 + k) := by
      have : ∀ k, k < 6 → bkT[17 + k]? = some (16, k, 17 + k) := by decide
      exact this k hk
    have ep : ∀ p, Bk p → ∀ f : Nat → Option (Unit × xv_M), xv_aP M1 18 (p + 16) (k : Int) f = f (p + (17 + k)) := fun p hp f => by
      rw [xe_aP (bk_k c1.1 hp (r := 16) (by decide) (k := (18, 6)) rfl) (by omega) (by omega) (by decide), Int.toNat_natCast, bk_P c1.1 hp (17 + k) hb (by decide)]
    rw [xe_cmp (by omega) (by omega) (by decide) (by decide), if_neg (by omega)]
    rw [bg c1.1 hq 16 (r := 8) (j := 8) (v := 16) (c := 9) rfl (by decide) rfl, ep q hq, bg c1.1 hp 16 (r := 8) (j := 8) (v := 16) (c := 9) rfl (by decide) rfl, ep p hp]
    rw [e2, ek]
  · rintro ⟨i, M1⟩ ⟨hi, c1⟩ f
    dsimp only at hi c1 ⊢
    subst hi
    rw [xe_cmp (by decide) (by decide) (by decide) (by decide), if_pos (by decide)]
    exact ⟨M1, rfl, c1⟩
theorem xm_cp3 {p q : Nat} {M0 M : xv_M} (c : CpS p q 23 M0 M) (hp : Bk p) (hq : Bk q) (hn : p ≠ q) : ∃ M', D_X3_copyFrom (p + 23) (q + 23) M = some ((), M') ∧ CpS p q 28 M0 M' := by
  have h := c.1
  have hd := bk_dis hp hq hn
  obtain ⟨M2, hM2⟩ : ∃ M2 : xv_M, M2 = xv_sI M (p + 23) 0 (xv_I M (q + 23) 0) := ⟨_, rfl⟩
  obtain ⟨M4, hM4⟩ : ∃ M4 : xv_M, M4 = xv_sI M2 (p + 23) 1 (xv_I M2 (q + 23) 1) := ⟨_, rfl⟩
  have h2 : xl_OK M2 := by rw [hM2]; exact h
  have c24 : CpS p q 24 M0 M4 := by
    rw [hM4, hM2]
    refine c.step hd (by decide) h rfl (fun r j hr => ⟨?_, rfl⟩) (fun j hj => ?_) (fun j hj => ?_)
    · rw [xe_I_sI, if_neg (fun z => hr z.1), xe_I_sI, if_neg (fun z => hr z.1)]
    · have : j = 0 ∨ j = 1 := by unfold KI at hj; omega
      rcases this with rfl | rfl
      · rw [xe_I_sI, if_neg (by omega), xe_I_sI, if_pos ⟨rfl, rfl⟩]
      · rw [xe_I_sI, if_pos ⟨rfl, rfl⟩, xe_I_sI, if_neg (by omega)]
    · unfold KJ at hj
      omega
  obtain ⟨N25, c25, e25⟩ := CpS.row (T := Unit × xv_M) (k := 24) (m := 12) (n := 12) rfl c24 hp hq hn (by decide) rfl (by decide) (fun j hj => by unfold KI at hj; omega) (fun j hj => by unfold KJ at hj; omega)
  obtain ⟨N26, c26, e26⟩ := CpS.row (T := Unit × xv_M) (k := 25) (m := 12) (n := 12) rfl c25 hp hq hn (by decide) rfl (by decide) (fun j hj => by unfold KI at hj; omega) (fun j hj => by unfold KJ at hj; omega)
  obtain ⟨N27, c27, e27⟩ := CpS.row (T := Unit × xv_M) (k := 26) (m := 12) (n := 12) rfl c26 hp hq hn (by decide) rfl (by decide) (fun j hj => by unfold KI at hj; omega) (fun j hj => by unfold KJ at hj; omega)
  obtain ⟨N28, c28, e28⟩ := CpS.row (T := Unit × xv_M) (k := 27) (m := 12) (n := 12) rfl c27 hp hq hn (by decide) rfl (by decide) (fun j hj => by unfold KI at hj; omega) (fun j hj => by unfold KJ at hj; omega)
  refine ⟨N28, ?_, c28⟩
  unfold D_X3_copyFrom
  rw [bgI h hq (r := 23) (c := 3) (by decide) rfl, buI h hp (r := 23) (c := 3) (by decide) rfl, ← hM2, bgI h2 hq (r := 23) (c := 3) (by decide) rfl, buI h2 hp (r := 23) (c := 3) (by decide) rfl, ← hM4]
  rw [bg c24.1 hq 23 (r := 23) (j := 2) (v := 24) (c := 3) rfl (by decide) rfl, bg c24.1 hp 23 (r := 23) (j := 2) (v := 24) (c := 3) rfl (by decide) rfl]
  rw [e25]
  rw [bg c25.1 hq 24 (r := 23) (j := 3) (v := 25) (c := 3) rfl (by decide) rfl, bg c25.1 hp 24 (r := 23) (j := 3) (v := 25) (c := 3) rfl (by decide) rfl]
  rw [e26]
  rw [bg c26.1 hq 25 (r := 23) (j := 4) (v := 26) (c := 3) rfl (by decide) rfl, bg c26.1 hp 25 (r := 23) (j := 4) (v := 26) (c := 3) rfl (by decide) rfl]
  rw [e27]
  rw [bg c27.1 hq 26 (r := 23) (j := 5) (v := 27) (c := 3) rfl (by decide) rfl, bg c27.1 hp 26 (r := 23) (j := 5) (v := 27) (c := 3) rfl (by decide) rfl]
  rw [e28]
theorem bgs {T : Type} {M : xv_M} (h : xl_OK M) {p : Nat} (hp : Bk p) (i : Nat) {j v : Nat} (hi : bkT[i]? = some (0, j, v)) {f : Nat → Option T} : xv_gP M 6 p j f = f (p + v) := bg h hp i (r := 0) hi (by decide) rfl
theorem bgsI {T : Type} {M : xv_M} (h : xl_OK M) {p : Nat} (hp : Bk p) {f : Int → Option T} : xv_gI M 6 p 0 f = f (xv_I M p 0) := bgI h hp (r := 0) (by decide) rfl
theorem busI {T : Type} {M : xv_M} (h : xl_OK M) {p : Nat} (hp : Bk p) {v : Int} {f : xv_M → Option T} : xv_pI M 6 p 0 v f = f (xv_sI M p 0 v) := buI h hp (r := 0) (by decide) rfl
theorem brcs {α : Type} {M : xv_M} (h : xl_OK M) {p : Nat} (hp : Bk p) {x : Option α} : xv_rc M 6 p x = x := brc h hp (r := 0) (by decide) rfl
theorem xm_copy {p q : Nat} {M : xv_M} (h : xl_OK M) (hp : Bk p) (hq : Bk q) (hn : p ≠ q) : ∃ M', D_X6_copyFrom p q M = some ((), M') ∧ CpS p q 28 M M' := by
  have c0 : CpS p q 0 M M := ⟨h, rfl, fun r j hr => absurd hr (by omega), fun r j hr => absurd hr (by omega), fun _ _ _ => ⟨rfl, rfl⟩⟩
  have c1 : CpS p q 1 M (xv_sI M p 0 (xv_I M q 0)) := c0.one hp hq hn (by decide) (fun j hj => by unfold KI at hj; omega) (fun j hj => by unfold KJ at hj; omega)
  obtain ⟨M1, hM1⟩ : ∃ M1 : xv_M, M1 = xv_sI M p 0 (xv_I M q 0) := ⟨_, rfl⟩
  rw [← hM1] at c1
  obtain ⟨M2, d2, c2⟩ := xm_cp5 c1 hp hq hn
  obtain ⟨M3, d3, c3⟩ := xm_cp9 c2 hp hq hn
  obtain ⟨M4, d4, c4⟩ := xm_cp3 c3 hp hq hn
  refine ⟨M4, ?_, c4⟩
  unfold D_X6_copyFrom
  rw [bgsI h hq, busI h hp, ← hM1]
  rw [bgs c1.1 hp 0 (j := 1) (v := 1) rfl, bgs c1.1 hq 0 (j := 1) (v := 1) rfl, brc c1.1 hp (r := 1) (c := 5) (by decide) rfl, d2, xe_call]
  rw [bgs c2.1 hp 1 (j := 2) (v := 8) rfl, bgs c2.1 hq 1 (j := 2) (v := 8) rfl, brc c2.1 hp (r := 8) (c := 9) (by decide) rfl, d3, xe_call]
  rw [bgs c3.1 hp 2 (j := 3) (v := 23) rfl, bgs c3.1 hq 2 (j := 3) (v := 23) rfl, brc c3.1 hp (r := 23) (c := 3) (by decide) rfl, d4, xe_call]
/-- the whole state at p is the row a -/
def SB (p : Nat) (a : RW) (M : xv_M) : Prop := xv_I M p 0 = a 0 ∧ SBs p a M ∧ SBw p a M ∧ SBl p a M ∧ SBe p a M ∧ (∀ w, w < rm a → SBi p a M w) ∧ ∀ w, w < 6 → rm a ≤ w → xv_J M (p + 11) w = 0
/-- the cells of a state, seen alike -/
theorem SB.mv {p q : Nat} {a : RW} {M M' : xv_M} (hn : rn a ≤ 60) (hm : rm a ≤ 6) (hI : ∀ r j, r < 28 → KI r j → xv_I M' (p + r) j = xv_I M (q + r) j) (hJ : ∀ r j, r < 28 → KJ r j → xv_J M' (p + r) j = xv_J M (q + r) j) (h : SB q a M) : SB p a M' := by
  obtain ⟨t, ⟨s1, s2, s3, s4⟩, ⟨w1, w2, w3⟩, ⟨l1, l2, l3⟩, e, i, z⟩ := h
  have lt := hI 23 1 (by decide) (by unfold KI; omega)
  refine ⟨?_, ⟨?_, fun s hs => ?_, fun s hs => ?_, fun s hs hr => ?_⟩, ⟨?_, fun w hw => ?_, fun w hw hr => ?_⟩, ⟨?_, ?_, fun k hk => ?_⟩, fun w s hw hs hp => ?_, fun w hw s hs => ?_, fun w hw hr => ?_⟩
  · exact (hI 0 0 (by decide) (by unfold KI; omega)).trans t
  · exact (hI 1 0 (by decide) (by unfold KI; omega)).trans s1
  · rw [hJ 1 1 (by decide) (by unfold KJ; omega)]; exact s2 s hs
  · rw [hI 2 s (by decide) (by unfold KI; omega), hI 3 s (by decide) (by unfold KI; omega), hI 4 s (by decide) (by unfold KI; omega), hI 5 s (by decide) (by unfold KI; omega), hI 6 s (by decide) (by unfold KI; omega), hI 7 s (by decide) (by unfold KI; omega)]
    exact s3 s hs
  · rw [hI 6 s (by decide) (by unfold KI; omega), hI 7 s (by decide) (by unfold KI; omega)]
    exact s4 s hs hr
  · exact (hI 8 0 (by decide) (by unfold KI; omega)).trans w1
  · rw [hI 9 w (by decide) (by unfold KI; omega), hI 10 w (by decide) (by unfold KI; omega), hI 12 w (by decide) (by unfold KI; omega), hI 13 w (by decide) (by unfold KI; omega), hI 14 w (by decide) (by unfold KI; omega), hI 15 w (by decide) (by unfold KI; omega)]
    exact w2 w hw
  · rw [hI 12 w (by decide) (by unfold KI; omega), hI 13 w (by decide) (by unfold KI; omega), hI 14 w (by decide) (by unfold KI; omega), hI 15 w (by decide) (by unfold KI; omega)]
    exact w3 w hw hr
  · exact (hI 23 0 (by decide) (by unfold KI; omega)).trans l1
  · rw [lt]; exact l2
  · rw [lt, hI 24 _ (by decide) (by unfold KI; omega), hI 25 _ (by decide) (by unfold KI; omega), hI 26 _ (by decide) (by unfold KI; omega), hI 27 _ (by decide) (by unfold KI; omega)]
    exact l3 k hk
  · have := hI (17 + w) s (by omega) (by unfold KI; omega)
    rw [← Nat.add_assoc, ← Nat.add_assoc] at this
    rw [this]; exact e w s hw hs hp
  · rw [hJ 11 w (by decide) (by unfold KJ; omega)]; exact i w hw s hs
  · rw [hJ 11 w (by decide) (by unfold KJ; omega)]; exact z w hw hr
theorem SB.cp {p q : Nat} {a : RW} {M M' : xv_M} (hn : rn a ≤ 60) (hm : rm a ≤ 6) (c : CpS p q 28 M M') (h : SB q a M) : SB p a M' := h.mv hn hm (fun r j => c.2.2.1 r j) (fun r j => c.2.2.2.1 r j)
theorem SB.fr {p : Nat} {a : RW} {M M' : xv_M} (hn : rn a ≤ 60) (hm : rm a ≤ 6) (hs : Sm p (p + 27) M M') (h : SB p a M) : SB p a M' := h.mv hn hm (fun r j hr _ => (hs (p + r) j (by omega) (by omega)).1) (fun r j hr _ => (hs (p + r) j (by omega) (by omega)).2)
