/-! ## the nodes -/
def tmd (p : Int × Int) : Int := (p.1 + p.2) / 2
def tat (f l : Int) : Nat → Int × Int
  | 0 => (0, 1000)
  | k + 1 => if l < tmd (tat f l k) then ((tat f l k).1, tmd (tat f l k) - 1) else (tmd (tat f l k) + 1, (tat f l k).2)
abbrev tm (f l : Int) (k : Nat) : Int := tmd (tat f l k)
abbrev thit (f l : Int) (k : Nat) : Prop := f ≤ tm f l k ∧ tm f l k ≤ l
def tdpN (f l : Int) : Nat → Nat → Nat
  | 0, k => k
  | n + 1, k => if thit f l k then k else tdpN f l n (k + 1)
/-- the depth of a span's node; its middle -/
def tdep (f l : Int) : Nat := tdpN f l 16 0
def tmid (f l : Int) : Int := tm f l (tdep f l)
/-- the node x lies on the way to a span's node -/
def tpth (f l x : Int) : Prop := ∃ k, k ≤ tdep f l ∧ tm f l k = x
theorem tat_in {f l : Int} (h : 0 ≤ f ∧ f ≤ l ∧ l ≤ 1000) : ∀ k, k ≤ 10 → (∀ i, i < k → ¬ thit f l i) → 0 ≤ (tat f l k).1 ∧ (tat f l k).1 ≤ f ∧ l ≤ (tat f l k).2 ∧ (tat f l k).2 ≤ 1000 ∧ (tat f l k).2 - (tat f l k).1 + 1 < ((2 ^ (10 - k) : Nat) : Int)
  | 0, _, _ => by
    show (0 : Int) ≤ 0 ∧ 0 ≤ f ∧ l ≤ 1000 ∧ (1000 : Int) ≤ 1000 ∧ (1000 : Int) - 0 + 1 < ((2 ^ 10 : Nat) : Int)
    omega
  | k + 1, hk, hn => by
    obtain ⟨h1, h2, h3, h4, h5⟩ := tat_in h k (by omega) (fun i hi => hn i (by omega))
    have hk2 := hn k (by omega)
    obtain ⟨m, hm⟩ : ∃ m, m = tmd (tat f l k) := ⟨_, rfl⟩
    have hm2 : m = ((tat f l k).1 + (tat f l k).2) / 2 := hm
    have hp : (2 ^ (10 - k) : Nat) = 2 * 2 ^ (10 - (k + 1)) := by
      rw [show 10 - k = (10 - (k + 1)) + 1 by omega, Nat.pow_succ]
      omega
    rw [hp] at h5
    unfold thit tm at hk2
    rw [← hm] at hk2
    have hx : tat f l (k + 1) = if l < m then ((tat f l k).1, m - 1) else (m + 1, (tat f l k).2) := by rw [hm]; rfl
    rw [hx]
    by_cases hc : l < m
    · rw [if_pos hc]
      dsimp only
      omega
    · rw [if_neg hc]
      dsimp only
      omega
theorem tdpN_spec {f l : Int} (h : 0 ≤ f ∧ f ≤ l ∧ l ≤ 1000) : ∀ n k, (∀ i, i < k → ¬ thit f l i) → k ≤ 10 → 10 < n + k → thit f l (tdpN f l n k) ∧ (∀ i, i < tdpN f l n k → ¬ thit f l i) ∧ tdpN f l n k ≤ 9
  | 0, k, h1, h2, h3 => by omega
  | n + 1, k, h1, h2, h3 => by
    by_cases hk : k = 10
    · subst hk
      have := tat_in h 10 (by omega) h1
      have e : ((2 ^ (10 - 10) : Nat) : Int) = 1 := rfl
      rw [e] at this
      omega
    · show thit f l (if _ then _ else _) ∧ _
      by_cases hc : thit f l k
      · have e : tdpN f l (n + 1) k = k := if_pos hc
        rw [e, if_pos hc]
        exact ⟨hc, h1, by omega⟩
      · have e : tdpN f l (n + 1) k = tdpN f l n (k + 1) := if_neg hc
        rw [e, if_neg hc]
        exact tdpN_spec h n (k + 1) (fun i hi => by
          by_cases hik : i = k
          · subst hik; exact hc
          · exact h1 i (by omega)) (by omega) (by omega)
theorem tdep_spec {f l : Int} (h : 0 ≤ f ∧ f ≤ l ∧ l ≤ 1000) : thit f l (tdep f l) ∧ (∀ i, i < tdep f l → ¬ thit f l i) ∧ tdep f l ≤ 9 := tdpN_spec h 16 0 (fun i hi => by omega) (by omega) (by omega)
theorem tm_in {f l : Int} (h : 0 ≤ f ∧ f ≤ l ∧ l ≤ 1000) {k : Nat} (hk : k ≤ tdep f l) : 0 ≤ tm f l k ∧ tm f l k ≤ 1000 := by
  obtain ⟨s1, s2, s3⟩ := tdep_spec h
  have := tat_in h k (by omega) (fun i hi => s2 i (by omega))
  show 0 ≤ ((tat f l k).1 + (tat f l k).2) / 2 ∧ ((tat f l k).1 + (tat f l k).2) / 2 ≤ 1000
  omega
theorem tat_left {f l : Int} {k : Nat} (h : l < tm f l k) : tat f l (k + 1) = ((tat f l k).1, tm f l k - 1) := if_pos h
theorem tat_right {f l : Int} {k : Nat} (h : ¬ l < tm f l k) : tat f l (k + 1) = (tm f l k + 1, (tat f l k).2) := if_neg h
/-! the class's tree -/
/-- the memory, but the tree's cells (34 to 38) are g -/
def mkt (M : xv_M) (g : Nat → Nat → Int) : xv_M := (M.1, fun r j => if 34 ≤ r ∧ r ≤ 38 then g r j else M.2.1 r j, M.2.2.1, M.2.2.2)
theorem mkt_I {M : xv_M} {g : Nat → Nat → Int} {r i : Nat} (h : 34 ≤ r ∧ r ≤ 38) : xv_I (mkt M g) r i = g r i := by simp [mkt, xv_I, h]
theorem mkt_In {M : xv_M} {g : Nat → Nat → Int} {r i : Nat} (h : ¬ (34 ≤ r ∧ r ≤ 38)) : xv_I (mkt M g) r i = xv_I M r i := by simp only [mkt, xv_I]; rw [if_neg h]
theorem mkt_J {M : xv_M} {g : Nat → Nat → Int} {r i : Nat} : xv_J (mkt M g) r i = xv_J M r i := rfl
theorem mkt_OK {M : xv_M} {g : Nat → Nat → Int} : xl_OK (mkt M g) = xl_OK M := rfl
def upT (g : Nat → Nat → Int) (r i : Nat) (v : Int) : Nat → Nat → Int := fun r' j => if r' = r ∧ j = i then v else g r' j
theorem mkt_sI {M : xv_M} {g : Nat → Nat → Int} {r i : Nat} {v : Int} (h : 34 ≤ r ∧ r ≤ 38) : xv_sI (mkt M g) r i v = mkt M (upT g r i v) := by
  unfold mkt xv_sI
  simp only [Prod.mk.injEq, true_and, and_true]
  funext r' j
  by_cases h1 : r' = r ∧ j = i
  · obtain ⟨rfl, rfl⟩ := h1
    simp [xv_up, upT, h]
  · by_cases h2 : 34 ≤ r' ∧ r' ≤ 38
    · simp [xv_up, upT, h1, h2]
    · simp only [xv_up]
      rw [if_neg h1, if_neg h2, if_neg h2]
theorem mkt_self (M : xv_M) : mkt M (xv_I M) = M := by
  obtain ⟨K, I, J, P⟩ := M
  unfold mkt xv_I
  simp only [Prod.mk.injEq, true_and, and_true]
  funext r j
  by_cases h : 34 ≤ r ∧ r ≤ 38
  · rw [if_pos h]
  · rw [if_neg h]
theorem mkt_sm {M : xv_M} {g : Nat → Nat → Int} {l u : Nat} (h : u < 34 ∨ 38 < l) : Sm l u M (mkt M g) := fun r j h1 h2 => ⟨mkt_In (by omega), rfl⟩
theorem upT_s {g : Nat → Nat → Int} {r i : Nat} {v : Int} : upT g r i v r i = v := if_pos ⟨rfl, rfl⟩
theorem upT_n {g : Nat → Nat → Int} {r i r' j : Nat} {v : Int} (h : ¬ (r' = r ∧ j = i)) : upT g r i v r' j = g r' j := if_neg h
theorem xm_half {z : Int} (h : -1 ≤ z ∧ z ≤ 4000) : (Int32.ofInt z / Int32.ofInt 2).toInt = if z = -1 then 0 else z / 2 := by
  by_cases h1 : z = -1
  · subst h1
    decide
  · rw [if_neg h1]
    obtain ⟨n, rfl⟩ : ∃ n : Nat, z = (n : Int) := ⟨z.toNat, by omega⟩
    rw [xb_ofI, show Int32.ofInt 2 = nI 2 from rfl, pk_div (by omega) (by decide) (by decide), nI_toInt (by omega)]
    omega
theorem xm_halfway {lo hi : Int} (h : -1 ≤ lo + hi ∧ lo + hi ≤ 4000) {M : xv_M} : D_X10_halfway lo hi M = some (if lo + hi = -1 then 0 else (lo + hi) / 2, M) := by
  unfold D_X10_halfway
  rw [xe_g ⟨rfl, by decide⟩, xm_half h]
/-- the way's own cell: the range, its middle, the depth -/
def WY (g : Nat → Nat → Int) (p : Int × Int) (k : Nat) : Prop := g 38 0 = p.1 ∧ g 38 1 = p.2 ∧ g 38 2 = (if p.1 + p.2 = -1 then 0 else tmd p) ∧ g 38 3 = (k : Int)
theorem xm_start {M : xv_M} (h : xl_OK M) (g : Nat → Nat → Int) : ∃ g', D_X10_start 38 (mkt M g) = some ((), mkt M g') ∧ WY g' (0, 1000) 0 ∧ ∀ r j, r ≠ 38 → g' r j = g r j := by
  have hO : ∀ g, xl_OK (mkt M g) := fun _ => h
  unfold D_X10_start
  rw [xu_38_0 (hO _), mkt_sI (by decide), xu_38_1 (hO _), mkt_sI (by decide), xg_38_0 (hO _), xg_38_1 (hO _), mkt_I (by decide), mkt_I (by decide), upT_n (by decide), upT_s, upT_s]
  rw [xm_halfway (by decide), xe_call, xu_38_2 (hO _), mkt_sI (by decide), xu_38_3 (hO _), mkt_sI (by decide)]
  refine ⟨_, rfl, ⟨?_, ?_, ?_, ?_⟩, fun r j hr => ?_⟩
  · rw [upT_n (by decide), upT_n (by decide), upT_n (by decide), upT_s]
  · rw [upT_n (by decide), upT_n (by decide), upT_s]
  · rw [upT_n (by decide), upT_s]; rfl
  · rw [upT_s]; rfl
  · rw [upT_n (fun q => hr q.1), upT_n (fun q => hr q.1), upT_n (fun q => hr q.1), upT_n (fun q => hr q.1)]
theorem xm_goLeft {M : xv_M} (h : xl_OK M) {g : Nat → Nat → Int} {p : Int × Int} {k : Nat} (hw : WY g p k) (hp : 0 ≤ p.1 ∧ p.1 ≤ p.2 ∧ p.2 ≤ 1000) : ∃ g', D_X10_goLeft 38 (mkt M g) = some ((), mkt M g') ∧ WY g' (p.1, tmd p - 1) (k + 1) ∧ ∀ r j, r ≠ 38 → g' r j = g r j := by
  have hO : ∀ g, xl_OK (mkt M g) := fun _ => h
  obtain ⟨w0, w1, w2, w3⟩ := hw
  rw [if_neg (by omega)] at w2
  have hm : tmd p = (p.1 + p.2) / 2 := rfl
  unfold D_X10_goLeft
  rw [xg_38_2 (hO _), mkt_I (by decide), w2, xu_38_1 (hO _), mkt_sI (by decide), xg_38_0 (hO _), xg_38_1 (hO _), mkt_I (by decide), mkt_I (by decide), upT_n (by decide), upT_s, w0]
  rw [xm_halfway (by omega), xe_call, xu_38_2 (hO _), mkt_sI (by decide), xg_38_3 (hO _), mkt_I (by decide), xu_38_3 (hO _), mkt_sI (by decide), upT_n (by decide), upT_n (by decide), w3]
  refine ⟨_, rfl, ⟨?_, ?_, ?_, ?_⟩, fun r j hr => ?_⟩
  · rw [upT_n (by decide), upT_n (by decide), upT_n (by decide)]; exact w0
  · rw [upT_n (by decide), upT_n (by decide), upT_s]
  · rw [upT_n (by decide), upT_s]; rfl
  · rw [upT_s]; omega
  · rw [upT_n (fun q => hr q.1), upT_n (fun q => hr q.1), upT_n (fun q => hr q.1)]
theorem xm_goRight {M : xv_M} (h : xl_OK M) {g : Nat → Nat → Int} {p : Int × Int} {k : Nat} (hw : WY g p k) (hp : 0 ≤ p.1 ∧ p.1 ≤ p.2 ∧ p.2 ≤ 1000) : ∃ g', D_X10_goRight 38 (mkt M g) = some ((), mkt M g') ∧ WY g' (tmd p + 1, p.2) (k + 1) ∧ ∀ r j, r ≠ 38 → g' r j = g r j := by
  have hO : ∀ g, xl_OK (mkt M g) := fun _ => h
  obtain ⟨w0, w1, w2, w3⟩ := hw
  rw [if_neg (by omega)] at w2
  have hm : tmd p = (p.1 + p.2) / 2 := rfl
  unfold D_X10_goRight
  rw [xg_38_2 (hO _), mkt_I (by decide), w2, xu_38_0 (hO _), mkt_sI (by decide), xg_38_0 (hO _), xg_38_1 (hO _), mkt_I (by decide), mkt_I (by decide), upT_s, upT_n (by decide), w1]
  rw [xm_halfway (by omega), xe_call, xu_38_2 (hO _), mkt_sI (by decide), xg_38_3 (hO _), mkt_I (by decide), xu_38_3 (hO _), mkt_sI (by decide), upT_n (by decide), upT_n (by decide), w3]
  refine ⟨_, rfl, ⟨?_, ?_, ?_, ?_⟩, fun r j hr => ?_⟩
  · rw [upT_n (by decide), upT_n (by decide), upT_s]
  · rw [upT_n (by decide), upT_n (by decide), upT_n (by decide)]; exact w1
  · rw [upT_n (by decide), upT_s]; rfl
  · rw [upT_s]; omega
  · rw [upT_n (fun q => hr q.1), upT_n (fun q => hr q.1), upT_n (fun q => hr q.1)]
theorem xm_hasPlaces {M : xv_M} (h : xl_OK M) {g : Nat → Nat → Int} {p : Int × Int} {k : Nat} (hw : WY g p k) (hp : -1000 ≤ p.1 ∧ p.1 ≤ 2000 ∧ -1000 ≤ p.2 ∧ p.2 ≤ 2000) : D_X10_hasPlaces 38 (mkt M g) = some (if p.1 ≤ p.2 then 1 else 0, mkt M g) := by
  have hO : ∀ g, xl_OK (mkt M g) := fun _ => h
  obtain ⟨w0, w1, w2, w3⟩ := hw
  unfold D_X10_hasPlaces
  rw [xg_38_0 (hO _), xg_38_1 (hO _), mkt_I (by decide), mkt_I (by decide), w0, w1, xe_cmp (by omega) (by omega) (by omega) (by omega)]
  by_cases hc : p.2 < p.1
  · rw [if_pos hc, if_neg (by omega), xe_g0]
  · rw [if_neg hc, if_pos (by omega), xe_g1]
/-- how often x stands among the first k middles -/
def tct (f l : Int) (k : Nat) (x : Nat) : Nat := xct (fun i => decide (tm f l i = (x : Int))) k
theorem xm_lay {M : xv_M} (h : xl_OK M) {g : Nat → Nat → Int} {f l : Int} {s : Nat} (hs : s < 60) (hf : 0 ≤ f ∧ f ≤ l ∧ l ≤ 1000) : ∃ g', D_X8_lay 33 (s : Int) f l (mkt M g) = some ((), mkt M g') ∧ (∀ i, g' 34 i = if i = s then tmid f l else g 34 i) ∧ (∀ i, g' 35 i = if i = s then (tdep f l : Int) else g 35 i) ∧ (∀ x, g' 36 x = if (x : Int) = tmid f l then g 36 x + 1 else g 36 x) ∧ (∀ x, g' 37 x = g 37 x + (tct f l (tdep f l + 1) x : Int)) := by
  have hO : ∀ g, xl_OK (mkt M g) := fun _ => h
  obtain ⟨s1, s2, s3⟩ := tdep_spec hf
  obtain ⟨g0, d0, w0, r0⟩ := xm_start h g
  unfold D_X8_lay
  rw [xg_33_4 (hO _), xr_38 (hO _), d0, xe_call]
  refine xe_inv0 (I := fun (k : Nat) (q : Int × xv_M) => q.1 = (k : Int) ∧ ∃ g1, q.2 = mkt M g1 ∧ WY g1 (tat f l k) k ∧ (∀ r j, r < 37 → g1 r j = g r j) ∧ ∀ x, g1 37 x = g 37 x + (tct f l k x : Int)) (n := tdep f l) (P := fun z => ∃ g', z = some ((), mkt M g') ∧ (∀ i, g' 34 i = if i = s then tmid f l else g 34 i) ∧ (∀ i, g' 35 i = if i = s then (tdep f l : Int) else g 35 i) ∧ (∀ x, g' 36 x = if (x : Int) = tmid f l then g 36 x + 1 else g 36 x) ∧ (∀ x, g' 37 x = g 37 x + (tct f l (tdep f l + 1) x : Int))) (by omega) ⟨rfl, g0, rfl, w0, fun r j hr => r0 r j (by omega), fun x => by rw [r0 37 x (by decide)]; show g 37 x = g 37 x + ((0 : Nat) : Int); omega⟩ ?_ ?_
  · rintro k ⟨i, M1⟩ hk ⟨hi, g1, hg1, w1, q1, q2⟩
    dsimp only at hi hg1 ⊢
    subst hi hg1
    have ek : ((k : Int) + 1) = ((k + 1 : Nat) : Int) := by omega
    obtain ⟨b1, b2, b3, b4, b5⟩ := tat_in hf k (by omega) (fun i hi => s2 i (by omega))
    obtain ⟨m1, m2⟩ := tm_in hf (k := k) (by omega)
    obtain ⟨v0, v1, v2, v3⟩ := id w1
    rw [if_neg (by omega)] at v2
    have htm : tmd (tat f l k) = tm f l k := rfl
    rw [htm] at v2
    have w1' : WY (upT g1 37 (tm f l k).toNat (g1 37 (tm f l k).toNat + 1)) (tat f l k) k := by
      refine ⟨?_, ?_, ?_, ?_⟩
      · rw [upT_n (fun q => by omega)]; exact w1.1
      · rw [upT_n (fun q => by omega)]; exact w1.2.1
      · rw [upT_n (fun q => by omega)]; exact w1.2.2.1
      · rw [upT_n (fun q => by omega)]; exact w1.2.2.2
    have hway : ∀ x, upT g1 37 (tm f l k).toNat (g1 37 (tm f l k).toNat + 1) 37 x = g 37 x + (tct f l (k + 1) x : Int) := by
      intro x
      have et : tct f l (k + 1) x = tct f l k x + (if decide (tm f l k = (x : Int)) = true then 1 else 0) := rfl
      rw [et]
      by_cases hx : x = (tm f l k).toNat
      · subst hx
        rw [upT_s, q2, if_pos (decide_eq_true (by omega))]
        omega
      · rw [upT_n (fun q => hx q.2), q2, if_neg (fun q => hx (by have := of_decide_eq_true q; omega))]
        omega
    have hlow : ∀ r j, r < 37 → upT g1 37 (tm f l k).toNat (g1 37 (tm f l k).toNat + 1) r j = g r j := fun r j hr => by
      rw [upT_n (fun q => by omega)]; exact q1 r j hr
    by_cases hc : l < tm f l k
    · obtain ⟨g2, d2, w2, r2⟩ := xm_goLeft h w1' ⟨b1, by omega, b4⟩
      refine ⟨(((k + 1 : Nat) : Int), mkt M g2), ⟨rfl, g2, rfl, by rw [tat_left hc]; exact w2, fun r j hr => by rw [r2 r j (by omega)]; exact hlow r j hr, fun x => by rw [r2 37 x (by decide)]; exact hway x⟩, fun f' => ?_⟩
      rw [xe_cmp (by omega) (by omega) (by decide) (by decide), if_neg (by omega), xg_33_4 (hO _), xr_38 (hO _), xm_hasPlaces h w1 (by omega), xe_call, xe_b0, if_pos (by omega)]
      rw [xg_33_4 (hO _), xg_38_2 (hO _), mkt_I (by decide), v2, xg_33_3 (hO _), xa_37 (hO _) (by omega) (by omega), mkt_I (by decide), xw_37 (hO _) (by omega) (by omega), mkt_sI (by decide), xe_let]
      rw [xe_cmp (by omega) (by omega) (by omega) (by omega), if_neg (by omega), xg_33_4 (hO _), xr_38 (hO _), d2, xe_call, ek]
    · obtain ⟨g2, d2, w2, r2⟩ := xm_goRight h w1' ⟨b1, by omega, b4⟩
      refine ⟨(((k + 1 : Nat) : Int), mkt M g2), ⟨rfl, g2, rfl, by rw [tat_right hc]; exact w2, fun r j hr => by rw [r2 r j (by omega)]; exact hlow r j hr, fun x => by rw [r2 37 x (by decide)]; exact hway x⟩, fun f' => ?_⟩
      have hnh := s2 k hk
      have hf2 : ¬ f ≤ tm f l k := fun q => hnh ⟨q, by omega⟩
      rw [xe_cmp (by omega) (by omega) (by decide) (by decide), if_neg (by omega), xg_33_4 (hO _), xr_38 (hO _), xm_hasPlaces h w1 (by omega), xe_call, xe_b0, if_pos (by omega)]
      rw [xg_33_4 (hO _), xg_38_2 (hO _), mkt_I (by decide), v2, xg_33_3 (hO _), xa_37 (hO _) (by omega) (by omega), mkt_I (by decide), xw_37 (hO _) (by omega) (by omega), mkt_sI (by decide), xe_let]
      rw [xe_cmp (by omega) (by omega) (by omega) (by omega), if_pos (by omega), xe_cmp (by omega) (by omega) (by omega) (by omega), if_neg (by omega), xg_33_4 (hO _), xr_38 (hO _), d2, xe_call, ek]
  · rintro ⟨i, M1⟩ ⟨hi, g1, hg1, w1, q1, q2⟩ f'
    dsimp only at hi hg1 ⊢
    subst hi hg1
    obtain ⟨b1, b2, b3, b4, b5⟩ := tat_in hf (tdep f l) (by omega) (fun i hi => s2 i hi)
    obtain ⟨m1, m2⟩ := tm_in hf (k := tdep f l) (by omega)
    obtain ⟨v0, v1, v2, v3⟩ := id w1
    rw [if_neg (by omega)] at v2
    have hmid : tmd (tat f l (tdep f l)) = tmid f l := rfl
    have htm : tm f l (tdep f l) = tmid f l := rfl
    rw [htm] at m1 m2
    rw [hmid] at v2
    have h1 := s1.1
    have h2 := s1.2
    rw [htm] at h1 h2
    rw [xe_cmp (by omega) (by omega) (by decide) (by decide), if_neg (by omega), xg_33_4 (hO _), xr_38 (hO _), xm_hasPlaces h w1 (by omega), xe_call, xe_b0, if_pos (by omega)]
    rw [xg_33_4 (hO _), xg_38_2 (hO _), mkt_I (by decide), v2, xg_33_3 (hO _), xa_37 (hO _) (by omega) (by omega), mkt_I (by decide), xw_37 (hO _) (by omega) (by omega), mkt_sI (by decide), xe_let]
    rw [xe_cmp (by omega) (by omega) (by omega) (by omega), if_pos h2, xe_cmp (by omega) (by omega) (by omega) (by omega), if_pos h1]
    rw [xg_33_2 (hO _), xa_36 (hO _) (by omega) (by omega), mkt_I (by decide), xw_36 (hO _) (by omega) (by omega), mkt_sI (by decide)]
    rw [xg_33_0 (hO _), xw_34 (hO _) (by omega) (by omega), mkt_sI (by decide), Int.toNat_natCast]
    rw [xg_33_1 (hO _), xg_33_4 (hO _), xg_38_3 (hO _), mkt_I (by decide), xw_35 (hO _) (by omega) (by omega), mkt_sI (by decide), Int.toNat_natCast]
    rw [upT_n (r := 34) (r' := 38) (by omega), upT_n (r := 36) (r' := 38) (by omega), upT_n (r := 37) (r' := 38) (by omega), v3]
    refine ⟨_, rfl, fun i => ?_, fun i => ?_, fun x => ?_, fun x => ?_⟩
    · rw [upT_n (by omega)]
      by_cases hi : i = s
      · subst hi; rw [upT_s, if_pos rfl]
      · rw [upT_n (by omega), upT_n (by omega), upT_n (by omega), q1 34 i (by omega), if_neg hi]
    · by_cases hi : i = s
      · subst hi; rw [upT_s, if_pos rfl]
      · rw [upT_n (by omega), upT_n (by omega), upT_n (by omega), upT_n (by omega), q1 35 i (by omega), if_neg hi]
    · rw [upT_n (by omega), upT_n (by omega)]
      by_cases hx : (x : Int) = tmid f l
      · have hx2 : x = (tmid f l).toNat := by omega
        rw [if_pos hx, ← hx2, upT_s, upT_n (by omega), q1 36 x (by omega)]
      · rw [if_neg hx, upT_n (fun q => hx (by omega)), upT_n (by omega), q1 36 x (by omega)]
    · rw [upT_n (by omega), upT_n (by omega), upT_n (by omega)]
      have et : tct f l (tdep f l + 1) x = tct f l (tdep f l) x + (if decide (tm f l (tdep f l) = (x : Int)) = true then 1 else 0) := rfl
      rw [et, htm]
      by_cases hx : x = (tmid f l).toNat
      · rw [← hx, upT_s, q2, if_pos (decide_eq_true (by omega))]
        omega
      · rw [upT_n (fun q => hx q.2), q2, if_neg (fun q => hx (by have := of_decide_eq_true q; omega))]
        omega
