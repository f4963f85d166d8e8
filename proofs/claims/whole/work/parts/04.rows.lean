/-! ## values, locals, the judgement: a row an instruction, over the memory -/
abbrev xv_v : Type := Int ⊕ Int64 ⊕ Nat
abbrev xi (x : Int) : xv_v := .inl x
abbrev xl (y : Int64) : xv_v := .inr (.inl y)
abbrev xr (r : Nat) : xv_v := .inr (.inr r)
def xv_val (b : Nat) : xv_v → Value
  | .inl x => xv_i x
  | .inr (.inl y) => .long y
  | .inr (.inr r) => xv_r b r
def xv_c : xv_v → Nat
  | .inl _ => 1
  | .inr (.inl _) => 2
  | .inr (.inr _) => 1
theorem xv_cat (b : Nat) (v : xv_v) : (xv_val b v).category = xv_c v := by
  rcases v with x | y | r
  · rfl
  · rfl
  · show (va_rf (xv_R b r)).category = 1
    cases xv_R b r <;> rfl
theorem xv_cats (b : Nat) (st : List xv_v) : ((st.map (xv_val b)).map fun v => v.category).sum = (st.map xv_c).sum := by
  rw [List.map_map]
  congr 1
  exact List.map_congr_left (fun v _ => xv_cat b v)
def xv_L (b : Nat) (L : List (Option xv_v)) : List (Nat × Value) := (List.range L.length).filterMap (fun i => (L.getD i none).map (fun v => (i, xv_val b v)))
theorem xv_L_mem {b : Nat} {L : List (Option xv_v)} {q : Nat × Value} : q ∈ xv_L b L ↔ ∃ v, L[q.1]? = some (some v) ∧ q.2 = xv_val b v := by
  unfold xv_L
  rw [List.mem_filterMap]
  constructor
  · rintro ⟨i, hi, h⟩
    rw [List.mem_range] at hi
    rw [List.getD_eq_getElem?_getD, List.getElem?_eq_getElem hi] at h
    simp only [Option.getD_some] at h
    cases hv : L[i] with
    | none => rw [hv] at h; cases h
    | some v =>
      rw [hv] at h
      simp only [Option.map_some, Option.some.injEq] at h
      subst h
      exact ⟨v, by rw [List.getElem?_eq_getElem hi, hv], rfl⟩
  · rintro ⟨v, h, hq⟩
    have hi : q.1 < L.length := (List.getElem?_eq_some_iff.mp h).1
    refine ⟨q.1, List.mem_range.mpr hi, ?_⟩
    rw [List.getD_eq_getElem?_getD, h]
    simp only [Option.getD_some, Option.map_some, ← hq]
def xv_H (b : Nat) (ls : Array Slot) (nL : Nat) (L : List (Option xv_v)) : Prop := ls.size = nL ∧ lv_wf ls ∧ ∀ (i : Nat) (v : xv_v), L[i]? = some (some v) → ls[i]? = some (.val (xv_val b v))
theorem xv_H.has {b : Nat} {ls : Array Slot} {nL : Nat} {L : List (Option xv_v)} (h : xv_H b ls nL L) : lv_has ls nL (xv_L b L) := by
  refine ⟨h.1, h.2.1, fun q hq => ?_⟩
  obtain ⟨v, h1, h2⟩ := xv_L_mem.mp hq
  rw [h2]
  exact h.2.2 q.1 v h1
/-- no long ends in front of place i -/
def xv_ok1 (L : List (Option xv_v)) (i : Nat) : Bool := match i with
  | 0 => true
  | i + 1 => match L[i]? with
    | some (some v) => xv_c v == 1
    | _ => true
theorem xv_ok1_spec {L : List (Option xv_v)} {i j : Nat} {v : xv_v} (h : xv_ok1 L i = true) (hj : L[j]? = some (some v)) (hi : j + 1 = i) : xv_c v = 1 := by
  subst hi
  simp only [xv_ok1, hj] at h
  simpa using h
theorem xv_H.st1 {b : Nat} {ls' : Array Slot} {nL i : Nat} {L : List (Option xv_v)} {x : xv_v} (hc : xv_ok1 L i = true) (h : lv_has ls' nL ((i, xv_val b x) :: (xv_L b L).filter (fun q => !(q.1 == i) && !(q.1 + 1 == i && q.2.category == 2)))) : xv_H b ls' nL (L.set i (some x)) := by
  refine ⟨h.1, h.2.1, fun j v hj => ?_⟩
  by_cases hji : j = i
  · subst hji
    have hl : j < L.length := by
      have := (List.getElem?_eq_some_iff.mp hj).1
      rwa [List.length_set] at this
    rw [List.getElem?_set_self hl] at hj
    cases hj
    exact h.2.2 (j, xv_val b x) List.mem_cons_self
  · rw [List.getElem?_set_ne (Ne.symm hji)] at hj
    refine h.2.2 (j, xv_val b v) (List.mem_cons_of_mem _ (List.mem_filter.mpr ⟨xv_L_mem.mpr ⟨v, hj, rfl⟩, ?_⟩))
    have h2 : ¬ (j + 1 = i ∧ (xv_val b v).category = 2) := fun ⟨q1, q2⟩ => by
      rw [xv_cat, xv_ok1_spec hc hj q1] at q2
      cases q2
    simp only [Bool.and_eq_true, Bool.not_eq_true', beq_eq_false_iff_ne, Bool.and_eq_false_iff, ne_eq]
    refine ⟨hji, ?_⟩
    by_cases q1 : j + 1 = i
    · exact Or.inr (fun q2 => h2 ⟨q1, q2⟩)
    · exact Or.inl q1
theorem xv_H.st2 {b : Nat} {ls' : Array Slot} {nL i : Nat} {L : List (Option xv_v)} {x : xv_v} (hc : xv_ok1 L i = true) (h : lv_has ls' nL ((i, xv_val b x) :: (xv_L b L).filter (fun q => !(q.1 == i) && (!(q.1 == i + 1) && !(q.1 + 1 == i && q.2.category == 2))))) : xv_H b ls' nL ((L.set i (some x)).set (i + 1) none) := by
  refine ⟨h.1, h.2.1, fun j v hj => ?_⟩
  by_cases hj1 : j = i + 1
  · subst hj1
    by_cases hl : i + 1 < (L.set i (some x)).length
    · rw [List.getElem?_set_self hl] at hj
      cases hj
    · rw [List.getElem?_eq_none (by rw [List.length_set]; omega)] at hj
      cases hj
  · rw [List.getElem?_set_ne (Ne.symm hj1)] at hj
    by_cases hji : j = i
    · subst hji
      have hl : j < L.length := by
        have := (List.getElem?_eq_some_iff.mp hj).1
        rwa [List.length_set] at this
      rw [List.getElem?_set_self hl] at hj
      cases hj
      exact h.2.2 (j, xv_val b x) List.mem_cons_self
    · rw [List.getElem?_set_ne (Ne.symm hji)] at hj
      refine h.2.2 (j, xv_val b v) (List.mem_cons_of_mem _ (List.mem_filter.mpr ⟨xv_L_mem.mpr ⟨v, hj, rfl⟩, ?_⟩))
      have h2 : ¬ (j + 1 = i ∧ (xv_val b v).category = 2) := fun ⟨q1, q2⟩ => by
        rw [xv_cat, xv_ok1_spec hc hj q1] at q2
        cases q2
      simp only [Bool.and_eq_true, Bool.not_eq_true', beq_eq_false_iff_ne, Bool.and_eq_false_iff, ne_eq]
      refine ⟨hji, hj1, ?_⟩
      by_cases q1 : j + 1 = i
      · exact Or.inr (fun q2 => h2 ⟨q1, q2⟩)
      · exact Or.inl q1
/-- fewer locals known: where it says so, nothing -/
def xv_mask : List Bool → List (Option xv_v) → List (Option xv_v)
  | true :: bs, v :: L => v :: xv_mask bs L
  | false :: bs, _ :: L => none :: xv_mask bs L
  | _, _ => []
theorem xv_mask_get : ∀ (bs : List Bool) (L : List (Option xv_v)) (i : Nat) (v : xv_v), (xv_mask bs L)[i]? = some (some v) → L[i]? = some (some v)
  | [], L, i, v, h => by simp [xv_mask] at h
  | true :: bs, [], i, v, h => by simp [xv_mask] at h
  | false :: bs, [], i, v, h => by simp [xv_mask] at h
  | true :: bs, w :: L, 0, v, h => by simpa [xv_mask] using h
  | false :: bs, w :: L, 0, v, h => by simp [xv_mask] at h
  | true :: bs, w :: L, i + 1, v, h => by
    have := xv_mask_get bs L i v (by simpa [xv_mask] using h)
    simpa using this
  | false :: bs, w :: L, i + 1, v, h => by
    have := xv_mask_get bs L i v (by simpa [xv_mask] using h)
    simpa using this
theorem xv_H.mask {b : Nat} {ls : Array Slot} {nL : Nat} {L : List (Option xv_v)} (bs : List Bool) (h : xv_H b ls nL L) : xv_H b ls nL (xv_mask bs L) := ⟨h.1, h.2.1, fun i v hi => h.2.2 i v (xv_mask_get bs L i v hi)⟩
/-- the locals with which a method begins -/
def xv_L0 (vs : List xv_v) (n : Nat) : List (Option xv_v) := (vs.flatMap fun v => if xv_c v = 2 then [some v, none] else [some v]) ++ List.replicate n none
theorem xv_args_get (b : Nat) : ∀ (vs : List xv_v) (k i : Nat) (v : xv_v), (vs.flatMap fun v => if xv_c v = 2 then [some v, none] else [some v])[i]? = some (some v) → (k + i, xv_val b v) ∈ lv_args k (vs.map (xv_val b))
  | [], k, i, v, h => by simp at h
  | w :: vs, k, i, v, h => by
    rw [List.flatMap_cons] at h
    simp only [List.map_cons, lv_args, xv_cat]
    by_cases hc : xv_c w = 2
    · rw [if_pos hc] at h ⊢
      match i, h with
      | 0, h =>
        simp only [List.cons_append, List.getElem?_cons_zero, Option.some.injEq] at h
        subst h
        exact List.mem_cons_self
      | 1, h => simp at h
      | i + 2, h =>
        have := xv_args_get b vs (k + 2) i v (by simpa using h)
        refine List.mem_cons_of_mem _ ?_
        rw [show k + (i + 2) = k + 2 + i by omega]
        exact this
    · rw [if_neg hc] at h ⊢
      match i, h with
      | 0, h =>
        simp only [List.cons_append, List.getElem?_cons_zero, Option.some.injEq] at h
        subst h
        exact List.mem_cons_self
      | i + 1, h =>
        have := xv_args_get b vs (k + 1) i v (by simpa using h)
        refine List.mem_cons_of_mem _ ?_
        rw [show k + (i + 1) = k + 1 + i by omega]
        exact this
theorem xv_entry (b : Nat) (vs : List xv_v) {n k : Nat} (h : (lg_sl (vs.map (xv_val b))).length ≤ n) : xv_H b ((lg_sl (vs.map (xv_val b)) ++ List.replicate (n - (lg_sl (vs.map (xv_val b))).length) Slot.unset).toArray) n (xv_L0 vs k) := by
  obtain ⟨h1, h2, h3⟩ := lv_entry (vs.map (xv_val b)) h
  refine ⟨h1, h2, fun i v hi => ?_⟩
  unfold xv_L0 at hi
  by_cases hl : i < (vs.flatMap fun v => if xv_c v = 2 then [some v, none] else [some v]).length
  · rw [List.getElem?_append_left hl] at hi
    have := h3 _ (xv_args_get b vs 0 i v hi)
    rw [Nat.zero_add] at this
    exact this
  · rw [List.getElem?_append_right (by omega)] at hi
    have := List.eq_of_mem_replicate (List.mem_of_getElem? hi)
    cases this
theorem xv_sl_len (b : Nat) : ∀ vs : List xv_v, (lg_sl (vs.map (xv_val b))).length = (vs.map xv_c).sum
  | [] => rfl
  | v :: vs => by
    have ih := xv_sl_len b vs
    unfold lg_sl at ih ⊢
    rw [List.map_cons, List.flatMap_cons, List.length_append, ih, List.map_cons, List.sum_cons, xv_cat]
    rcases v with x | y | r <;> rfl
/-! ints -/
theorem xv_add (x y : Int) : Int32.ofInt x + Int32.ofInt y = Int32.ofInt (x + y) := by rw [Int32.ofInt_add]
theorem xv_sub (x y : Int) : Int32.ofInt x - Int32.ofInt y = Int32.ofInt (x - y) := by rw [Int32.ofInt_sub]
theorem xv_mul (x y : Int) : Int32.ofInt x * Int32.ofInt y = Int32.ofInt (x * y) := by rw [Int32.ofInt_mul]
theorem xv_neg (x : Int) : -(Int32.ofInt x) = Int32.ofInt (-x) := by rw [Int32.ofInt_neg]
theorem xv_toInt {x : Int} (h : xv_in x) : (Int32.ofInt x).toInt = x := Int32.toInt_ofInt_of_le h.1 (by have := h.2; omega)
theorem xv_lt {x y : Int} (hx : xv_in x) (hy : xv_in y) : Int32.ofInt x < Int32.ofInt y ↔ x < y := by rw [Int32.lt_iff_toInt_lt, xv_toInt hx, xv_toInt hy]
theorem xv_le {x y : Int} (hx : xv_in x) (hy : xv_in y) : Int32.ofInt x ≤ Int32.ofInt y ↔ x ≤ y := by rw [Int32.le_iff_toInt_le, xv_toInt hx, xv_toInt hy]
theorem xv_eq {x y : Int} (hx : xv_in x) (hy : xv_in y) : Int32.ofInt x = Int32.ofInt y ↔ x = y := by rw [← Int32.toInt_inj, xv_toInt hx, xv_toInt hy]
theorem xv_0 : (0 : Int32) = Int32.ofInt 0 := rfl
theorem xv_in0 : xv_in 0 := ⟨by decide, by decide⟩
theorem xv_ix {x : Int} {n : Nat} (h0 : 0 ≤ x) (h : x < n) (hn : n < 2 ^ 31) : vp_in (Int32.ofInt x) n ∧ (Int32.ofInt x).toNatClampNeg = x.toNat := by
  have hin : xv_in x := ⟨by omega, by omega⟩
  have ht := xv_toInt hin
  refine ⟨vp_in_iff.mpr (by rw [ht]; exact ⟨h0, h⟩), ?_⟩
  show (Int32.ofInt x).toInt.toNat = x.toNat
  rw [ht]
