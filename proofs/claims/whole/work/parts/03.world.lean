/-! ## THE MEMORY: kinds of the cells (class below 13; 13 char, 14 int, 15 long, 16 boolean, 17 State, 18 int[] rows: with the length), ints, longs, references (0 is null, r the cell at b + r) -/
abbrev xv_M : Type := List (Nat × Nat) × (Nat → Nat → Int) × (Nat → Nat → Int64) × (Nat → Nat → Nat)
def xv_kd (M : xv_M) (r : Nat) : Nat × Nat := if r = 0 then (99, 0) else M.1.getD (r - 1) (99, 0)
def xv_I (M : xv_M) (r j : Nat) : Int := M.2.1 r j
def xv_J (M : xv_M) (r j : Nat) : Int64 := M.2.2.1 r j
def xv_P (M : xv_M) (r j : Nat) : Nat := M.2.2.2 r j
def xv_up {α : Type} (f : Nat → Nat → α) (r j : Nat) (v : α) : Nat → Nat → α := fun r' j' => if r' = r ∧ j' = j then v else f r' j'
def xv_rw {α : Type} (f : Nat → Nat → α) (r : Nat) (g : Nat → α) : Nat → Nat → α := fun r' j' => if r' = r then g j' else f r' j'
def xv_sI (M : xv_M) (r j : Nat) (v : Int) : xv_M := (M.1, xv_up M.2.1 r j v, M.2.2.1, M.2.2.2)
def xv_sJ (M : xv_M) (r j : Nat) (v : Int64) : xv_M := (M.1, M.2.1, xv_up M.2.2.1 r j v, M.2.2.2)
def xv_sP (M : xv_M) (r j : Nat) (v : Nat) : xv_M := (M.1, M.2.1, M.2.2.1, xv_up M.2.2.2 r j v)
def xv_rI (M : xv_M) (r : Nat) (g : Nat → Int) : xv_M := (M.1, xv_rw M.2.1 r g, M.2.2.1, M.2.2.2)
def xv_rJ (M : xv_M) (r : Nat) (g : Nat → Int64) : xv_M := (M.1, M.2.1, xv_rw M.2.2.1 r g, M.2.2.2)
/-- a new cell of a kind, all of it 0 or null: its reference is the number of cells then -/
def xv_new (M : xv_M) (k : Nat × Nat) : xv_M := (M.1 ++ [k], xv_rw M.2.1 (M.1.length + 1) (fun _ => 0), xv_rw M.2.2.1 (M.1.length + 1) (fun _ => 0), xv_rw M.2.2.2 (M.1.length + 1) (fun _ => 0))
def xv_in (x : Int) : Prop := -2147483648 ≤ x ∧ x ≤ 2147483647
/-- what the slots of each class hold: 0 an int, 1 a long, 2 a reference -/
def xv_tt : List (List Nat) := [[2], [0, 2], [2, 2, 2], [0, 0, 2, 2, 2, 2], [0, 2, 2, 2, 2, 0], [0, 1, 2, 2, 2, 2, 2, 2], [0, 2, 2, 2], [0, 2], [2, 2, 2, 2, 2], [0, 2, 2, 2, 2, 2, 2, 2, 2], [0, 0, 0, 0], [2, 2, 2, 2, 2, 0], [2, 2, 0, 2, 0, 0, 2, 0, 0, 0, 0, 0, 0, 0, 0, 2, 2, 0]]
def xv_N (c : Nat) : Nat := (xv_tt.getD c []).length
def xv_ty (c j : Nat) : Nat := (xv_tt.getD c []).getD j 0
abbrev xv_i (x : Int) : Value := .int (Int32.ofInt x)
def xv_R (b r : Nat) : Option Nat := if r = 0 then none else some (b + r)
abbrev xv_r (b r : Nat) : Value := va_rf (xv_R b r)
theorem xv_r_0 (b : Nat) : xv_r b 0 = .null := rfl
theorem xv_r_s {b r : Nat} (h : r ≠ 0) : xv_r b r = .ref (b + r) := by simp [xv_r, xv_R, h, va_rf]
def xv_sv (b t : Nat) (x : Int) (y : Int64) (z : Nat) : Value := if t = 1 then .long y else if t = 2 then xv_r b z else xv_i x
def xv_fs (b c : Nat) (fi : Nat → Int) (fj : Nat → Int64) (fp : Nat → Nat) : List Value := (List.range (xv_N c)).map (fun j => xv_sv b (xv_ty c j) (fi j) (fj j) (fp j))
def xv_E (b : Nat) (cy : Nat → ClassId) (k : Nat × Nat) (fi : Nat → Int) (fj : Nat → Int64) (fp : Nat → Nat) : va_E :=
  if k.1 < 13 then .inr (k.1, xv_fs b k.1 fi fj fp) else if k.1 = 15 then .inl (cy 15, k.2, .inr (.inl fj)) else if 17 ≤ k.1 then .inl (cy k.1, k.2, .inr (.inr (.inr (.inr (fun j => xv_R b (fp j)))))) else .inl (cy k.1, k.2, .inl (fun j => Int32.ofInt (fi j)))
def xv_W (b : Nat) (cy : Nat → ClassId) (M : xv_M) : va_W := (List.range M.1.length).map (fun i => (b + (i + 1), xv_E b cy (M.1.getD i (99, 0)) (M.2.1 (i + 1)) (M.2.2.1 (i + 1)) (M.2.2.2 (i + 1))))
theorem xv_fs_get {b c j : Nat} {fi : Nat → Int} {fj : Nat → Int64} {fp : Nat → Nat} (h : j < xv_N c) : (xv_fs b c fi fj fp)[j]? = some (xv_sv b (xv_ty c j) (fi j) (fj j) (fp j)) := by
  unfold xv_fs
  rw [List.getElem?_map, List.getElem?_range h]
  rfl
theorem xv_fs_len {b c : Nat} {fi : Nat → Int} {fj : Nat → Int64} {fp : Nat → Nat} : (xv_fs b c fi fj fp).length = xv_N c := by
  unfold xv_fs
  rw [List.length_map, List.length_range]
theorem xv_fs_set {b c j : Nat} {fi fi' : Nat → Int} {fj fj' : Nat → Int64} {fp fp' : Nat → Nat} {v : Value} (h : j < xv_N c) (hv : v = xv_sv b (xv_ty c j) (fi' j) (fj' j) (fp' j)) (ho : ∀ i, i ≠ j → fi' i = fi i ∧ fj' i = fj i ∧ fp' i = fp i) : (xv_fs b c fi fj fp).set j v = xv_fs b c fi' fj' fp' := by
  apply List.ext_getElem?
  intro i
  by_cases hi : i < xv_N c
  · by_cases hij : i = j
    · subst hij
      rw [List.getElem?_set_self (by rw [xv_fs_len]; exact h), xv_fs_get h, hv]
    · rw [List.getElem?_set_ne (Ne.symm hij), xv_fs_get hi, xv_fs_get hi]
      obtain ⟨h1, h2, h3⟩ := ho i hij
      rw [h1, h2, h3]
  · rw [List.getElem?_eq_none (by rw [List.length_set, xv_fs_len]; omega), List.getElem?_eq_none (by rw [xv_fs_len]; omega)]
theorem xv_kd_lt {M : xv_M} {r : Nat} (h : (xv_kd M r).1 ≠ 99) : r ≠ 0 ∧ r - 1 < M.1.length := by
  unfold xv_kd at h
  by_cases h0 : r = 0
  · rw [if_pos h0] at h
    exact absurd rfl h
  · rw [if_neg h0] at h
    refine ⟨h0, ?_⟩
    by_cases hl : r - 1 < M.1.length
    · exact hl
    · exact absurd (by rw [List.getD_eq_getElem?_getD, List.getElem?_eq_none (by omega)]; rfl) h
theorem xv_W_get {b : Nat} {cy : Nat → ClassId} {M : xv_M} {r : Nat} (h : (xv_kd M r).1 ≠ 99) : (xv_W b cy M)[r - 1]? = some (b + r, xv_E b cy (xv_kd M r) (M.2.1 r) (M.2.2.1 r) (M.2.2.2 r)) := by
  obtain ⟨h0, hl⟩ := xv_kd_lt h
  unfold xv_W
  rw [List.getElem?_map, List.getElem?_range hl]
  have e : r - 1 + 1 = r := by omega
  show some (b + (r - 1 + 1), _) = _
  rw [e]
  unfold xv_kd
  rw [if_neg h0]
theorem xv_W_len {b : Nat} {cy : Nat → ClassId} {M : xv_M} : (xv_W b cy M).length = M.1.length := by
  unfold xv_W
  rw [List.length_map, List.length_range]
theorem xv_W_at {b : Nat} {cy : Nat → ClassId} {M : xv_M} {i : Nat} (h : i < M.1.length) : (xv_W b cy M)[i]? = some (b + (i + 1), xv_E b cy (M.1.getD i (99, 0)) (M.2.1 (i + 1)) (M.2.2.1 (i + 1)) (M.2.2.2 (i + 1))) := by
  unfold xv_W
  rw [List.getElem?_map, List.getElem?_range h]
  rfl
theorem xv_W_D {b : Nat} {cy : Nat → ClassId} {M : xv_M} : va_D (fun q => b < q) (xv_W b cy M) := by
  have key : ∀ (k : Nat) (q : Nat × va_E), (xv_W b cy M)[k]? = some q → q.1 = b + (k + 1) := by
    intro k q hk
    have hl : k < M.1.length := by
      have := (List.getElem?_eq_some_iff.mp hk).1
      rw [xv_W_len] at this
      exact this
    rw [xv_W_at hl] at hk
    cases hk
    rfl
  refine ⟨fun i j p q hi hj hpq => ?_, fun k q hk => ?_⟩
  · have h1 := key i p hi
    have h2 := key j q hj
    omega
  · have h1 := key k q hk
    show b < q.1
    omega
theorem xv_W_set {b : Nat} {cy : Nat → ClassId} {M M' : xv_M} {r : Nat} {e : va_E} (h : (xv_kd M r).1 ≠ 99) (hk : M'.1 = M.1) (he : e = xv_E b cy (xv_kd M r) (M'.2.1 r) (M'.2.2.1 r) (M'.2.2.2 r)) (ho : ∀ i, i ≠ r → M'.2.1 i = M.2.1 i ∧ M'.2.2.1 i = M.2.2.1 i ∧ M'.2.2.2 i = M.2.2.2 i) : (xv_W b cy M).set (r - 1) (b + r, e) = xv_W b cy M' := by
  obtain ⟨h0, hl⟩ := xv_kd_lt h
  have hkd : xv_kd M' r = xv_kd M r := by unfold xv_kd; rw [hk]
  apply List.ext_getElem?
  intro i
  by_cases hi : i < M.1.length
  · by_cases hir : i = r - 1
    · subst hir
      rw [List.getElem?_set_self (by rw [xv_W_len]; exact hl), xv_W_get (by rw [hkd]; exact h), hkd, he]
    · rw [List.getElem?_set_ne (Ne.symm hir), xv_W_at hi, xv_W_at (by rw [hk]; exact hi)]
      obtain ⟨h1, h2, h3⟩ := ho (i + 1) (by omega)
      rw [h1, h2, h3, hk]
  · rw [List.getElem?_eq_none (by rw [List.length_set, xv_W_len]; omega), List.getElem?_eq_none (by rw [xv_W_len, hk]; omega)]
theorem xv_W_new {b : Nat} {cy : Nat → ClassId} {M : xv_M} {k : Nat × Nat} : xv_W b cy (xv_new M k) = xv_W b cy M ++ [(b + 1 + M.1.length, xv_E b cy k (fun _ => 0) (fun _ => 0) (fun _ => 0))] := by
  apply List.ext_getElem?
  intro i
  have hlen : (xv_new M k).1.length = M.1.length + 1 := by simp [xv_new]
  by_cases hi : i < M.1.length
  · rw [List.getElem?_append_left (by rw [xv_W_len]; exact hi), xv_W_at hi, xv_W_at (by omega)]
    have e1 : ((xv_new M k).1).getD i (99, 0) = M.1.getD i (99, 0) := by
      simp [xv_new, List.getD_eq_getElem?_getD, List.getElem?_append_left hi]
    have e2 : i + 1 ≠ M.1.length + 1 := by omega
    rw [e1]
    have f1 : (xv_new M k).2.1 (i + 1) = M.2.1 (i + 1) := by funext j; simp [xv_new, xv_rw]; omega
    have f2 : (xv_new M k).2.2.1 (i + 1) = M.2.2.1 (i + 1) := by funext j; simp [xv_new, xv_rw]; omega
    have f3 : (xv_new M k).2.2.2 (i + 1) = M.2.2.2 (i + 1) := by funext j; simp [xv_new, xv_rw]; omega
    rw [f1, f2, f3]
  · by_cases hi2 : i = M.1.length
    · subst hi2
      rw [List.getElem?_append_right (by rw [xv_W_len]; exact Nat.le_refl _), xv_W_len, Nat.sub_self, xv_W_at (by omega)]
      have e1 : ((xv_new M k).1).getD M.1.length (99, 0) = k := by
        simp [xv_new, List.getD_eq_getElem?_getD]
      have f1 : (xv_new M k).2.1 (M.1.length + 1) = fun _ => 0 := by funext j; simp [xv_new, xv_rw]
      have f2 : (xv_new M k).2.2.1 (M.1.length + 1) = fun _ => 0 := by funext j; simp [xv_new, xv_rw]
      have f3 : (xv_new M k).2.2.2 (M.1.length + 1) = fun _ => 0 := by funext j; simp [xv_new, xv_rw]
      rw [e1, f1, f2, f3]
      have e2 : b + (M.1.length + 1) = b + 1 + M.1.length := by omega
      rw [e2]
      rfl
    · rw [List.getElem?_eq_none (by rw [xv_W_len]; omega), List.getElem?_eq_none (by rw [List.length_append, xv_W_len]; simp only [List.length_cons, List.length_nil]; omega)]
