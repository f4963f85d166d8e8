/-! ## fields and arrays -/
theorem xv_obj {b : Nat} {cy : Nat → ClassId} {M : xv_M} {r ci : Nat} (h : (xv_kd M r).1 = ci) (hc : ci < 13) : r ≠ 0 ∧ (xv_W b cy M)[r - 1]? = some (b + r, .inr (ci, xv_fs b ci (M.2.1 r) (M.2.2.1 r) (M.2.2.2 r))) := by
  have h9 : (xv_kd M r).1 ≠ 99 := by omega
  refine ⟨(xv_kd_lt h9).1, ?_⟩
  rw [xv_W_get h9]
  unfold xv_E
  rw [if_pos (by omega), h]
theorem xv_arI {b : Nat} {cy : Nat → ClassId} {M : xv_M} {r t : Nat} (h : (xv_kd M r).1 = t) (ht : t = 13 ∨ t = 14 ∨ t = 16) : r ≠ 0 ∧ (xv_W b cy M)[r - 1]? = some (b + r, .inl (cy t, (xv_kd M r).2, .inl (fun j => Int32.ofInt (M.2.1 r j)))) := by
  have h9 : (xv_kd M r).1 ≠ 99 := by omega
  refine ⟨(xv_kd_lt h9).1, ?_⟩
  rw [xv_W_get h9]
  unfold xv_E
  rw [if_neg (by omega), if_neg (by omega), if_neg (by omega), h]
theorem xv_arJ {b : Nat} {cy : Nat → ClassId} {M : xv_M} {r : Nat} (h : (xv_kd M r).1 = 15) : r ≠ 0 ∧ (xv_W b cy M)[r - 1]? = some (b + r, .inl (cy 15, (xv_kd M r).2, .inr (.inl (M.2.2.1 r)))) := by
  have h9 : (xv_kd M r).1 ≠ 99 := by omega
  refine ⟨(xv_kd_lt h9).1, ?_⟩
  rw [xv_W_get h9]
  unfold xv_E
  rw [if_neg (by omega), if_pos h]
theorem xv_arP {b : Nat} {cy : Nat → ClassId} {M : xv_M} {r t : Nat} (h : (xv_kd M r).1 = t) (ht : t = 17 ∨ t = 18) : r ≠ 0 ∧ (xv_W b cy M)[r - 1]? = some (b + r, .inl (cy t, (xv_kd M r).2, .inr (.inr (.inr (.inr (fun j => xv_R b (M.2.2.2 r j))))))) := by
  have h9 : (xv_kd M r).1 ≠ 99 := by omega
  refine ⟨(xv_kd_lt h9).1, ?_⟩
  rw [xv_W_get h9]
  unfold xv_E
  rw [if_neg (by omega), if_neg (by omega), if_pos (by omega), h]
/-- field reads: int, long, reference; writes -/
def xv_gI {T : Type} (M : xv_M) (c r j : Nat) (f : Int → Option T) : Option T := if (xv_kd M r).1 = c then f (xv_I M r j) else none
def xv_gJ {T : Type} (M : xv_M) (c r j : Nat) (f : Int64 → Option T) : Option T := if (xv_kd M r).1 = c then f (xv_J M r j) else none
def xv_gP {T : Type} (M : xv_M) (c r j : Nat) (f : Nat → Option T) : Option T := if (xv_kd M r).1 = c then f (xv_P M r j) else none
def xv_pI {T : Type} (M : xv_M) (c r j : Nat) (v : Int) (f : xv_M → Option T) : Option T := if (xv_kd M r).1 = c then f (xv_sI M r j v) else none
def xv_pZ {T : Type} (M : xv_M) (c r j : Nat) (v : Int) (f : xv_M → Option T) : Option T := if (xv_kd M r).1 = c ∧ (v = 0 ∨ v = 1) then f (xv_sI M r j v) else none
def xv_pJ {T : Type} (M : xv_M) (c r j : Nat) (v : Int64) (f : xv_M → Option T) : Option T := if (xv_kd M r).1 = c then f (xv_sJ M r j v) else none
def xv_pP {T : Type} (M : xv_M) (c r j : Nat) (v : Nat) (f : xv_M → Option T) : Option T := if (xv_kd M r).1 = c then f (xv_sP M r j v) else none
/-- an array's place is there -/
def xv_ab (M : xv_M) (t r : Nat) (i : Int) : Prop := (xv_kd M r).1 = t ∧ 0 ≤ i ∧ i < ((xv_kd M r).2 : Int) ∧ i ≤ 2147483647
def xv_abb (M : xv_M) (t r : Nat) (i : Int) : Bool := decide ((xv_kd M r).1 = t) && (decide (0 ≤ i) && (decide (i < ((xv_kd M r).2 : Int)) && decide (i ≤ 2147483647)))
theorem xv_abb_ab {M : xv_M} {t r : Nat} {i : Int} (h : xv_abb M t r i = true) : xv_ab M t r i := by
  unfold xv_abb at h
  simp only [Bool.and_eq_true, decide_eq_true_eq] at h
  exact h
theorem xv_ab_abb {M : xv_M} {t r : Nat} {i : Int} (h : xv_ab M t r i) : xv_abb M t r i = true := by
  unfold xv_abb
  simp only [Bool.and_eq_true, decide_eq_true_eq]
  exact h
theorem xv_ab_ix {M : xv_M} {t r : Nat} {i : Int} (h : xv_ab M t r i) : vp_in (Int32.ofInt i) (xv_kd M r).2 ∧ (Int32.ofInt i).toNatClampNeg = i.toNat := by
  obtain ⟨-, h1, h2, h3⟩ := h
  have hin : xv_in i := ⟨by omega, by omega⟩
  have ht := xv_toInt hin
  refine ⟨vp_in_iff.mpr (by rw [ht]; exact ⟨h1, h2⟩), ?_⟩
  show (Int32.ofInt i).toInt.toNat = i.toNat
  rw [ht]
def xv_aI {T : Type} (M : xv_M) (t r : Nat) (i : Int) (f : Int → Option T) : Option T := if xv_abb M t r i = true then f (xv_I M r i.toNat) else none
def xv_aJ {T : Type} (M : xv_M) (r : Nat) (i : Int) (f : Int64 → Option T) : Option T := if xv_abb M 15 r i = true then f (xv_J M r i.toNat) else none
def xv_aP {T : Type} (M : xv_M) (t r : Nat) (i : Int) (f : Nat → Option T) : Option T := if xv_abb M t r i = true then f (xv_P M r i.toNat) else none
def xv_wI {T : Type} (M : xv_M) (r : Nat) (i v : Int) (f : xv_M → Option T) : Option T := if xv_abb M 14 r i = true then f (xv_sI M r i.toNat v) else none
def xv_wZ {T : Type} (M : xv_M) (r : Nat) (i v : Int) (f : xv_M → Option T) : Option T := if xv_abb M 16 r i = true ∧ (v = 0 ∨ v = 1) then f (xv_sI M r i.toNat v) else none
def xv_wC {T : Type} (M : xv_M) (r : Nat) (i v : Int) (f : xv_M → Option T) : Option T := if xv_abb M 13 r i = true ∧ (0 ≤ v ∧ v ≤ 65535) then f (xv_sI M r i.toNat v) else none
def xv_wJ {T : Type} (M : xv_M) (r : Nat) (i : Int) (v : Int64) (f : xv_M → Option T) : Option T := if xv_abb M 15 r i = true then f (xv_sJ M r i.toNat v) else none
def xv_wP {T : Type} (M : xv_M) (r : Nat) (i : Int) (v : Nat) (f : xv_M → Option T) : Option T := if xv_abb M 17 r i = true ∧ (xv_kd M v).1 = 6 then f (xv_sP M r i.toNat v) else none
def xv_len {T : Type} (M : xv_M) (t r : Nat) (f : Int → Option T) : Option T := if (xv_kd M r).1 = t then f ((xv_kd M r).2 : Int) else none
/-- arraycopy of ints, of longs -/
def xv_cp {T : Type} (M : xv_M) (t r0 : Nat) (sp : Int) (r1 : Nat) (dp n : Int) (c : xv_M) (f : xv_M → Option T) : Option T := if (xv_kd M r0).1 = t ∧ (xv_kd M r1).1 = t ∧ 0 ≤ sp ∧ 0 ≤ dp ∧ 0 ≤ n ∧ sp + n ≤ ((xv_kd M r0).2 : Int) ∧ dp + n ≤ ((xv_kd M r1).2 : Int) ∧ sp ≤ 1000000 ∧ dp ≤ 1000000 ∧ n ≤ 1000000 then f c else none
theorem xv_up_self {α : Type} (f : Nat → Nat → α) (r j : Nat) (v : α) : xv_up f r j v r j = v := by simp [xv_up]
theorem xv_up_row {α : Type} (f : Nat → Nat → α) {r i : Nat} (j : Nat) (v : α) (h : i ≠ r) : xv_up f r j v i = f i := by
  funext k
  simp [xv_up, h]
theorem xv_up_ne {α : Type} (f : Nat → Nat → α) (r j : Nat) (v : α) {i : Nat} (h : i ≠ j) : xv_up f r j v r i = f r i := by simp [xv_up, h]
theorem xv_rw_row {α : Type} (f : Nat → Nat → α) {r i : Nat} (g : Nat → α) (h : i ≠ r) : xv_rw f r g i = f i := by
  funext k
  simp [xv_rw, h]
theorem xv_rw_self {α : Type} (f : Nat → Nat → α) (r : Nat) (g : Nat → α) : xv_rw f r g r = g := by
  funext k
  simp [xv_rw]
theorem xv_G.moved {Dm : va_G} {cy : Nat → ClassId} {s U : State} (hW : s.WarmedH U.vm) (h : xv_G Dm cy s) : xv_G Dm cy U := ⟨va_K.moved hW.alike h.1, fun q hq => va_Nw.warmM hW (h.2.1 q hq), va_AO.moved hW.alike h.2.2.1, over_moved hW.alike h.2.2.2⟩
theorem xv_nar_c {v : Int} (h : 0 ≤ v ∧ v ≤ 65535) : vp_nar .char (Int32.ofInt v) = Int32.ofInt v := by
  have e : Int32.ofInt v = nI v.toNat := by
    show Int32.ofInt v = Int32.ofNat v.toNat
    rw [← Int32.ofInt_eq_ofNat]
    congr 1
    omega
  rw [e]
  have h1 := (pk_charN (q := v.toNat) (by omega)).1
  unfold vp_nar
  rw [h1]
theorem xv_nar_z {v : Int} (h : v = 0 ∨ v = 1) : vp_nar .boolean (Int32.ofInt v) = Int32.ofInt v := by
  rcases h with rfl | rfl <;> rfl
section XH
variable {T : Type} {Y : xv_Y} {cc : ByteArray} {Ts : List Cond} {own : String} {ce sl : Nat} {Q : State → Prop} {tg : T} {pc pc' : Nat} {L L' : List (Option xv_v)} {st : List xv_v} {M : xv_M} {d d1 d2 : Option T}

theorem xv_getI {ci j index N r : Nat} {C : String} {TT : u_T} {f : Int → Option T} (hY : xv_ok Y cc Ts own) (hd : decode cc pc = .ok (.getfield index, 3)) (hp : pc + 3 = pc') (hc : vwCl[ci]? = some (C, TT, N)) (hN : N = xv_N ci) (hci : ci < 13) (hin : ∀ w ∈ u_ws C TT N, w ∈ Ts) (hj : j < N) (ht : xv_ty ci j = 0) (hl9 : Cond.fieldLink own index (TT j).1 (TT j).2.1 (TT j).2.2.1 ∈ Ts) (k : ∀ x : Int, xv_D Y ce sl Q tg pc' L (xi x :: st) M (f x)) : xv_D Y ce sl Q tg pc L (xr r :: st) M (xv_gI M ci r j f) := by
  subst hp
  obtain ⟨⟨p, l, e, R, s⟩, ⟨m, args, below, meth, c⟩, Dm, cy, b, nL, fl⟩ := Y
  intro hh H locs ls hP hz hS hl
  unfold xv_gI at hh
  by_cases h : (xv_kd M r).1 = ci
  · rw [if_pos h] at hh
    obtain ⟨h0, he⟩ := xv_obj (b := b) (cy := cy) h hci
    simp only [List.map_cons, xv_val]
    rw [xv_r_s h0]
    refine va_get (v := xv_i (xv_I M r j)) hY.1 hY.2.1 hY.2.2.2.2.1 hin hY.2.2.2.1 hY.2.2.2.2.2.1.1 hP (r - 1) he hc j hj (hY.2.2.2.2.1 _ hl9) (fun _ h9 => h9) (by rw [xv_fs_get (by rw [← hN]; exact hj)]; simp [xv_sv, ht, xv_I]) hd ?_
    exact k _ hh H locs ls hP hz hS hl
  · rw [if_neg h] at hh
    cases hh
theorem xv_getJ {ci j index N r : Nat} {C : String} {TT : u_T} {f : Int64 → Option T} (hY : xv_ok Y cc Ts own) (hd : decode cc pc = .ok (.getfield index, 3)) (hp : pc + 3 = pc') (hc : vwCl[ci]? = some (C, TT, N)) (hN : N = xv_N ci) (hci : ci < 13) (hin : ∀ w ∈ u_ws C TT N, w ∈ Ts) (hj : j < N) (ht : xv_ty ci j = 1) (hl9 : Cond.fieldLink own index (TT j).1 (TT j).2.1 (TT j).2.2.1 ∈ Ts) (k : ∀ x : Int64, xv_D Y ce sl Q tg pc' L (xl x :: st) M (f x)) : xv_D Y ce sl Q tg pc L (xr r :: st) M (xv_gJ M ci r j f) := by
  subst hp
  obtain ⟨⟨p, l, e, R, s⟩, ⟨m, args, below, meth, c⟩, Dm, cy, b, nL, fl⟩ := Y
  intro hh H locs ls hP hz hS hl
  unfold xv_gJ at hh
  by_cases h : (xv_kd M r).1 = ci
  · rw [if_pos h] at hh
    obtain ⟨h0, he⟩ := xv_obj (b := b) (cy := cy) h hci
    simp only [List.map_cons, xv_val]
    rw [xv_r_s h0]
    refine va_get (v := Value.long (xv_J M r j)) hY.1 hY.2.1 hY.2.2.2.2.1 hin hY.2.2.2.1 hY.2.2.2.2.2.1.1 hP (r - 1) he hc j hj (hY.2.2.2.2.1 _ hl9) (fun _ h9 => h9) (by rw [xv_fs_get (by rw [← hN]; exact hj)]; simp [xv_sv, ht, xv_J]) hd ?_
    exact k _ hh H locs ls hP hz hS hl
  · rw [if_neg h] at hh
    cases hh
theorem xv_getP {ci j index N r : Nat} {C : String} {TT : u_T} {f : Nat → Option T} (hY : xv_ok Y cc Ts own) (hd : decode cc pc = .ok (.getfield index, 3)) (hp : pc + 3 = pc') (hc : vwCl[ci]? = some (C, TT, N)) (hN : N = xv_N ci) (hci : ci < 13) (hin : ∀ w ∈ u_ws C TT N, w ∈ Ts) (hj : j < N) (ht : xv_ty ci j = 2) (hl9 : Cond.fieldLink own index (TT j).1 (TT j).2.1 (TT j).2.2.1 ∈ Ts) (k : ∀ x : Nat, xv_D Y ce sl Q tg pc' L (xr x :: st) M (f x)) : xv_D Y ce sl Q tg pc L (xr r :: st) M (xv_gP M ci r j f) := by
  subst hp
  obtain ⟨⟨p, l, e, R, s⟩, ⟨m, args, below, meth, c⟩, Dm, cy, b, nL, fl⟩ := Y
  intro hh H locs ls hP hz hS hl
  unfold xv_gP at hh
  by_cases h : (xv_kd M r).1 = ci
  · rw [if_pos h] at hh
    obtain ⟨h0, he⟩ := xv_obj (b := b) (cy := cy) h hci
    simp only [List.map_cons, xv_val]
    rw [xv_r_s h0]
    refine va_get (v := xv_r b (xv_P M r j)) hY.1 hY.2.1 hY.2.2.2.2.1 hin hY.2.2.2.1 hY.2.2.2.2.2.1.1 hP (r - 1) he hc j hj (hY.2.2.2.2.1 _ hl9) (fun _ h9 => h9) (by rw [xv_fs_get (by rw [← hN]; exact hj)]; simp [xv_sv, ht, xv_P]) hd ?_
    exact k _ hh H locs ls hP hz hS hl
  · rw [if_neg h] at hh
    cases hh
theorem xv_putG {M' : xv_M} {v : xv_v} {ci j index N r : Nat} {C : String} {TT : u_T} {ty0 : Nat → FieldType} (hY : xv_ok Y cc Ts own) (hd : decode cc pc = .ok (.putfield index, 3)) (hc : vwCl[ci]? = some (C, TT, N)) (hN : N = xv_N ci) (hci : ci < 13) (hin : ∀ w ∈ u_ws C TT N, w ∈ Ts) (hj : j < N) (hl9 : Cond.fieldLink own index (TT j).1 (TT j).2.1 (TT j).2.2.1 ∈ Ts)
    (hty : ∀ k, k < N → parseFieldDescriptor (TT k).2.2.1 = some (ty0 k)) (hnm : ∀ a, a < N → ∀ b, b < N → a ≠ b → (TT a).2.1 ≠ (TT b).2.1) (hfin : (TT j).2.2.2 = false ∨ ((TT j).2.2.2 = true ∧ Y.2.1.2.2.2.1.name = "<init>" ∧ (TT j).1 = own))
    (hn : narrow (ty0 j) (xv_val Y.2.2.2.2.1 v) = xv_val Y.2.2.2.2.1 v) (hfit : fits (ty0 j) (xv_val Y.2.2.2.2.1 v) = true) (h : (xv_kd M r).1 = ci) (hM : M'.1 = M.1) (ho : ∀ i, i ≠ r → M'.2.1 i = M.2.1 i ∧ M'.2.2.1 i = M.2.2.1 i ∧ M'.2.2.2 i = M.2.2.2 i)
    (hfs : (xv_fs Y.2.2.2.2.1 ci (M.2.1 r) (M.2.2.1 r) (M.2.2.2 r)).set j (xv_val Y.2.2.2.2.1 v) = xv_fs Y.2.2.2.2.1 ci (M'.2.1 r) (M'.2.2.1 r) (M'.2.2.2 r)) (k : xv_V Y ce sl Q (pc + 3) L st M') : xv_V Y ce sl Q pc L (v :: xr r :: st) M := by
  obtain ⟨⟨p, l, e, R, s⟩, ⟨m, args, below, meth, c⟩, Dm, cy, b, nL, fl⟩ := Y
  intro H locs ls hP hz hS hl
  obtain ⟨h0, he⟩ := xv_obj (b := b) (cy := cy) h hci
  have hD : va_D (fun q => b < q) (xv_W b cy M) := xv_W_D
  have hK := hY.2.2.2.2.2.1.1
  have hts := hY.2.2.2.2.1
  have hown := hY.2.2.2.1
  have hlink := hts _ hl9
  have hl2 : j < (xv_fs b ci (M.2.1 r) (M.2.2.1 r) (M.2.2.2 r)).length := by rw [xv_fs_len, ← hN]; exact hj
  have hE : (xv_W b cy M).set (r - 1) (b + r, .inr (ci, (xv_fs b ci (M.2.1 r) (M.2.2.1 r) (M.2.2.2 r)).set j (xv_val b v))) = xv_W b cy M' := xv_W_set (by omega) hM (by rw [hfs]; unfold xv_E; rw [if_pos (by omega), h]) ho
  simp only [List.map_cons]
  show W _ _ _ _ _ _ _ _ _ _ _ _ _ _ _ (F0 m pc ls (xv_val b v :: xv_r b r :: _))
  rw [xv_r_s h0]
  have hap := va_apart (own := own) hts hin ty0 hty hnm hK hc
  obtain ⟨q, h1, cell, q1, q2, q3, q4⟩ := hP (r - 1) _ he
  have hr : q = (C, TT, N) := Option.some.inj (h1.symm.trans hc)
  subst hr
  obtain ⟨hSl, hfc, kC, hkC, hkind⟩ := hK.1 ci _ hc
  obtain ⟨cf, kf, fi, f, hi, hsl⟩ := hSl j hj
  have hlay := hts _ (hin _ (u_in_lay hj))
  unfold u_lay at hlay
  have hst := (u_facts hfc hkC (u_lays hts hin hj) hi).1
  have fin : ∀ H' : Heap, H'[b + r]? = some (cell.setSlot f.slot (xv_val b v)) → H'.size = H.size → (∀ q, q ≠ b + r → H'[q]? = H[q]?) → W p l e R s m args below meth c H' (locs ++ [⟨b + r, f.slot⟩]) ce sl Q (F0 m (pc + 3) ls (st.map (xv_val b))) := by
    intro H' e1 e2 e3
    rw [hsl] at e1 ⊢
    refine k H' _ ls ?_ (fun hf => by rw [e2, hM]; exact hz hf) (hS.put e2 e3 (hD.2 (r - 1) _ he)) hl
    rw [← hE]
    exact hP.set hD he ⟨_, hc, t_OB.to (V := updV (vp_V (xv_fs b ci (M.2.1 r) (M.2.2.1 r) (M.2.2.2 r))) j (xv_val b v)) ⟨_, e1, q2, q3, t_set q4 hap hj _⟩ (fun i _ => vp_updV_set hl2 _ i)⟩ e3
  rcases hfin with hfin | ⟨hfin, hin2, hdecl⟩
  · rw [if_neg (by rw [hfin]; decide)] at hlay
    have h6 := u_store hfc hkC hkind hlay hi (hty j hj) hn hfit
    exact W.putK hY.1 hY.2.1 (f := f) ⟨hown, hlink, ⟨_, _, _, hi⟩, hst⟩ (by rw [q2]; exact h6) q1 q3 (by rw [hsl]; exact k2_hasslot (q4 j hj)) rfl rfl hd fin
  · rw [if_pos hfin] at hlay
    have hcf : m.cls = cf := by
      obtain ⟨_, _, c', _, _, _, -, -, hf', -, -, -, hown2, -⟩ := Cond.laysFinal_spec hlay
      have e1 : c' = cf := by have := hi.symm.trans hf'; simp at this; exact this.1.symm
      rw [hdecl] at hown2
      rw [← e1]; exact Option.some.inj (hown.symm.trans hown2)
    have h6 := u_fits hfc hkC hkind (Or.inr hlay) hi (hty j hj) hn hfit
    exact W.putFinK hY.1 hY.2.1 hown hlink hi hst hcf hin2 (by rw [q2]; exact h6) q1 q3 (by rw [hsl]; exact k2_hasslot (q4 j hj)) rfl rfl hd fin
theorem xv_putI {ci j index N r : Nat} {v : Int} {C : String} {TT : u_T} {ty0 : Nat → FieldType} {f : xv_M → Option T} (hY : xv_ok Y cc Ts own) (hd : decode cc pc = .ok (.putfield index, 3)) (hp : pc + 3 = pc') (hc : vwCl[ci]? = some (C, TT, N)) (hN : N = xv_N ci) (hci : ci < 13) (hin : ∀ w ∈ u_ws C TT N, w ∈ Ts) (hj : j < N) (ht : xv_ty ci j = 0) (hl9 : Cond.fieldLink own index (TT j).1 (TT j).2.1 (TT j).2.2.1 ∈ Ts)
    (hty : ∀ k, k < N → parseFieldDescriptor (TT k).2.2.1 = some (ty0 k)) (hnm : ∀ a, a < N → ∀ b, b < N → a ≠ b → (TT a).2.1 ≠ (TT b).2.1) (hfin : (TT j).2.2.2 = false ∨ ((TT j).2.2.2 = true ∧ Y.2.1.2.2.2.1.name = "<init>" ∧ (TT j).1 = own)) (h9 : ty0 j = .int) (k : ∀ M' : xv_M, xv_D Y ce sl Q tg pc' L st M' (f M')) : xv_D Y ce sl Q tg pc L (xi v :: xr r :: st) M (xv_pI M ci r j v f) := by
  subst hp
  intro hh
  unfold xv_pI at hh
  by_cases h : (xv_kd M r).1 = ci
  · rw [if_pos h] at hh
    refine xv_putG (M' := xv_sI M r j v) hY hd hc hN hci hin hj hl9 hty hnm hfin (by rw [h9]; rfl) (by rw [h9]; rfl) h rfl (fun i hi => ?_) ?_ (k _ hh)
    · simp [xv_sI, xv_up_row _ _ _ hi]
    · refine xv_fs_set (by rw [← hN]; exact hj) (by simp [xv_sv, ht, xv_val, xv_sI, xv_up_self]) (fun i hi => ?_)
      simp [xv_sI, xv_up_ne _ _ _ _ hi]
  · rw [if_neg h] at hh
    cases hh
theorem xv_putZ {ci j index N r : Nat} {v : Int} {C : String} {TT : u_T} {ty0 : Nat → FieldType} {f : xv_M → Option T} (hY : xv_ok Y cc Ts own) (hd : decode cc pc = .ok (.putfield index, 3)) (hp : pc + 3 = pc') (hc : vwCl[ci]? = some (C, TT, N)) (hN : N = xv_N ci) (hci : ci < 13) (hin : ∀ w ∈ u_ws C TT N, w ∈ Ts) (hj : j < N) (ht : xv_ty ci j = 0) (hl9 : Cond.fieldLink own index (TT j).1 (TT j).2.1 (TT j).2.2.1 ∈ Ts)
    (hty : ∀ k, k < N → parseFieldDescriptor (TT k).2.2.1 = some (ty0 k)) (hnm : ∀ a, a < N → ∀ b, b < N → a ≠ b → (TT a).2.1 ≠ (TT b).2.1) (hfin : (TT j).2.2.2 = false ∨ ((TT j).2.2.2 = true ∧ Y.2.1.2.2.2.1.name = "<init>" ∧ (TT j).1 = own)) (h9 : ty0 j = .boolean) (k : ∀ M' : xv_M, xv_D Y ce sl Q tg pc' L st M' (f M')) : xv_D Y ce sl Q tg pc L (xi v :: xr r :: st) M (xv_pZ M ci r j v f) := by
  subst hp
  intro hh
  unfold xv_pZ at hh
  by_cases h : (xv_kd M r).1 = ci ∧ (v = 0 ∨ v = 1)
  · rw [if_pos h] at hh
    refine xv_putG (M' := xv_sI M r j v) hY hd hc hN hci hin hj hl9 hty hnm hfin (by rw [h9]; rcases h.2 with rfl | rfl <;> rfl) (by rw [h9]; rcases h.2 with rfl | rfl <;> rfl) h.1 rfl (fun i hi => ?_) ?_ (k _ hh)
    · simp [xv_sI, xv_up_row _ _ _ hi]
    · refine xv_fs_set (by rw [← hN]; exact hj) (by simp [xv_sv, ht, xv_val, xv_sI, xv_up_self]) (fun i hi => ?_)
      simp [xv_sI, xv_up_ne _ _ _ _ hi]
  · rw [if_neg h] at hh
    cases hh
theorem xv_putJ {ci j index N r : Nat} {v : Int64} {C : String} {TT : u_T} {ty0 : Nat → FieldType} {f : xv_M → Option T} (hY : xv_ok Y cc Ts own) (hd : decode cc pc = .ok (.putfield index, 3)) (hp : pc + 3 = pc') (hc : vwCl[ci]? = some (C, TT, N)) (hN : N = xv_N ci) (hci : ci < 13) (hin : ∀ w ∈ u_ws C TT N, w ∈ Ts) (hj : j < N) (ht : xv_ty ci j = 1) (hl9 : Cond.fieldLink own index (TT j).1 (TT j).2.1 (TT j).2.2.1 ∈ Ts)
    (hty : ∀ k, k < N → parseFieldDescriptor (TT k).2.2.1 = some (ty0 k)) (hnm : ∀ a, a < N → ∀ b, b < N → a ≠ b → (TT a).2.1 ≠ (TT b).2.1) (hfin : (TT j).2.2.2 = false ∨ ((TT j).2.2.2 = true ∧ Y.2.1.2.2.2.1.name = "<init>" ∧ (TT j).1 = own)) (h9 : ty0 j = .long) (k : ∀ M' : xv_M, xv_D Y ce sl Q tg pc' L st M' (f M')) : xv_D Y ce sl Q tg pc L (xl v :: xr r :: st) M (xv_pJ M ci r j v f) := by
  subst hp
  intro hh
  unfold xv_pJ at hh
  by_cases h : (xv_kd M r).1 = ci
  · rw [if_pos h] at hh
    refine xv_putG (M' := xv_sJ M r j v) hY hd hc hN hci hin hj hl9 hty hnm hfin (by rw [h9]; rfl) (by rw [h9]; rfl) h rfl (fun i hi => ?_) ?_ (k _ hh)
    · simp [xv_sJ, xv_up_row _ _ _ hi]
    · refine xv_fs_set (by rw [← hN]; exact hj) (by simp [xv_sv, ht, xv_val, xv_sJ, xv_up_self]) (fun i hi => ?_)
      simp [xv_sJ, xv_up_ne _ _ _ _ hi]
  · rw [if_neg h] at hh
    cases hh
theorem xv_putP {ci j index N r : Nat} {v : Nat} {C : String} {TT : u_T} {ty0 : Nat → FieldType} {f : xv_M → Option T} (hY : xv_ok Y cc Ts own) (hd : decode cc pc = .ok (.putfield index, 3)) (hp : pc + 3 = pc') (hc : vwCl[ci]? = some (C, TT, N)) (hN : N = xv_N ci) (hci : ci < 13) (hin : ∀ w ∈ u_ws C TT N, w ∈ Ts) (hj : j < N) (ht : xv_ty ci j = 2) (hl9 : Cond.fieldLink own index (TT j).1 (TT j).2.1 (TT j).2.2.1 ∈ Ts)
    (hty : ∀ k, k < N → parseFieldDescriptor (TT k).2.2.1 = some (ty0 k)) (hnm : ∀ a, a < N → ∀ b, b < N → a ≠ b → (TT a).2.1 ≠ (TT b).2.1) (hfin : (TT j).2.2.2 = false ∨ ((TT j).2.2.2 = true ∧ Y.2.1.2.2.2.1.name = "<init>" ∧ (TT j).1 = own)) (h9 : (∃ n, ty0 j = .object n) ∨ ∃ t, ty0 j = .array t) (k : ∀ M' : xv_M, xv_D Y ce sl Q tg pc' L st M' (f M')) : xv_D Y ce sl Q tg pc L (xr v :: xr r :: st) M (xv_pP M ci r j v f) := by
  subst hp
  intro hh
  unfold xv_pP at hh
  by_cases h : (xv_kd M r).1 = ci
  · rw [if_pos h] at hh
    refine xv_putG (M' := xv_sP M r j v) hY hd hc hN hci hin hj hl9 hty hnm hfin (by rcases h9 with ⟨n, h9⟩ | ⟨t, h9⟩ <;> rw [h9] <;> simp only [xv_val] <;> by_cases h3 : v = 0 <;> first | (subst h3; rfl) | (rw [xv_r_s h3]; rfl)) (by rcases h9 with ⟨n, h9⟩ | ⟨t, h9⟩ <;> rw [h9] <;> simp only [xv_val] <;> by_cases h3 : v = 0 <;> first | (subst h3; rfl) | (rw [xv_r_s h3]; rfl)) h rfl (fun i hi => ?_) ?_ (k _ hh)
    · simp [xv_sP, xv_up_row _ _ _ hi]
    · refine xv_fs_set (by rw [← hN]; exact hj) (by simp [xv_sv, ht, xv_val, xv_sP, xv_up_self]) (fun i hi => ?_)
      simp [xv_sP, xv_up_ne _ _ _ _ hi]
  · rw [if_neg h] at hh
    cases hh
theorem xv_iald {r : Nat} {i : Int} {f : Int → Option T} (hY : xv_ok Y cc Ts own) (hd : decode cc pc = .ok (.iaload, 1)) (hp : pc + 1 = pc') (k : ∀ x : Int, xv_D Y ce sl Q tg pc' L (xi x :: st) M (f x)) : xv_D Y ce sl Q tg pc L (xi i :: xr r :: st) M (xv_aI M 14 r i f) := by
  subst hp
  obtain ⟨⟨p, l, e, R, s⟩, ⟨m, args, below, meth, c⟩, Dm, cy, b, nL, fl⟩ := Y
  intro hh H locs ls hP hz hS hl
  unfold xv_aI at hh
  by_cases h : xv_abb M 14 r i = true
  · rw [if_pos h] at hh
    have ha := xv_abb_ab h
    obtain ⟨h0, he⟩ := xv_arI (b := b) (cy := cy) ha.1 (by decide)
    obtain ⟨hx, hn⟩ := xv_ab_ix ha
    simp only [List.map_cons, xv_val]
    rw [xv_r_s h0]
    refine va_iald hY.1 hY.2.1 hY.2.2.2.2.2.1.1 hP (r - 1) 1 he rfl hx hd ?_
    rw [hn]
    exact k _ hh H locs ls hP hz hS hl
  · rw [if_neg h] at hh
    cases hh
theorem xv_cald {r : Nat} {i : Int} {f : Int → Option T} (hY : xv_ok Y cc Ts own) (hd : decode cc pc = .ok (.caload, 1)) (hp : pc + 1 = pc') (k : ∀ x : Int, xv_D Y ce sl Q tg pc' L (xi x :: st) M (f x)) : xv_D Y ce sl Q tg pc L (xi i :: xr r :: st) M (xv_aI M 13 r i f) := by
  subst hp
  obtain ⟨⟨p, l, e, R, s⟩, ⟨m, args, below, meth, c⟩, Dm, cy, b, nL, fl⟩ := Y
  intro hh H locs ls hP hz hS hl
  unfold xv_aI at hh
  by_cases h : xv_abb M 13 r i = true
  · rw [if_pos h] at hh
    have ha := xv_abb_ab h
    obtain ⟨h0, he⟩ := xv_arI (b := b) (cy := cy) ha.1 (by decide)
    obtain ⟨hx, hn⟩ := xv_ab_ix ha
    simp only [List.map_cons, xv_val]
    rw [xv_r_s h0]
    refine va_cald hY.1 hY.2.1 hY.2.2.2.2.2.1.1 hP (r - 1) 0 he rfl hx hd ?_
    rw [hn]
    exact k _ hh H locs ls hP hz hS hl
  · rw [if_neg h] at hh
    cases hh
theorem xv_zald {r : Nat} {i : Int} {f : Int → Option T} (hY : xv_ok Y cc Ts own) (hd : decode cc pc = .ok (.baload, 1)) (hp : pc + 1 = pc') (k : ∀ x : Int, xv_D Y ce sl Q tg pc' L (xi x :: st) M (f x)) : xv_D Y ce sl Q tg pc L (xi i :: xr r :: st) M (xv_aI M 16 r i f) := by
  subst hp
  obtain ⟨⟨p, l, e, R, s⟩, ⟨m, args, below, meth, c⟩, Dm, cy, b, nL, fl⟩ := Y
  intro hh H locs ls hP hz hS hl
  unfold xv_aI at hh
  by_cases h : xv_abb M 16 r i = true
  · rw [if_pos h] at hh
    have ha := xv_abb_ab h
    obtain ⟨h0, he⟩ := xv_arI (b := b) (cy := cy) ha.1 (by decide)
    obtain ⟨hx, hn⟩ := xv_ab_ix ha
    simp only [List.map_cons, xv_val]
    rw [xv_r_s h0]
    refine va_zald hY.1 hY.2.1 hY.2.2.2.2.2.1.1 hP (r - 1) 3 he rfl hx hd ?_
    rw [hn]
    exact k _ hh H locs ls hP hz hS hl
  · rw [if_neg h] at hh
    cases hh
theorem xv_lald {r : Nat} {i : Int} {f : Int64 → Option T} (hY : xv_ok Y cc Ts own) (hd : decode cc pc = .ok (.laload, 1)) (hp : pc + 1 = pc') (k : ∀ x : Int64, xv_D Y ce sl Q tg pc' L (xl x :: st) M (f x)) : xv_D Y ce sl Q tg pc L (xi i :: xr r :: st) M (xv_aJ M r i f) := by
  subst hp
  obtain ⟨⟨p, l, e, R, s⟩, ⟨m, args, below, meth, c⟩, Dm, cy, b, nL, fl⟩ := Y
  intro hh H locs ls hP hz hS hl
  unfold xv_aJ at hh
  by_cases h : xv_abb M 15 r i = true
  · rw [if_pos h] at hh
    have ha := xv_abb_ab h
    obtain ⟨h0, he⟩ := xv_arJ (b := b) (cy := cy) ha.1
    obtain ⟨hx, hn⟩ := xv_ab_ix ha
    simp only [List.map_cons, xv_val]
    rw [xv_r_s h0]
    refine va_lald hY.1 hY.2.1 hY.2.2.2.2.2.1.1 hP (r - 1) 2 he rfl hx hd ?_
    rw [hn]
    exact k _ hh H locs ls hP hz hS hl
  · rw [if_neg h] at hh
    cases hh
theorem xv_aaldS {r : Nat} {i : Int} {f : Nat → Option T} (hY : xv_ok Y cc Ts own) (hd : decode cc pc = .ok (.aaload, 1)) (hp : pc + 1 = pc') (k : ∀ x : Nat, xv_D Y ce sl Q tg pc' L (xr x :: st) M (f x)) : xv_D Y ce sl Q tg pc L (xi i :: xr r :: st) M (xv_aP M 17 r i f) := by
  subst hp
  obtain ⟨⟨p, l, e, R, s⟩, ⟨m, args, below, meth, c⟩, Dm, cy, b, nL, fl⟩ := Y
  intro hh H locs ls hP hz hS hl
  unfold xv_aP at hh
  by_cases h : xv_abb M 17 r i = true
  · rw [if_pos h] at hh
    have ha := xv_abb_ab h
    obtain ⟨h0, he⟩ := xv_arP (b := b) (cy := cy) ha.1 (by decide)
    obtain ⟨hx, hn⟩ := xv_ab_ix ha
    simp only [List.map_cons, xv_val]
    rw [xv_r_s h0]
    have hlt : (Int32.ofInt i).toNatClampNeg < (xv_kd M r).2 := Nat.not_le.mp fun q => hx (Or.inr q)
    refine W.aald (v := va_rf (xv_R b (M.2.2.2 r (Int32.ofInt i).toNatClampNeg))) (ty := .object "MiddleSpans$State") hY.1 hY.2.1 (hP (r - 1) _ he) ((hY.2.2.2.2.2.1.1.2 4 _ rfl).1 (xv_kd M r).2 (fun j => va_rf (xv_R b (M.2.2.2 r j)))) rfl (fun q => by cases q) (by show ¬ (_ < 0 ∨ (arrV _ _ _).slots.size ≤ _); rw [arrV_size]; exact hx) (by show (arrV _ _ _).slots[_]? = _; rw [arrV_read _ _ hlt]) rfl rfl hd ?_
    rw [hn]
    exact k _ hh H locs ls hP hz hS hl
  · rw [if_neg h] at hh
    cases hh
theorem xv_aaldI {r : Nat} {i : Int} {f : Nat → Option T} (hY : xv_ok Y cc Ts own) (hd : decode cc pc = .ok (.aaload, 1)) (hp : pc + 1 = pc') (k : ∀ x : Nat, xv_D Y ce sl Q tg pc' L (xr x :: st) M (f x)) : xv_D Y ce sl Q tg pc L (xi i :: xr r :: st) M (xv_aP M 18 r i f) := by
  subst hp
  obtain ⟨⟨p, l, e, R, s⟩, ⟨m, args, below, meth, c⟩, Dm, cy, b, nL, fl⟩ := Y
  intro hh H locs ls hP hz hS hl
  unfold xv_aP at hh
  by_cases h : xv_abb M 18 r i = true
  · rw [if_pos h] at hh
    have ha := xv_abb_ab h
    obtain ⟨h0, he⟩ := xv_arP (b := b) (cy := cy) ha.1 (by decide)
    obtain ⟨hx, hn⟩ := xv_ab_ix ha
    simp only [List.map_cons, xv_val]
    rw [xv_r_s h0]
    have hlt : (Int32.ofInt i).toNatClampNeg < (xv_kd M r).2 := Nat.not_le.mp fun q => hx (Or.inr q)
    refine W.aald (v := va_rf (xv_R b (M.2.2.2 r (Int32.ofInt i).toNatClampNeg))) (ty := .array .int) hY.1 hY.2.1 (hP (r - 1) _ he) ((hY.2.2.2.2.2.1.1.2 5 _ rfl).1 (xv_kd M r).2 (fun j => va_rf (xv_R b (M.2.2.2 r j)))) rfl (fun q => by cases q) (by show ¬ (_ < 0 ∨ (arrV _ _ _).slots.size ≤ _); rw [arrV_size]; exact hx) (by show (arrV _ _ _).slots[_]? = _; rw [arrV_read _ _ hlt]) rfl rfl hd ?_
    rw [hn]
    exact k _ hh H locs ls hP hz hS hl
  · rw [if_neg h] at hh
    cases hh
theorem xv_iast {r : Nat} {i v : Int} {f : xv_M → Option T} (hY : xv_ok Y cc Ts own) (hfl : Y.2.2.2.2.2.2 = false) (hd : decode cc pc = .ok (.iastore, 1)) (hp : pc + 1 = pc') (k : ∀ M' : xv_M, xv_D Y ce sl Q tg pc' L st M' (f M')) : xv_D Y ce sl Q tg pc L (xi v :: xi i :: xr r :: st) M (xv_wI M r i v f) := by
  subst hp
  obtain ⟨⟨p, l, e, R, s⟩, ⟨m, args, below, meth, c⟩, Dm, cy, b, nL, fl⟩ := Y
  intro hh H locs ls hP hz hS hl
  unfold xv_wI at hh
  by_cases h : xv_abb M 14 r i = true
  · rw [if_pos h] at hh
    have ha := xv_abb_ab h
    obtain ⟨h0, he⟩ := xv_arI (b := b) (cy := cy) ha.1 (by decide)
    obtain ⟨hx, hn⟩ := xv_ab_ix ha
    simp only [List.map_cons, xv_val]
    rw [xv_r_s h0]
    refine va_iast hY.1 hY.2.1 hY.2.2.2.2.2.1.1 hP xv_W_D hS (r - 1) 1 he rfl hx hd (fun H1 locs1 hP1 hD1 hS1 => ?_)
    refine k _ hh H1 locs1 ls ?_ (fun q => by rw [show fl = false from hfl] at q; cases q) hS1 hl
    rw [hn] at hP1
    have hset : (xv_W b cy M).set (r - 1) (b + r, .inl (cy 14, (xv_kd M r).2, .inl (upd (fun j => Int32.ofInt (M.2.1 r j)) i.toNat (Int32.ofInt v)))) = xv_W b cy (xv_sI M r i.toNat v) := by
      refine xv_W_set (by have := ha.1; omega) rfl ?_ (fun j hj => by simp [xv_sI, xv_up_row _ _ _ hj])
      unfold xv_E
      rw [if_neg (by have := ha.1; omega), if_neg (by have := ha.1; omega), if_neg (by have := ha.1; omega), ha.1]
      congr 4
      funext j
      by_cases hj : j = i.toNat <;> simp [upd, xv_sI, xv_up, hj]
    show va_P Dm vwCl (xv_W b cy (xv_sI M r i.toNat v)) H1
    rw [← hset]
    exact hP1
  · rw [if_neg h] at hh
    cases hh
theorem xv_zast {r : Nat} {i v : Int} {f : xv_M → Option T} (hY : xv_ok Y cc Ts own) (hfl : Y.2.2.2.2.2.2 = false) (hd : decode cc pc = .ok (.bastore, 1)) (hp : pc + 1 = pc') (k : ∀ M' : xv_M, xv_D Y ce sl Q tg pc' L st M' (f M')) : xv_D Y ce sl Q tg pc L (xi v :: xi i :: xr r :: st) M (xv_wZ M r i v f) := by
  subst hp
  obtain ⟨⟨p, l, e, R, s⟩, ⟨m, args, below, meth, c⟩, Dm, cy, b, nL, fl⟩ := Y
  intro hh H locs ls hP hz hS hl
  unfold xv_wZ at hh
  by_cases h : xv_abb M 16 r i = true ∧ (v = 0 ∨ v = 1)
  · rw [if_pos h] at hh
    have ha := xv_abb_ab h.1
    obtain ⟨h0, he⟩ := xv_arI (b := b) (cy := cy) ha.1 (by decide)
    obtain ⟨hx, hn⟩ := xv_ab_ix ha
    simp only [List.map_cons, xv_val]
    rw [xv_r_s h0]
    refine va_zast hY.1 hY.2.1 hY.2.2.2.2.2.1.1 hP xv_W_D hS (r - 1) 3 he rfl hx hd (fun H1 locs1 hP1 hD1 hS1 => ?_)
    refine k _ hh H1 locs1 ls ?_ (fun q => by rw [show fl = false from hfl] at q; cases q) hS1 hl
    rw [hn] at hP1
    rw [xv_nar_z h.2] at hP1
    have hset : (xv_W b cy M).set (r - 1) (b + r, .inl (cy 16, (xv_kd M r).2, .inl (upd (fun j => Int32.ofInt (M.2.1 r j)) i.toNat (Int32.ofInt v)))) = xv_W b cy (xv_sI M r i.toNat v) := by
      refine xv_W_set (by have := ha.1; omega) rfl ?_ (fun j hj => by simp [xv_sI, xv_up_row _ _ _ hj])
      unfold xv_E
      rw [if_neg (by have := ha.1; omega), if_neg (by have := ha.1; omega), if_neg (by have := ha.1; omega), ha.1]
      congr 4
      funext j
      by_cases hj : j = i.toNat <;> simp [upd, xv_sI, xv_up, hj]
    show va_P Dm vwCl (xv_W b cy (xv_sI M r i.toNat v)) H1
    rw [← hset]
    exact hP1
  · rw [if_neg h] at hh
    cases hh
theorem xv_cast {r : Nat} {i v : Int} {f : xv_M → Option T} (hY : xv_ok Y cc Ts own) (hfl : Y.2.2.2.2.2.2 = false) (hd : decode cc pc = .ok (.castore, 1)) (hp : pc + 1 = pc') (k : ∀ M' : xv_M, xv_D Y ce sl Q tg pc' L st M' (f M')) : xv_D Y ce sl Q tg pc L (xi v :: xi i :: xr r :: st) M (xv_wC M r i v f) := by
  subst hp
  obtain ⟨⟨p, l, e, R, s⟩, ⟨m, args, below, meth, c⟩, Dm, cy, b, nL, fl⟩ := Y
  intro hh H locs ls hP hz hS hl
  unfold xv_wC at hh
  by_cases h : xv_abb M 13 r i = true ∧ (0 ≤ v ∧ v ≤ 65535)
  · rw [if_pos h] at hh
    have ha := xv_abb_ab h.1
    obtain ⟨h0, he⟩ := xv_arI (b := b) (cy := cy) ha.1 (by decide)
    obtain ⟨hx, hn⟩ := xv_ab_ix ha
    simp only [List.map_cons, xv_val]
    rw [xv_r_s h0]
    refine va_cast hY.1 hY.2.1 hY.2.2.2.2.2.1.1 hP xv_W_D hS (r - 1) 0 he rfl hx hd (fun H1 locs1 hP1 hD1 hS1 => ?_)
    refine k _ hh H1 locs1 ls ?_ (fun q => by rw [show fl = false from hfl] at q; cases q) hS1 hl
    rw [hn] at hP1
    rw [xv_nar_c h.2] at hP1
    have hset : (xv_W b cy M).set (r - 1) (b + r, .inl (cy 13, (xv_kd M r).2, .inl (upd (fun j => Int32.ofInt (M.2.1 r j)) i.toNat (Int32.ofInt v)))) = xv_W b cy (xv_sI M r i.toNat v) := by
      refine xv_W_set (by have := ha.1; omega) rfl ?_ (fun j hj => by simp [xv_sI, xv_up_row _ _ _ hj])
      unfold xv_E
      rw [if_neg (by have := ha.1; omega), if_neg (by have := ha.1; omega), if_neg (by have := ha.1; omega), ha.1]
      congr 4
      funext j
      by_cases hj : j = i.toNat <;> simp [upd, xv_sI, xv_up, hj]
    show va_P Dm vwCl (xv_W b cy (xv_sI M r i.toNat v)) H1
    rw [← hset]
    exact hP1
  · rw [if_neg h] at hh
    cases hh
theorem xv_last {r : Nat} {i : Int} {v : Int64} {f : xv_M → Option T} (hY : xv_ok Y cc Ts own) (hfl : Y.2.2.2.2.2.2 = false) (hd : decode cc pc = .ok (.lastore, 1)) (hp : pc + 1 = pc') (k : ∀ M' : xv_M, xv_D Y ce sl Q tg pc' L st M' (f M')) : xv_D Y ce sl Q tg pc L (xl v :: xi i :: xr r :: st) M (xv_wJ M r i v f) := by
  subst hp
  obtain ⟨⟨p, l, e, R, s⟩, ⟨m, args, below, meth, c⟩, Dm, cy, b, nL, fl⟩ := Y
  intro hh H locs ls hP hz hS hl
  unfold xv_wJ at hh
  by_cases h : xv_abb M 15 r i = true
  · rw [if_pos h] at hh
    have ha := xv_abb_ab h
    obtain ⟨h0, he⟩ := xv_arJ (b := b) (cy := cy) ha.1
    obtain ⟨hx, hn⟩ := xv_ab_ix ha
    simp only [List.map_cons, xv_val]
    rw [xv_r_s h0]
    refine va_last hY.1 hY.2.1 hY.2.2.2.2.2.1.1 hP xv_W_D hS (r - 1) 2 he rfl hx hd (fun H1 locs1 hP1 hD1 hS1 => ?_)
    refine k _ hh H1 locs1 ls ?_ (fun q => by rw [show fl = false from hfl] at q; cases q) hS1 hl
    rw [hn] at hP1
    have hset : (xv_W b cy M).set (r - 1) (b + r, .inl (cy 15, (xv_kd M r).2, .inr (.inl (vp_updL (M.2.2.1 r) i.toNat v)))) = xv_W b cy (xv_sJ M r i.toNat v) := by
      refine xv_W_set (by have := ha.1; omega) rfl ?_ (fun j hj => by simp [xv_sJ, xv_up_row _ _ _ hj])
      unfold xv_E
      rw [if_neg (by have := ha.1; omega), if_pos ha.1]
      congr 5
      funext j
      by_cases hj : j = i.toNat <;> simp [vp_updL, xv_sJ, xv_up, hj]
    show va_P Dm vwCl (xv_W b cy (xv_sJ M r i.toNat v)) H1
    rw [← hset]
    exact hP1
  · rw [if_neg h] at hh
    cases hh
theorem xv_aast {r v : Nat} {i : Int} {f : xv_M → Option T} (hY : xv_ok Y cc Ts own) (hd : decode cc pc = .ok (.aastore, 1)) (hp : pc + 1 = pc') (k : ∀ M' : xv_M, xv_D Y ce sl Q tg pc' L st M' (f M')) : xv_D Y ce sl Q tg pc L (xr v :: xi i :: xr r :: st) M (xv_wP M r i v f) := by
  subst hp
  obtain ⟨⟨p, l, e, R, s⟩, ⟨m, args, below, meth, c⟩, Dm, cy, b, nL, fl⟩ := Y
  intro hh H locs ls hP hz hS hl
  unfold xv_wP at hh
  by_cases h : xv_abb M 17 r i = true ∧ (xv_kd M v).1 = 6
  · rw [if_pos h] at hh
    have ha := xv_abb_ab h.1
    obtain ⟨h0, he⟩ := xv_arP (b := b) (cy := cy) ha.1 (by decide)
    obtain ⟨v0, hv⟩ := xv_obj (b := b) (cy := cy) h.2 (by decide)
    obtain ⟨hx, hn⟩ := xv_ab_ix ha
    have hD : va_D (fun q => b < q) (xv_W b cy M) := xv_W_D
    have hK := hY.2.2.2.2.2.1.1
    simp only [List.map_cons, xv_val]
    rw [xv_r_s h0, xv_r_s v0]
    have hlt : (Int32.ofInt i).toNatClampNeg < (xv_kd M r).2 := Nat.not_le.mp fun q => hx (Or.inr q)
    have hi0 : ¬ (Int32.ofInt i) < 0 := fun q => hx (Or.inl q)
    obtain ⟨r', hr', cellV, g1, g2, g3, -⟩ := hP (v - 1) _ hv
    have hcls := (hK.1 6 _ rfl).2
    obtain ⟨kA, comp, k1, k2, k3, -⟩ := (hK.2 4 _ rfl).2
    have hcomp : comp = Dm.1 6 := Option.some.inj (k3.symm.trans hcls.1)
    subst hcomp
    obtain ⟨kC, hkC, -⟩ := hcls.2
    refine W.aast hY.1 hY.2.1 (hP (r - 1) _ he) (fun q h => by cases h) (fun h => by cases h) k1 k2 rfl hkC ⟨hi0, by show _ < (arrV _ _ _).slots.size; rw [arrV_size]; exact hlt⟩ g1 (fun q h => by rw [g3] at h; cases h) (by rw [g2]; exact hkC) (by rw [g2]; exact va_assign hcls) rfl rfl hd fun H1 e1 z1 oq => ?_
    refine k _ hh H1 _ ls ?_ (fun q => by rw [z1]; exact hz q) (hS.put z1 oq (hD.2 (r - 1) _ he)) hl
    have hset : (xv_W b cy M).set (r - 1) (b + r, .inl (cy 17, (xv_kd M r).2, .inr (.inr (.inr (.inr (va_up (fun j => xv_R b (M.2.2.2 r j)) i.toNat (some (b + v)))))))) = xv_W b cy (xv_sP M r i.toNat v) := by
      refine xv_W_set (by have := ha.1; omega) rfl ?_ (fun j hj => by simp [xv_sP, xv_up_row _ _ _ hj])
      unfold xv_E
      rw [if_neg (by have := ha.1; omega), if_neg (by have := ha.1; omega), if_pos (by have := ha.1; omega), ha.1]
      congr 7
      funext j
      by_cases hj : j = i.toNat
      · subst hj
        simp [va_up, xv_sP, xv_up, xv_R, v0]
      · simp [va_up, xv_sP, xv_up, hj]
    show va_P Dm vwCl (xv_W b cy (xv_sP M r i.toNat v)) H1
    rw [← hset]
    refine hP.set hD he ?_ oq
    show H1[b + r]? = some (vp_cell _ _)
    rw [e1]
    rw [vp_cell_q, vp_cell_q, arrV_store]
    congr 2
    funext q
    rw [hn]
    by_cases hq : q = i.toNat
    · subst hq
      simp [updV, va_up, va_rf]
    · simp [updV, va_up, hq]
  · rw [if_neg h] at hh
    cases hh
theorem xv_alenI {r : Nat} {f : Int → Option T} (hY : xv_ok Y cc Ts own) (hd : decode cc pc = .ok (.arraylength, 1)) (hp : pc + 1 = pc') (k : ∀ x : Int, xv_D Y ce sl Q tg pc' L (xi x :: st) M (f x)) : xv_D Y ce sl Q tg pc L (xr r :: st) M (xv_len M 14 r f) := by
  subst hp
  obtain ⟨⟨p, l, e, R, s⟩, ⟨m, args, below, meth, c⟩, Dm, cy, b, nL, fl⟩ := Y
  intro hh H locs ls hP hz hS hl
  unfold xv_len at hh
  by_cases h : (xv_kd M r).1 = 14
  · rw [if_pos h] at hh
    obtain ⟨h0, he⟩ := xv_arI (b := b) (cy := cy) h (by decide)
    simp only [List.map_cons, xv_val]
    rw [xv_r_s h0]
    refine va_alen (v := Int32.ofInt ((xv_kd M r).2 : Int)) hY.1 hY.2.1 hY.2.2.2.2.2.1.1 hP (r - 1) 1 he rfl (by rw [Int32.ofInt_eq_ofNat]) hd ?_
    exact k _ hh H locs ls hP hz hS hl
  · rw [if_neg h] at hh
    cases hh
theorem xv_alenJ {r : Nat} {f : Int → Option T} (hY : xv_ok Y cc Ts own) (hd : decode cc pc = .ok (.arraylength, 1)) (hp : pc + 1 = pc') (k : ∀ x : Int, xv_D Y ce sl Q tg pc' L (xi x :: st) M (f x)) : xv_D Y ce sl Q tg pc L (xr r :: st) M (xv_len M 15 r f) := by
  subst hp
  obtain ⟨⟨p, l, e, R, s⟩, ⟨m, args, below, meth, c⟩, Dm, cy, b, nL, fl⟩ := Y
  intro hh H locs ls hP hz hS hl
  unfold xv_len at hh
  by_cases h : (xv_kd M r).1 = 15
  · rw [if_pos h] at hh
    obtain ⟨h0, he⟩ := xv_arJ (b := b) (cy := cy) h 
    simp only [List.map_cons, xv_val]
    rw [xv_r_s h0]
    refine va_alen (v := Int32.ofInt ((xv_kd M r).2 : Int)) hY.1 hY.2.1 hY.2.2.2.2.2.1.1 hP (r - 1) 2 he rfl (by rw [Int32.ofInt_eq_ofNat]) hd ?_
    exact k _ hh H locs ls hP hz hS hl
  · rw [if_neg h] at hh
    cases hh
end XH
