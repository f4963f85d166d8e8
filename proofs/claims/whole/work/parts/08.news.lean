/-! ## what is made new; arraycopy; Math -/
def xv_nw {T : Type} (M : xv_M) (k : Nat × Nat) (f : Nat → xv_M → Option T) : Option T := f (M.1.length + 1) (xv_new M k)
def xv_cpI {T : Type} (M : xv_M) (r0 : Nat) (sp : Int) (r1 : Nat) (dp n : Int) (f : xv_M → Option T) : Option T := if (xv_kd M r0).1 = 14 ∧ (xv_kd M r1).1 = 14 ∧ 0 ≤ sp ∧ 0 ≤ dp ∧ 0 ≤ n ∧ sp + n ≤ ((xv_kd M r0).2 : Int) ∧ dp + n ≤ ((xv_kd M r1).2 : Int) ∧ sp ≤ 1000000 ∧ dp ≤ 1000000 ∧ n ≤ 1000000 then f (xv_rI M r1 (va_cpy (xv_I M r0) (xv_I M r1) sp.toNat dp.toNat n.toNat)) else none
def xv_cpJ {T : Type} (M : xv_M) (r0 : Nat) (sp : Int) (r1 : Nat) (dp n : Int) (f : xv_M → Option T) : Option T := if (xv_kd M r0).1 = 15 ∧ (xv_kd M r1).1 = 15 ∧ 0 ≤ sp ∧ 0 ≤ dp ∧ 0 ≤ n ∧ sp + n ≤ ((xv_kd M r0).2 : Int) ∧ dp + n ≤ ((xv_kd M r1).2 : Int) ∧ sp ≤ 1000000 ∧ dp ≤ 1000000 ∧ n ≤ 1000000 then f (xv_rJ M r1 (va_cpy (xv_J M r0) (xv_J M r1) sp.toNat dp.toNat n.toNat)) else none
def xv_abs {T : Type} (x : Int) (f : Int → Option T) : Option T := if xv_inb x = true then f (if 0 ≤ x then x else 0 - x) else none
def xv_max {T : Type} (x y : Int) (f : Int → Option T) : Option T := if xv_inb x = true ∧ xv_inb y = true then f (if x < y then y else x) else none
def xv_min {T : Type} (x y : Int) (f : Int → Option T) : Option T := if xv_inb x = true ∧ xv_inb y = true then f (if y < x then y else x) else none
theorem xv_nat_n {n : Int} (h0 : 0 ≤ n) (h : n ≤ 1000000) : ¬ (Int32.ofInt n) < 0 ∧ (Int32.ofInt n).toNatClampNeg = n.toNat := by
  have hin : xv_in n := ⟨by omega, by omega⟩
  have ht := xv_toInt hin
  refine ⟨fun q => ?_, ?_⟩
  · rw [xv_0, xv_lt hin xv_in0] at q
    omega
  · show (Int32.ofInt n).toInt.toNat = n.toNat
    rw [ht]
theorem xv_cpy_i (f g : Nat → Int) (sp dp n : Nat) : va_cpy (fun j => Int32.ofInt (f j)) (fun j => Int32.ofInt (g j)) sp dp n = fun j => Int32.ofInt (va_cpy f g sp dp n j) := by
  funext j
  unfold va_cpy
  by_cases h : dp ≤ j ∧ j < dp + n
  · rw [if_pos h, if_pos h]
  · rw [if_neg h, if_neg h]
section XN
variable {T : Type} {Y : xv_Y} {cc : ByteArray} {Ts : List Cond} {own : String} {ce sl : Nat} {Q : State → Prop} {tg : T} {pc pc' : Nat} {L L' : List (Option xv_v)} {st S : List xv_v} {M : xv_M} {d d1 d2 : Option T}

theorem xv_newO {ci index N : Nat} {C : String} {TT : u_T} {ty0 : Nat → FieldType} {f : Nat → xv_M → Option T} (hY : xv_ok Y cc Ts own) (hfl : Y.2.2.2.2.2.2 = true) (hd : decode cc pc = .ok (.new index, 3)) (hp : pc + 3 = pc') (hc : vwCl[ci]? = some (C, TT, N)) (hN : N = xv_N ci) (hci : ci < 13) (hin : ∀ w ∈ u_ws C TT N, w ∈ Ts) (hty : ∀ k, k < N → parseFieldDescriptor (TT k).2.2.1 = some (ty0 k)) (hdv : ∀ j, j < N → defaultValue (ty0 j) = xv_sv 0 (xv_ty ci j) 0 0 0)
    (hcl : Cond.classLink own index C ∈ Ts) (hinst : Cond.instantiable C N ∈ Ts) (hini : Cond.initialized C ∈ Ts) (hcells : ce + 1 ≤ Y.1.2.2.2.1.cells) (hslots : sl + N ≤ Y.1.2.2.2.1.slots) (k : ∀ (r : Nat) (M' : xv_M), xv_D Y (ce + 1) (sl + N) Q tg pc' L (xr r :: st) M' (f r M')) : xv_D Y ce sl Q tg pc L st M (xv_nw M (ci, 0) f) := by
  subst hp
  obtain ⟨⟨p, l, e, R, s⟩, ⟨m, args, below, meth, c⟩, Dm, cy, b, nL, fl⟩ := Y
  intro hh H locs ls hP hz hS hl
  have hs : H.size = b + 1 + M.1.length := hz hfl
  have hts := hY.2.2.2.2.1
  have hKn := hY.2.2.2.2.2.1.1.1 ci _ hc
  have hbs : b < s.heap.size := hY.2.2.2.2.2.2.1
  refine W.newcK hY.1 hY.2.1 hY.2.2.2.1 (hts _ hcl) (hts _ hinst) (hts _ hini) rfl hd hcells hslots hKn.2.1 rfl fun H1 kC hkC e1 z1 o1 => ?_
  have hk : ∀ (k : Nat) (x : Nat × va_E), (xv_W b cy M)[k]? = some x → H1[x.1]? = H[x.1]? := fun k x hx => o1 x.1 ((hP k x hx).lt)
  have h2 := k (M.1.length + 1) (xv_new M (ci, 0)) hh H1 locs ls ?_ (fun _ => by rw [z1, hs]; simp [xv_new]; omega) ⟨Nat.le_trans hS.1 (by omega), fun x h1 h2 => (o1 x (Nat.lt_of_lt_of_le h1 hS.1)).trans (hS.2.1 x h1 h2), hS.2.2⟩ hl
  · have e9 : xv_val b (xr (M.1.length + 1)) = .ref H.size := by
      show xv_r b (M.1.length + 1) = _
      have e8 : b + (M.1.length + 1) = b + 1 + M.1.length := by omega
      rw [xv_r_s (by omega), hs, e8]
    simp only [List.map_cons] at h2
    rw [e9] at h2
    exact h2
  · show va_P Dm vwCl (xv_W b cy (xv_new M (ci, 0))) H1
    rw [xv_W_new]
    refine (hP.kept hk).app (fun k x hx => ?_)
    have hzz : k < 1 := (List.getElem?_eq_some_iff.mp hx).1
    rw [show k = 0 by omega] at hx
    cases hx
    unfold xv_E
    rw [if_pos hci]
    refine ⟨_, hc, ?_⟩
    have h5 := u_born ty0 hts hin hKn hkC (by rw [hs] at e1; exact e1) hty
    refine t_OB.to h5 (fun j hj => ?_)
    rw [hdv j hj]
    unfold vp_V
    rw [List.getD_eq_getElem?_getD, xv_fs_get (by rw [← hN]; exact hj)]
    show _ = xv_sv b (xv_ty ci j) 0 0 0
    rfl
theorem xv_newaI {N : Nat} {n : Int} {f : Nat → xv_M → Option T} (hY : xv_ok Y cc Ts own) (hfl : Y.2.2.2.2.2.2 = true) (hd : decode cc pc = .ok (.newarray .int, 2)) (hp : pc + 2 = pc') (hn : n = (N : Int)) (hN : N ≤ 1000000) (harr : Cond.arrayClass .int ∈ Ts) (hcells : ce + 1 ≤ Y.1.2.2.2.1.cells) (hslots : sl + N ≤ Y.1.2.2.2.1.slots) (k : ∀ (r : Nat) (M' : xv_M), xv_D Y (ce + 1) (sl + N) Q tg pc' L (xr r :: st) M' (f r M')) : xv_D Y ce sl Q tg pc L (xi n :: st) M (xv_nw M (14, N) f) := by
  subst hp
  obtain ⟨⟨p, l, e, R, s⟩, ⟨m, args, below, meth, c⟩, Dm, cy, b, nL, fl⟩ := Y
  intro hh H locs ls hP hz hS hl
  have hs : H.size = b + 1 + M.1.length := hz hfl
  have hts := hY.2.2.2.2.1
  obtain ⟨hn0, hn1⟩ := xv_nat_n (n := n) (by omega) (by omega)
  have hn2 : (Int32.ofInt n).toNatClampNeg = N := by rw [hn1, hn]; rfl
  refine va_newaK (atype := .int) hY.1 hY.2.1 (hts _ harr) rfl hd rfl hn0 hn2 (by show N * _ ≤ _; simp only [newarray.typeOf, componentBytes]; omega) hcells hslots rfl fun H1 cA e1 z1 o1 hAr hNm => ?_
  have hcA : cA = cy 14 := by
    have h1 : s.vm.findClass ("[" ++ (FieldType.toString .int)) = some (cy 14) := (hY.2.2.2.2.2.1.1.2 1 _ rfl).2
    exact Option.some.inj (hNm.symm.trans h1)
  subst hcA
  have hk : ∀ (k : Nat) (x : Nat × va_E), (xv_W b cy M)[k]? = some x → H1[x.1]? = H[x.1]? := fun k x hx => o1 x.1 ((hP k x hx).lt)
  have h2 := k (M.1.length + 1) (xv_new M (14, N)) hh H1 locs ls ?_ (fun _ => by rw [z1, hs]; simp [xv_new]; omega) ⟨Nat.le_trans hS.1 (by omega), fun x h1 h2 => (o1 x (Nat.lt_of_lt_of_le h1 hS.1)).trans (hS.2.1 x h1 h2), hS.2.2⟩ hl
  · have e9 : xv_val b (xr (M.1.length + 1)) = .ref H.size := by
      show xv_r b (M.1.length + 1) = _
      have e8 : b + (M.1.length + 1) = b + 1 + M.1.length := by omega
      rw [xv_r_s (by omega), hs, e8]
    simp only [List.map_cons] at h2
    rw [e9] at h2
    exact h2
  · show va_P Dm vwCl (xv_W b cy (xv_new M (14, N))) H1
    rw [xv_W_new]
    refine (hP.kept hk).app (fun k x hx => ?_)
    have hzz : k < 1 := (List.getElem?_eq_some_iff.mp hx).1
    rw [show k = 0 by omega] at hx
    cases hx
    show H1[b + 1 + M.1.length]? = some (vp_cell _ _)
    rw [hs] at e1
    exact e1
theorem xv_newaC {N : Nat} {n : Int} {f : Nat → xv_M → Option T} (hY : xv_ok Y cc Ts own) (hfl : Y.2.2.2.2.2.2 = true) (hd : decode cc pc = .ok (.newarray .char, 2)) (hp : pc + 2 = pc') (hn : n = (N : Int)) (hN : N ≤ 1000000) (harr : Cond.arrayClass .char ∈ Ts) (hcells : ce + 1 ≤ Y.1.2.2.2.1.cells) (hslots : sl + N ≤ Y.1.2.2.2.1.slots) (k : ∀ (r : Nat) (M' : xv_M), xv_D Y (ce + 1) (sl + N) Q tg pc' L (xr r :: st) M' (f r M')) : xv_D Y ce sl Q tg pc L (xi n :: st) M (xv_nw M (13, N) f) := by
  subst hp
  obtain ⟨⟨p, l, e, R, s⟩, ⟨m, args, below, meth, c⟩, Dm, cy, b, nL, fl⟩ := Y
  intro hh H locs ls hP hz hS hl
  have hs : H.size = b + 1 + M.1.length := hz hfl
  have hts := hY.2.2.2.2.1
  obtain ⟨hn0, hn1⟩ := xv_nat_n (n := n) (by omega) (by omega)
  have hn2 : (Int32.ofInt n).toNatClampNeg = N := by rw [hn1, hn]; rfl
  refine va_newaK (atype := .char) hY.1 hY.2.1 (hts _ harr) rfl hd rfl hn0 hn2 (by show N * _ ≤ _; simp only [newarray.typeOf, componentBytes]; omega) hcells hslots rfl fun H1 cA e1 z1 o1 hAr hNm => ?_
  have hcA : cA = cy 13 := by
    have h1 : s.vm.findClass ("[" ++ (FieldType.toString .char)) = some (cy 13) := (hY.2.2.2.2.2.1.1.2 0 _ rfl).2
    exact Option.some.inj (hNm.symm.trans h1)
  subst hcA
  have hk : ∀ (k : Nat) (x : Nat × va_E), (xv_W b cy M)[k]? = some x → H1[x.1]? = H[x.1]? := fun k x hx => o1 x.1 ((hP k x hx).lt)
  have h2 := k (M.1.length + 1) (xv_new M (13, N)) hh H1 locs ls ?_ (fun _ => by rw [z1, hs]; simp [xv_new]; omega) ⟨Nat.le_trans hS.1 (by omega), fun x h1 h2 => (o1 x (Nat.lt_of_lt_of_le h1 hS.1)).trans (hS.2.1 x h1 h2), hS.2.2⟩ hl
  · have e9 : xv_val b (xr (M.1.length + 1)) = .ref H.size := by
      show xv_r b (M.1.length + 1) = _
      have e8 : b + (M.1.length + 1) = b + 1 + M.1.length := by omega
      rw [xv_r_s (by omega), hs, e8]
    simp only [List.map_cons] at h2
    rw [e9] at h2
    exact h2
  · show va_P Dm vwCl (xv_W b cy (xv_new M (13, N))) H1
    rw [xv_W_new]
    refine (hP.kept hk).app (fun k x hx => ?_)
    have hzz : k < 1 := (List.getElem?_eq_some_iff.mp hx).1
    rw [show k = 0 by omega] at hx
    cases hx
    show H1[b + 1 + M.1.length]? = some (vp_cell _ _)
    rw [hs] at e1
    exact e1
theorem xv_newaJ {N : Nat} {n : Int} {f : Nat → xv_M → Option T} (hY : xv_ok Y cc Ts own) (hfl : Y.2.2.2.2.2.2 = true) (hd : decode cc pc = .ok (.newarray .long, 2)) (hp : pc + 2 = pc') (hn : n = (N : Int)) (hN : N ≤ 1000000) (harr : Cond.arrayClass .long ∈ Ts) (hcells : ce + 1 ≤ Y.1.2.2.2.1.cells) (hslots : sl + N ≤ Y.1.2.2.2.1.slots) (k : ∀ (r : Nat) (M' : xv_M), xv_D Y (ce + 1) (sl + N) Q tg pc' L (xr r :: st) M' (f r M')) : xv_D Y ce sl Q tg pc L (xi n :: st) M (xv_nw M (15, N) f) := by
  subst hp
  obtain ⟨⟨p, l, e, R, s⟩, ⟨m, args, below, meth, c⟩, Dm, cy, b, nL, fl⟩ := Y
  intro hh H locs ls hP hz hS hl
  have hs : H.size = b + 1 + M.1.length := hz hfl
  have hts := hY.2.2.2.2.1
  obtain ⟨hn0, hn1⟩ := xv_nat_n (n := n) (by omega) (by omega)
  have hn2 : (Int32.ofInt n).toNatClampNeg = N := by rw [hn1, hn]; rfl
  refine va_newaK (atype := .long) hY.1 hY.2.1 (hts _ harr) rfl hd rfl hn0 hn2 (by show N * _ ≤ _; simp only [newarray.typeOf, componentBytes]; omega) hcells hslots rfl fun H1 cA e1 z1 o1 hAr hNm => ?_
  have hcA : cA = cy 15 := by
    have h1 : s.vm.findClass ("[" ++ (FieldType.toString .long)) = some (cy 15) := (hY.2.2.2.2.2.1.1.2 2 _ rfl).2
    exact Option.some.inj (hNm.symm.trans h1)
  subst hcA
  have hk : ∀ (k : Nat) (x : Nat × va_E), (xv_W b cy M)[k]? = some x → H1[x.1]? = H[x.1]? := fun k x hx => o1 x.1 ((hP k x hx).lt)
  have h2 := k (M.1.length + 1) (xv_new M (15, N)) hh H1 locs ls ?_ (fun _ => by rw [z1, hs]; simp [xv_new]; omega) ⟨Nat.le_trans hS.1 (by omega), fun x h1 h2 => (o1 x (Nat.lt_of_lt_of_le h1 hS.1)).trans (hS.2.1 x h1 h2), hS.2.2⟩ hl
  · have e9 : xv_val b (xr (M.1.length + 1)) = .ref H.size := by
      show xv_r b (M.1.length + 1) = _
      have e8 : b + (M.1.length + 1) = b + 1 + M.1.length := by omega
      rw [xv_r_s (by omega), hs, e8]
    simp only [List.map_cons] at h2
    rw [e9] at h2
    exact h2
  · show va_P Dm vwCl (xv_W b cy (xv_new M (15, N))) H1
    rw [xv_W_new]
    refine (hP.kept hk).app (fun k x hx => ?_)
    have hzz : k < 1 := (List.getElem?_eq_some_iff.mp hx).1
    rw [show k = 0 by omega] at hx
    cases hx
    show H1[b + 1 + M.1.length]? = some (vp_cell _ _)
    rw [hs] at e1
    exact e1
theorem xv_newaZ {N : Nat} {n : Int} {f : Nat → xv_M → Option T} (hY : xv_ok Y cc Ts own) (hfl : Y.2.2.2.2.2.2 = true) (hd : decode cc pc = .ok (.newarray .boolean, 2)) (hp : pc + 2 = pc') (hn : n = (N : Int)) (hN : N ≤ 1000000) (harr : Cond.arrayClass .boolean ∈ Ts) (hcells : ce + 1 ≤ Y.1.2.2.2.1.cells) (hslots : sl + N ≤ Y.1.2.2.2.1.slots) (k : ∀ (r : Nat) (M' : xv_M), xv_D Y (ce + 1) (sl + N) Q tg pc' L (xr r :: st) M' (f r M')) : xv_D Y ce sl Q tg pc L (xi n :: st) M (xv_nw M (16, N) f) := by
  subst hp
  obtain ⟨⟨p, l, e, R, s⟩, ⟨m, args, below, meth, c⟩, Dm, cy, b, nL, fl⟩ := Y
  intro hh H locs ls hP hz hS hl
  have hs : H.size = b + 1 + M.1.length := hz hfl
  have hts := hY.2.2.2.2.1
  obtain ⟨hn0, hn1⟩ := xv_nat_n (n := n) (by omega) (by omega)
  have hn2 : (Int32.ofInt n).toNatClampNeg = N := by rw [hn1, hn]; rfl
  refine va_newaK (atype := .boolean) hY.1 hY.2.1 (hts _ harr) rfl hd rfl hn0 hn2 (by show N * _ ≤ _; simp only [newarray.typeOf, componentBytes]; omega) hcells hslots rfl fun H1 cA e1 z1 o1 hAr hNm => ?_
  have hcA : cA = cy 16 := by
    have h1 : s.vm.findClass ("[" ++ (FieldType.toString .boolean)) = some (cy 16) := (hY.2.2.2.2.2.1.1.2 3 _ rfl).2
    exact Option.some.inj (hNm.symm.trans h1)
  subst hcA
  have hk : ∀ (k : Nat) (x : Nat × va_E), (xv_W b cy M)[k]? = some x → H1[x.1]? = H[x.1]? := fun k x hx => o1 x.1 ((hP k x hx).lt)
  have h2 := k (M.1.length + 1) (xv_new M (16, N)) hh H1 locs ls ?_ (fun _ => by rw [z1, hs]; simp [xv_new]; omega) ⟨Nat.le_trans hS.1 (by omega), fun x h1 h2 => (o1 x (Nat.lt_of_lt_of_le h1 hS.1)).trans (hS.2.1 x h1 h2), hS.2.2⟩ hl
  · have e9 : xv_val b (xr (M.1.length + 1)) = .ref H.size := by
      show xv_r b (M.1.length + 1) = _
      have e8 : b + (M.1.length + 1) = b + 1 + M.1.length := by omega
      rw [xv_r_s (by omega), hs, e8]
    simp only [List.map_cons] at h2
    rw [e9] at h2
    exact h2
  · show va_P Dm vwCl (xv_W b cy (xv_new M (16, N))) H1
    rw [xv_W_new]
    refine (hP.kept hk).app (fun k x hx => ?_)
    have hzz : k < 1 := (List.getElem?_eq_some_iff.mp hx).1
    rw [show k = 0 by omega] at hx
    cases hx
    show H1[b + 1 + M.1.length]? = some (vp_cell _ _)
    rw [hs] at e1
    exact e1
theorem xv_anewS {N index : Nat} {n : Int} {f : Nat → xv_M → Option T} (hY : xv_ok Y cc Ts own) (hfl : Y.2.2.2.2.2.2 = true) (hd : decode cc pc = .ok (.anewarray index, 3)) (hp : pc + 3 = pc') (hn : n = (N : Int)) (hN : N ≤ 1000000) (hcl : Cond.classLink own index "MiddleSpans$State" ∈ Ts) (hcells : ce + 1 ≤ Y.1.2.2.2.1.cells) (hslots : sl + N ≤ Y.1.2.2.2.1.slots) (k : ∀ (r : Nat) (M' : xv_M), xv_D Y (ce + 1) (sl + N) Q tg pc' L (xr r :: st) M' (f r M')) : xv_D Y ce sl Q tg pc L (xi n :: st) M (xv_nw M (17, N) f) := by
  subst hp
  obtain ⟨⟨p, l, e, R, s⟩, ⟨m, args, below, meth, c⟩, Dm, cy, b, nL, fl⟩ := Y
  intro hh H locs ls hP hz hS hl
  have hs : H.size = b + 1 + M.1.length := hz hfl
  have hts := hY.2.2.2.2.1
  obtain ⟨hn0, hn1⟩ := xv_nat_n (n := n) (by omega) (by omega)
  have hn2 : (Int32.ofInt n).toNatClampNeg = N := by rw [hn1, hn]; rfl
  refine W.anew hY.1 hY.2.1 hY.2.2.2.1 (hts _ hcl) (va_AO.use hY.2.2.2.2.2.1.2.2.1) rfl hd rfl hn0 (by rw [hn2]; omega) hcells (by rw [hn2]; exact hslots) fun cA kA comp f1 f2 f3 f4 => ?_
  rw [hn2]
  generalize hH1 : H.push ({ cls := cA, slots := Array.replicate N .null, vm := .none } : Cell) = H1
  have z1 : H1.size = H.size + 1 := by rw [← hH1, Array.size_push]
  have e1 : H1[H.size]? = some (arrV cA N (fun _ => .null)) := by rw [← hH1, Array.getElem?_push_size, ← arrV_new]
  have o1 : ∀ q : Nat, q < H.size → H1[q]? = H[q]? := fun q hq => by rw [← hH1, Array.getElem?_push, if_neg (Nat.ne_of_lt hq)]
  have hcA : cA = cy 17 := by
    obtain ⟨kA9, comp9, g1, g2, g3, g4⟩ := (hY.2.2.2.2.2.1.1.2 4 _ rfl).2
    exact Option.some.inj (f1.symm.trans g4)
  subst hcA
  have hk : ∀ (k : Nat) (x : Nat × va_E), (xv_W b cy M)[k]? = some x → H1[x.1]? = H[x.1]? := fun k x hx => o1 x.1 ((hP k x hx).lt)
  have h2 := k (M.1.length + 1) (xv_new M (17, N)) hh H1 locs ls ?_ (fun _ => by rw [z1, hs]; simp [xv_new]; omega) ⟨Nat.le_trans hS.1 (by omega), fun x h1 h2 => (o1 x (Nat.lt_of_lt_of_le h1 hS.1)).trans (hS.2.1 x h1 h2), hS.2.2⟩ hl
  · have e9 : xv_val b (xr (M.1.length + 1)) = .ref H.size := by
      show xv_r b (M.1.length + 1) = _
      have e8 : b + (M.1.length + 1) = b + 1 + M.1.length := by omega
      rw [xv_r_s (by omega), hs, e8]
    simp only [List.map_cons] at h2
    rw [e9] at h2
    exact h2
  · show va_P Dm vwCl (xv_W b cy (xv_new M (17, N))) H1
    rw [xv_W_new]
    refine (hP.kept hk).app (fun k x hx => ?_)
    have hzz : k < 1 := (List.getElem?_eq_some_iff.mp hx).1
    rw [show k = 0 by omega] at hx
    cases hx
    show H1[b + 1 + M.1.length]? = some (vp_cell _ _)
    rw [hs] at e1
    rw [vp_cell_q]
    exact e1
theorem xv_objInit {index r : Nat} (hY : xv_ok Y cc Ts own) (hd : decode cc pc = .ok (.invokespecial index, 3)) (hp : pc + 3 = pc') (h1 : Cond.methodLink own index Lib.objectInit ∈ Ts) (h2 : Cond.instanceMethod Lib.objectInit ∈ Ts) (h3 : Cond.code Lib.objectInit ⟨#[0xb1]⟩ 1 none ∈ Ts) (hfr : 1 ≤ Y.1.2.2.2.1.frames) (hlo : (st.map xv_c).sum + 12 ≤ Y.1.2.2.2.1.locals) (k : xv_D Y ce sl Q tg pc' L st M d) : xv_D Y ce sl Q tg pc L (xr r :: st) M (xv_g (r ≠ 0) d) := by
  subst hp
  obtain ⟨⟨p, l, e, R, s⟩, ⟨m, args, below, meth, c⟩, Dm, cy, b, nL, fl⟩ := Y
  intro hh H locs ls hP hz hS hl
  obtain ⟨h0, hh⟩ := xv_g_some hh
  have hts := hY.2.2.2.2.1
  refine W.objInit (rest := st.map (xv_val b)) (a := b + r) hY.1 hY.2.1 hY.2.2.2.1 (hts _ h1) (hts _ h2) (hts _ h3) rfl (by rw [hY.2.2.1]; exact hl.1) (by show xv_r b r :: _ = _; rw [xv_r_s h0]) hd hfr (by show 2 * 0 + _ + 12 ≤ _; rw [xv_cats]; omega) ?_
  exact k hh H locs ls hP hz hS hl
theorem xv_copyI {index r0 r1 : Nat} {sp dp n : Int} {f : xv_M → Option T} (hY : xv_ok Y cc Ts own) (hfl : Y.2.2.2.2.2.2 = false) (hd : decode cc pc = .ok (.invokestatic index, 3)) (hp : pc + 3 = pc') (w1 : Cond.methodLink own index arraycopyName ∈ Ts) (w2 : Cond.native arraycopyName ∈ Ts) (w3 : Cond.static arraycopyName ∈ Ts) (w4 : Cond.initialized "java/lang/System" ∈ Ts) (hfr : 1 ≤ Y.1.2.2.2.1.frames) (hlo : (st.map xv_c).sum + (nativeFrameWords "java/lang/System" "arraycopy" 5 + 11) ≤ Y.1.2.2.2.1.locals) (k : ∀ M' : xv_M, xv_D Y ce sl Q tg pc' L st M' (f M')) : xv_D Y ce sl Q tg pc L (xi n :: xi dp :: xr r1 :: xi sp :: xr r0 :: st) M (xv_cpI M r0 sp r1 dp n f) := by
  subst hp
  obtain ⟨⟨p, l, e, R, s⟩, ⟨m, args, below, meth, c⟩, Dm, cy, b, nL, fl⟩ := Y
  intro hh H locs ls hP hz hS hl
  unfold xv_cpI at hh
  by_cases h : (xv_kd M r0).1 = 14 ∧ (xv_kd M r1).1 = 14 ∧ 0 ≤ sp ∧ 0 ≤ dp ∧ 0 ≤ n ∧ sp + n ≤ ((xv_kd M r0).2 : Int) ∧ dp + n ≤ ((xv_kd M r1).2 : Int) ∧ sp ≤ 1000000 ∧ dp ≤ 1000000 ∧ n ≤ 1000000
  · rw [if_pos h] at hh
    have hts := hY.2.2.2.2.1
    obtain ⟨z0, he0⟩ := xv_arI (b := b) (cy := cy) h.1 (by decide)
    obtain ⟨z1, he1⟩ := xv_arI (b := b) (cy := cy) h.2.1 (by decide)
    obtain ⟨s1, s2⟩ := xv_nat_n h.2.2.1 h.2.2.2.2.2.2.2.1
    obtain ⟨d1, d2⟩ := xv_nat_n h.2.2.2.1 h.2.2.2.2.2.2.2.2.1
    obtain ⟨n1, n2⟩ := xv_nat_n h.2.2.2.2.1 h.2.2.2.2.2.2.2.2.2
    simp only [List.map_cons, xv_val]
    rw [xv_r_s z0, xv_r_s z1]
    refine va_copyi (ty := .int) hY.1 hY.2.1 (by rw [hY.2.2.1]; exact hl.1.symm) hY.2.2.2.1 (hts _ w1) (hts _ w2) (hts _ w3) (hts _ w4) hY.2.2.2.2.2.1.1 hP xv_W_D hS (r0 - 1) (r1 - 1) 1 1 he0 he1 rfl rfl rfl s1 d1 n1 (by rw [s2, n2]; omega) (by rw [d2, n2]; omega) (fun _ _ => rfl) hfr (by rw [xv_cats]; exact hlo) hd (fun H1 locs1 hP1 hD1 hS1 => ?_)
    refine k _ hh H1 locs1 ls ?_ (fun q => by rw [show fl = false from hfl] at q; cases q) hS1 hl
    rw [s2, d2, n2] at hP1
    have hset : (xv_W b cy M).set (r1 - 1) (b + r1, .inl (cy 14, (xv_kd M r1).2, .inl (va_cpy (fun j => Int32.ofInt (M.2.1 r0 j)) (fun j => Int32.ofInt (M.2.1 r1 j)) sp.toNat dp.toNat n.toNat))) = xv_W b cy (xv_rI M r1 (va_cpy (xv_I M r0) (xv_I M r1) sp.toNat dp.toNat n.toNat)) := by
      refine xv_W_set (by omega) rfl ?_ (fun j hj => by simp [xv_rI, xv_rw_row _ _ hj])
      unfold xv_E
      rw [if_neg (by omega), if_neg (by omega), if_neg (by omega), h.2.1, xv_cpy_i]
      congr 4
      funext j
      simp [xv_rI, xv_rw_self]
      rfl
    show va_P Dm vwCl (xv_W b cy (xv_rI M r1 _)) H1
    rw [← hset]
    exact hP1
  · rw [if_neg h] at hh
    cases hh
theorem xv_copyJ {index r0 r1 : Nat} {sp dp n : Int} {f : xv_M → Option T} (hY : xv_ok Y cc Ts own) (hfl : Y.2.2.2.2.2.2 = false) (hd : decode cc pc = .ok (.invokestatic index, 3)) (hp : pc + 3 = pc') (w1 : Cond.methodLink own index arraycopyName ∈ Ts) (w2 : Cond.native arraycopyName ∈ Ts) (w3 : Cond.static arraycopyName ∈ Ts) (w4 : Cond.initialized "java/lang/System" ∈ Ts) (hfr : 1 ≤ Y.1.2.2.2.1.frames) (hlo : (st.map xv_c).sum + (nativeFrameWords "java/lang/System" "arraycopy" 5 + 11) ≤ Y.1.2.2.2.1.locals) (k : ∀ M' : xv_M, xv_D Y ce sl Q tg pc' L st M' (f M')) : xv_D Y ce sl Q tg pc L (xi n :: xi dp :: xr r1 :: xi sp :: xr r0 :: st) M (xv_cpJ M r0 sp r1 dp n f) := by
  subst hp
  obtain ⟨⟨p, l, e, R, s⟩, ⟨m, args, below, meth, c⟩, Dm, cy, b, nL, fl⟩ := Y
  intro hh H locs ls hP hz hS hl
  unfold xv_cpJ at hh
  by_cases h : (xv_kd M r0).1 = 15 ∧ (xv_kd M r1).1 = 15 ∧ 0 ≤ sp ∧ 0 ≤ dp ∧ 0 ≤ n ∧ sp + n ≤ ((xv_kd M r0).2 : Int) ∧ dp + n ≤ ((xv_kd M r1).2 : Int) ∧ sp ≤ 1000000 ∧ dp ≤ 1000000 ∧ n ≤ 1000000
  · rw [if_pos h] at hh
    have hts := hY.2.2.2.2.1
    obtain ⟨z0, he0⟩ := xv_arJ (b := b) (cy := cy) h.1
    obtain ⟨z1, he1⟩ := xv_arJ (b := b) (cy := cy) h.2.1
    obtain ⟨s1, s2⟩ := xv_nat_n h.2.2.1 h.2.2.2.2.2.2.2.1
    obtain ⟨d1, d2⟩ := xv_nat_n h.2.2.2.1 h.2.2.2.2.2.2.2.2.1
    obtain ⟨n1, n2⟩ := xv_nat_n h.2.2.2.2.1 h.2.2.2.2.2.2.2.2.2
    simp only [List.map_cons, xv_val]
    rw [xv_r_s z0, xv_r_s z1]
    refine va_copyl (ty := .long) hY.1 hY.2.1 (by rw [hY.2.2.1]; exact hl.1.symm) hY.2.2.2.1 (hts _ w1) (hts _ w2) (hts _ w3) (hts _ w4) hY.2.2.2.2.2.1.1 hP xv_W_D hS (r0 - 1) (r1 - 1) 2 2 he0 he1 rfl rfl rfl s1 d1 n1 (by rw [s2, n2]; omega) (by rw [d2, n2]; omega) (fun _ _ => rfl) hfr (by rw [xv_cats]; exact hlo) hd (fun H1 locs1 hP1 hD1 hS1 => ?_)
    refine k _ hh H1 locs1 ls ?_ (fun q => by rw [show fl = false from hfl] at q; cases q) hS1 hl
    rw [s2, d2, n2] at hP1
    have hset : (xv_W b cy M).set (r1 - 1) (b + r1, .inl (cy 15, (xv_kd M r1).2, .inr (.inl (va_cpy (M.2.2.1 r0) (M.2.2.1 r1) sp.toNat dp.toNat n.toNat)))) = xv_W b cy (xv_rJ M r1 (va_cpy (xv_J M r0) (xv_J M r1) sp.toNat dp.toNat n.toNat)) := by
      refine xv_W_set (by omega) rfl ?_ (fun j hj => by simp [xv_rJ, xv_rw_row _ _ hj])
      unfold xv_E
      rw [if_neg (by omega), if_pos h.2.1]
      congr 5
      simp only [xv_rJ, xv_rw_self]
      rfl
    show va_P Dm vwCl (xv_W b cy (xv_rJ M r1 _)) H1
    rw [← hset]
    exact hP1
  · rw [if_neg h] at hh
    cases hh
theorem xv_mmax {index : Nat} {x y : Int} {f : Int → Option T} (hY : xv_ok Y cc Ts own) (hd : decode cc pc = .ok (.invokestatic index, 3)) (hp : pc + 3 = pc') (w1 : Cond.methodLink own index Lib.Math.max.name ∈ Ts) (w2 : Cond.static Lib.Math.max.name ∈ Ts) (w3 : Cond.initialized "java/lang/Math" ∈ Ts) (w4 : Cond.code Lib.Math.max.name Lib.Math.max.code 2 (some .int) ∈ Ts) (hfr : 1 ≤ Y.1.2.2.2.1.frames) (hlo : (st.map xv_c).sum + 13 ≤ Y.1.2.2.2.1.locals) (hce : ce ≤ Y.1.2.2.2.1.cells) (hsl : sl ≤ Y.1.2.2.2.1.slots) (k : ∀ z : Int, xv_D Y ce sl Q tg pc' L (xi z :: st) M (f z)) : xv_D Y ce sl Q tg pc L (xi y :: xi x :: st) M (xv_max x y f) := by
  subst hp
  obtain ⟨⟨p, l, e, R, s⟩, ⟨m, args, below, meth, c⟩, Dm, cy, b, nL, fl⟩ := Y
  intro hh H locs ls hP hz hS hl
  unfold xv_max at hh
  by_cases h : xv_inb x = true ∧ xv_inb y = true
  · rw [if_pos h] at hh
    have hts := hY.2.2.2.2.1
    have h2 := k _ hh H locs ls hP hz hS hl
    simp only [List.map_cons, xv_val] at h2 ⊢
    refine va_mmax hY.1 hY.2.1 (by rw [hY.2.2.1]; exact hl.1.symm) hY.2.2.2.1 (hts _ w1) (hts _ w2) (hts _ w3) (hts _ w4) hfr (by rw [xv_cats]; exact hlo) hce hsl hd ?_
    have hlt := xv_lt (xv_inb_in h.1) (xv_inb_in h.2)
    by_cases hc : x < y
    · rw [if_pos hc] at h2
      rw [if_pos (hlt.mpr hc)]
      exact h2
    · rw [if_neg hc] at h2
      rw [if_neg (fun q => hc (hlt.mp q))]
      exact h2
  · rw [if_neg h] at hh
    cases hh
theorem xv_mmin {index : Nat} {x y : Int} {f : Int → Option T} (hY : xv_ok Y cc Ts own) (hd : decode cc pc = .ok (.invokestatic index, 3)) (hp : pc + 3 = pc') (w1 : Cond.methodLink own index Lib.Math.min.name ∈ Ts) (w2 : Cond.static Lib.Math.min.name ∈ Ts) (w3 : Cond.initialized "java/lang/Math" ∈ Ts) (w4 : Cond.code Lib.Math.min.name Lib.Math.min.code 2 (some .int) ∈ Ts) (hfr : 1 ≤ Y.1.2.2.2.1.frames) (hlo : (st.map xv_c).sum + 13 ≤ Y.1.2.2.2.1.locals) (hce : ce ≤ Y.1.2.2.2.1.cells) (hsl : sl ≤ Y.1.2.2.2.1.slots) (k : ∀ z : Int, xv_D Y ce sl Q tg pc' L (xi z :: st) M (f z)) : xv_D Y ce sl Q tg pc L (xi y :: xi x :: st) M (xv_min x y f) := by
  subst hp
  obtain ⟨⟨p, l, e, R, s⟩, ⟨m, args, below, meth, c⟩, Dm, cy, b, nL, fl⟩ := Y
  intro hh H locs ls hP hz hS hl
  unfold xv_min at hh
  by_cases h : xv_inb x = true ∧ xv_inb y = true
  · rw [if_pos h] at hh
    have hts := hY.2.2.2.2.1
    have h2 := k _ hh H locs ls hP hz hS hl
    simp only [List.map_cons, xv_val] at h2 ⊢
    refine va_mmin hY.1 hY.2.1 (by rw [hY.2.2.1]; exact hl.1.symm) hY.2.2.2.1 (hts _ w1) (hts _ w2) (hts _ w3) (hts _ w4) hfr (by rw [xv_cats]; exact hlo) hce hsl hd ?_
    have hlt := xv_lt (xv_inb_in h.2) (xv_inb_in h.1)
    by_cases hc : y < x
    · rw [if_pos hc] at h2
      rw [if_pos (hlt.mpr hc)]
      exact h2
    · rw [if_neg hc] at h2
      rw [if_neg (fun q => hc (hlt.mp q))]
      exact h2
  · rw [if_neg h] at hh
    cases hh
theorem xv_mabs {index : Nat} {x : Int} {f : Int → Option T} (hY : xv_ok Y cc Ts own) (hd : decode cc pc = .ok (.invokestatic index, 3)) (hp : pc + 3 = pc') (w1 : Cond.methodLink own index Lib.Math.abs.name ∈ Ts) (w2 : Cond.static Lib.Math.abs.name ∈ Ts) (w3 : Cond.initialized "java/lang/Math" ∈ Ts) (w4 : Cond.code Lib.Math.abs.name Lib.Math.abs.code 1 (some .int) ∈ Ts) (hfr : 1 ≤ Y.1.2.2.2.1.frames) (hlo : (st.map xv_c).sum + 13 ≤ Y.1.2.2.2.1.locals) (hce : ce ≤ Y.1.2.2.2.1.cells) (hsl : sl ≤ Y.1.2.2.2.1.slots) (k : ∀ z : Int, xv_D Y ce sl Q tg pc' L (xi z :: st) M (f z)) : xv_D Y ce sl Q tg pc L (xi x :: st) M (xv_abs x f) := by
  subst hp
  obtain ⟨⟨p, l, e, R, s⟩, ⟨m, args, below, meth, c⟩, Dm, cy, b, nL, fl⟩ := Y
  intro hh H locs ls hP hz hS hl
  unfold xv_abs at hh
  by_cases h : xv_inb x = true
  · rw [if_pos h] at hh
    have hts := hY.2.2.2.2.1
    have h2 := k _ hh H locs ls hP hz hS hl
    simp only [List.map_cons, xv_val] at h2 ⊢
    refine va_mabs hY.1 hY.2.1 (by rw [hY.2.2.1]; exact hl.1.symm) hY.2.2.2.1 (hts _ w1) (hts _ w2) (hts _ w3) (hts _ w4) hfr (by rw [xv_cats]; exact hlo) hce hsl hd ?_
    have hle : (0 : Int32) ≤ Int32.ofInt x ↔ 0 ≤ x := xv_le xv_in0 (xv_inb_in h)
    by_cases hc : 0 ≤ x
    · rw [if_pos hc] at h2
      rw [if_pos (hle.mpr hc)]
      exact h2
    · rw [if_neg hc] at h2
      rw [if_neg (fun q => hc (hle.mp q)), xv_0, xv_sub]
      exact h2
  · rw [if_neg h] at hh
    cases hh
end XN
theorem xv_dv0 : ∀ j, j < 1 → defaultValue (tyX0 j) = xv_sv 0 (xv_ty 0 j) 0 0 0
  | 0, _ => rfl
  | j + 1, h => absurd h (by omega)
theorem xv_dv1 : ∀ j, j < 2 → defaultValue (tyX1 j) = xv_sv 0 (xv_ty 1 j) 0 0 0
  | 0, _ => rfl
  | 1, _ => rfl
  | j + 2, h => absurd h (by omega)
theorem xv_dv2 : ∀ j, j < 3 → defaultValue (tyX2 j) = xv_sv 0 (xv_ty 2 j) 0 0 0
  | 0, _ => rfl
  | 1, _ => rfl
  | 2, _ => rfl
  | j + 3, h => absurd h (by omega)
theorem xv_dv3 : ∀ j, j < 6 → defaultValue (tyX3 j) = xv_sv 0 (xv_ty 3 j) 0 0 0
  | 0, _ => rfl
  | 1, _ => rfl
  | 2, _ => rfl
  | 3, _ => rfl
  | 4, _ => rfl
  | 5, _ => rfl
  | j + 6, h => absurd h (by omega)
theorem xv_dv4 : ∀ j, j < 6 → defaultValue (tyX4 j) = xv_sv 0 (xv_ty 4 j) 0 0 0
  | 0, _ => rfl
  | 1, _ => rfl
  | 2, _ => rfl
  | 3, _ => rfl
  | 4, _ => rfl
  | 5, _ => rfl
  | j + 6, h => absurd h (by omega)
theorem xv_dv5 : ∀ j, j < 8 → defaultValue (tyX5 j) = xv_sv 0 (xv_ty 5 j) 0 0 0
  | 0, _ => rfl
  | 1, _ => rfl
  | 2, _ => rfl
  | 3, _ => rfl
  | 4, _ => rfl
  | 5, _ => rfl
  | 6, _ => rfl
  | 7, _ => rfl
  | j + 8, h => absurd h (by omega)
theorem xv_dv6 : ∀ j, j < 4 → defaultValue (tyX6 j) = xv_sv 0 (xv_ty 6 j) 0 0 0
  | 0, _ => rfl
  | 1, _ => rfl
  | 2, _ => rfl
  | 3, _ => rfl
  | j + 4, h => absurd h (by omega)
theorem xv_dv7 : ∀ j, j < 2 → defaultValue (tyX7 j) = xv_sv 0 (xv_ty 7 j) 0 0 0
  | 0, _ => rfl
  | 1, _ => rfl
  | j + 2, h => absurd h (by omega)
theorem xv_dv8 : ∀ j, j < 5 → defaultValue (tyX8 j) = xv_sv 0 (xv_ty 8 j) 0 0 0
  | 0, _ => rfl
  | 1, _ => rfl
  | 2, _ => rfl
  | 3, _ => rfl
  | 4, _ => rfl
  | j + 5, h => absurd h (by omega)
theorem xv_dv9 : ∀ j, j < 9 → defaultValue (tyX9 j) = xv_sv 0 (xv_ty 9 j) 0 0 0
  | 0, _ => rfl
  | 1, _ => rfl
  | 2, _ => rfl
  | 3, _ => rfl
  | 4, _ => rfl
  | 5, _ => rfl
  | 6, _ => rfl
  | 7, _ => rfl
  | 8, _ => rfl
  | j + 9, h => absurd h (by omega)
theorem xv_dv10 : ∀ j, j < 4 → defaultValue (tyX10 j) = xv_sv 0 (xv_ty 10 j) 0 0 0
  | 0, _ => rfl
  | 1, _ => rfl
  | 2, _ => rfl
  | 3, _ => rfl
  | j + 4, h => absurd h (by omega)
theorem xv_dv11 : ∀ j, j < 6 → defaultValue (tyX11 j) = xv_sv 0 (xv_ty 11 j) 0 0 0
  | 0, _ => rfl
  | 1, _ => rfl
  | 2, _ => rfl
  | 3, _ => rfl
  | 4, _ => rfl
  | 5, _ => rfl
  | j + 6, h => absurd h (by omega)
theorem xv_dv12 : ∀ j, j < 18 → defaultValue (tyX12 j) = xv_sv 0 (xv_ty 12 j) 0 0 0
  | 0, _ => rfl
  | 1, _ => rfl
  | 2, _ => rfl
  | 3, _ => rfl
  | 4, _ => rfl
  | 5, _ => rfl
  | 6, _ => rfl
  | 7, _ => rfl
  | 8, _ => rfl
  | 9, _ => rfl
  | 10, _ => rfl
  | 11, _ => rfl
  | 12, _ => rfl
  | 13, _ => rfl
  | 14, _ => rfl
  | 15, _ => rfl
  | 16, _ => rfl
  | 17, _ => rfl
  | j + 18, h => absurd h (by omega)
