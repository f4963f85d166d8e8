/-! ## contracts, calls, ends -/
def xv_Pw (Dm : va_G) (cy : Nat → ClassId) (b : Nat) (fl : Bool) (M : xv_M) (t : State) : Prop := va_P Dm vwCl (xv_W b cy M) t.heap ∧ (fl = true → t.heap.size = b + 1 + M.1.length)
def xv_qI (fl : Bool) (tg : Int × xv_M) (Dm : va_G) (cy : Nat → ClassId) (b : Nat) : Array Value → State → Outcome → State → Prop := va_Qi (fun z (_ : Unit) => z = Int32.ofInt tg.1) (fun _ t => xv_Pw Dm cy b fl tg.2 t) (fun q => b < q)
def xv_qJ (fl : Bool) (tg : Int64 × xv_M) (Dm : va_G) (cy : Nat → ClassId) (b : Nat) : Array Value → State → Outcome → State → Prop := va_Ql (fun z (_ : Unit) => z = tg.1) (fun _ t => xv_Pw Dm cy b fl tg.2 t) (fun q => b < q)
def xv_qP (fl : Bool) (tg : Nat × xv_M) (Dm : va_G) (cy : Nat → ClassId) (b : Nat) : Array Value → State → Outcome → State → Prop := va_Qq (fun z (_ : Unit) => z = xv_R b tg.1) (fun _ t => xv_Pw Dm cy b fl tg.2 t) (fun q => b < q)
def xv_qV (fl : Bool) (tg : Unit × xv_M) (Dm : va_G) (cy : Nat → ClassId) (b : Nat) : Array Value → State → Outcome → State → Prop := va_Qv (fun (_ : Unit) => True) (fun _ t => xv_Pw Dm cy b fl tg.2 t) (fun q => b < q)
def xv_pre (fl : Bool) (av : List xv_v) (M : xv_M) (Dm : va_G) (cy : Nat → ClassId) (b : Nat) : Array Value → State → Prop := va_Pc (av.map (xv_val b)) (fun U => xv_G Dm cy U ∧ xv_Pw Dm cy b fl M U ∧ b < U.heap.size)
/-- a method's contract: from the memory M it comes to the answer's memory -/
def xv_Met (l : Launch) (y : MethodName) (ws : List Cond) (rm : Room) (mc ms : Nat) (fl : Bool) (av : List xv_v) (M : xv_M) (Qc : va_G → (Nat → ClassId) → Nat → Array Value → State → Outcome → State → Prop) : Prop :=
  ∀ (Dm : va_G) (cy : Nat → ClassId) (b : Nat), Met l y ws rm (xv_pre fl av M Dm cy b) (Qc Dm cy b) mc ms (fun q => b < q)
abbrev xv_Qe (Y : xv_Y) (mc ms : Nat) (Qc : va_G → (Nat → ClassId) → Nat → Array Value → State → Outcome → State → Prop) : State → Prop := MQ Y.2.1.2.2.1 (Qc Y.2.2.1 Y.2.2.2.1 Y.2.2.2.2.1) Y.2.1.2.1 Y.1.2.2.2.2 mc ms (fun q => Y.2.2.2.2.1 < q)
theorem xv_enter {T : Type} {l : Launch} {y : MethodName} {ws ws' : List Cond} {rm : Room} {mc ms nL : Nat} {cc : ByteArray} {ret : Option FieldType} {fl : Bool} {av : List xv_v} {M : xv_M} {Qc : va_G → (Nat → ClassId) → Nat → Array Value → State → Outcome → State → Prop} {tg : T} {d : Option T} (hw : ws = Cond.code y cc nL ret :: ws') (hpl : plainName y.cls = true) (hlen : (av.map xv_c).sum ≤ nL) (hdef : d = some tg)
    (body : ∀ Y : xv_Y, xv_ok Y cc ws y.cls → Y.1.2.1 = l → Y.1.2.2.2.1 = rm → Y.2.2.2.2.2.1 = nL → Y.2.2.2.2.2.2 = fl → Y.2.1.2.2.2.1.sig.returnType = ret → Y.2.1.2.2.2.1.name = y.name → xv_D Y 0 0 (xv_Qe Y mc ms Qc) tg 0 (xv_L0 av nL) [] M d) : xv_Met l y ws rm mc ms fl av M Qc := by
  intro Dm cy b
  refine Met.ofW (cc := cc) (maxL := nL) (ret := ret) hpl hw ?_
  intro p e s m args below meth c s₁ B hml hv
  obtain ⟨rfl, hG, hPw, hb⟩ := hv
  have hts := atoms_spec (ws := ws) B.pre
  have hown : s.vm.findClass y.cls = some m.cls := findClass_of_methodNamed B.named
  have hlen2 : (lg_sl (av.map (xv_val b))).length ≤ nL := by rw [xv_sl_len]; exact hlen
  rw [lg_entry_eq]
  exact body ⟨⟨p, l, e, rm, s⟩, ⟨m, (av.map (xv_val b)).toArray, below, meth, c⟩, Dm, cy, b, nL, fl⟩ ⟨B.exec, B.bytes, hml, hown, hts, hG, hb, B.notSynchronized⟩ rfl rfl rfl rfl B.returns (name_of_methodNamed B.named B.method).1 hdef s.heap [] _ hPw.1 hPw.2 va_S.rf (xv_entry b av hlen2)
section XC
variable {T : Type} {Y : xv_Y} {cc : ByteArray} {Ts : List Cond} {own : String} {ce sl : Nat} {Q : State → Prop} {tg : T} {pc pc' : Nat} {L L' : List (Option xv_v)} {st S : List xv_v} {M : xv_M} {d d1 d2 : Option T}

theorem xv_ireti {z : Int} {tg : Int × xv_M} {mc ms : Nat} {fl0 : Bool} (hY : xv_ok Y cc Ts own) (hfl : Y.2.2.2.2.2.2 = fl0) (hd : decode cc pc = .ok (.ireturn, 1)) (hr : Y.2.1.2.2.2.1.sig.returnType = some .int) (hcm : ce ≤ mc) (hsm : sl ≤ ms) : xv_D Y ce sl (xv_Qe Y mc ms (xv_qI fl0 tg)) tg pc L [xi z] M (some (z, M)) := by
  obtain ⟨⟨p, l, e, R, s⟩, ⟨m, args, below, meth, c⟩, Dm, cy, b, nL, fl⟩ := Y
  intro hh H locs ls hP hz hS hl
  cases hh
  have hz2 : fl0 = true → H.size = b + 1 + M.1.length := fun q => hz (hfl.trans q)
  have hlk := hY.2.2.2.2.2.2.2
  refine W.widen hcm hsm ?_
  exact W.iret hY.1 hY.2.1 hr (fun t ht hW => ⟨⟨Int32.ofInt z, (), rfl, rfl, by rw [ht]; exact hP, by rw [ht]; exact hz2⟩, hS.F ht⟩) hS.2.2 hd hlk
theorem xv_lretj {z : Int64} {tg : Int64 × xv_M} {mc ms : Nat} {fl0 : Bool} (hY : xv_ok Y cc Ts own) (hfl : Y.2.2.2.2.2.2 = fl0) (hd : decode cc pc = .ok (.lreturn, 1)) (hr : Y.2.1.2.2.2.1.sig.returnType = some .long) (hcm : ce ≤ mc) (hsm : sl ≤ ms) : xv_D Y ce sl (xv_Qe Y mc ms (xv_qJ fl0 tg)) tg pc L [xl z] M (some (z, M)) := by
  obtain ⟨⟨p, l, e, R, s⟩, ⟨m, args, below, meth, c⟩, Dm, cy, b, nL, fl⟩ := Y
  intro hh H locs ls hP hz hS hl
  cases hh
  have hz2 : fl0 = true → H.size = b + 1 + M.1.length := fun q => hz (hfl.trans q)
  have hlk := hY.2.2.2.2.2.2.2
  refine W.widen hcm hsm ?_
  exact W.lret hY.1 hY.2.1 hr (fun t ht hW => ⟨⟨z, (), rfl, rfl, by rw [ht]; exact hP, by rw [ht]; exact hz2⟩, hS.F ht⟩) hS.2.2 hd hlk
theorem xv_iretz {z : Int} {tg : Int × xv_M} {mc ms : Nat} {fl0 : Bool} (hY : xv_ok Y cc Ts own) (hfl : Y.2.2.2.2.2.2 = fl0) (hd : decode cc pc = .ok (.ireturn, 1)) (hr : Y.2.1.2.2.2.1.sig.returnType = some .boolean) (hcm : ce ≤ mc) (hsm : sl ≤ ms) : xv_D Y ce sl (xv_Qe Y mc ms (xv_qI fl0 tg)) tg pc L [xi z] M (xv_g (z = 0 ∨ z = 1) (some (z, M))) := by
  obtain ⟨⟨p, l, e, R, s⟩, ⟨m, args, below, meth, c⟩, Dm, cy, b, nL, fl⟩ := Y
  intro hh H locs ls hP hz hS hl
  obtain ⟨h01, hh⟩ := xv_g_some hh
  cases hh
  have hz2 : fl0 = true → H.size = b + 1 + M.1.length := fun q => hz (hfl.trans q)
  have hlk := hY.2.2.2.2.2.2.2
  refine W.widen hcm hsm ?_
  exact W.zret hY.1 hY.2.1 hr (by rcases h01 with rfl | rfl <;> rfl) (fun t ht hW => ⟨⟨Int32.ofInt z, (), rfl, rfl, by rw [ht]; exact hP, by rw [ht]; exact hz2⟩, hS.F ht⟩) hS.2.2 hd hlk
theorem xv_aretp {z : Nat} {tg : Nat × xv_M} {mc ms : Nat} {fl0 : Bool} {rt : FieldType} (hY : xv_ok Y cc Ts own) (hfl : Y.2.2.2.2.2.2 = fl0) (hd : decode cc pc = .ok (.areturn, 1)) (hr : Y.2.1.2.2.2.1.sig.returnType = some rt) (hrt : (∃ n, rt = .object n) ∨ ∃ t, rt = .array t) (hcm : ce ≤ mc) (hsm : sl ≤ ms) : xv_D Y ce sl (xv_Qe Y mc ms (xv_qP fl0 tg)) tg pc L [xr z] M (some (z, M)) := by
  obtain ⟨⟨p, l, e, R, s⟩, ⟨m, args, below, meth, c⟩, Dm, cy, b, nL, fl⟩ := Y
  intro hh H locs ls hP hz hS hl
  cases hh
  have hz2 : fl0 = true → H.size = b + 1 + M.1.length := fun q => hz (hfl.trans q)
  have hlk := hY.2.2.2.2.2.2.2
  refine W.widen hcm hsm ?_
  exact W.aret hY.1 hY.2.1 hr hrt (va_rf_or _) (fun t ht hW => ⟨⟨xv_R b z, (), rfl, rfl, by rw [ht]; exact hP, by rw [ht]; exact hz2⟩, hS.F ht⟩) hS.2.2 hd hlk
theorem xv_vretu {tg : Unit × xv_M} {mc ms : Nat} {fl0 : Bool} (hY : xv_ok Y cc Ts own) (hfl : Y.2.2.2.2.2.2 = fl0) (hd : decode cc pc = .ok (.return_, 1)) (hr : Y.2.1.2.2.2.1.sig.returnType = none) (hcm : ce ≤ mc) (hsm : sl ≤ ms) : xv_D Y ce sl (xv_Qe Y mc ms (xv_qV fl0 tg)) tg pc L [] M (some ((), M)) := by
  obtain ⟨⟨p, l, e, R, s⟩, ⟨m, args, below, meth, c⟩, Dm, cy, b, nL, fl⟩ := Y
  intro hh H locs ls hP hz hS hl
  cases hh
  have hz2 : fl0 = true → H.size = b + 1 + M.1.length := fun q => hz (hfl.trans q)
  have hlk := hY.2.2.2.2.2.2.2
  refine W.widen hcm hsm ?_
  exact W.vret hY.1 hY.2.1 hr (fun t ht hW => ⟨⟨(), rfl, trivial, by rw [ht]; exact hP, by rw [ht]; exact hz2⟩, hS.F ht⟩) hS.2.2 hd hlk
theorem xv_call_some {α T : Type} {x : Option (α × xv_M)} {k : α → xv_M → Option T} {t : T} (h : xv_call x k = some t) : ∃ q, x = some q ∧ k q.1 q.2 = some t := by
  unfold xv_call at h
  cases x with
  | none => cases h
  | some q => exact ⟨q, rfl, h⟩
/-- the receiver is an object of the class -/
def xv_rc {α : Type} (M : xv_M) (ci r : Nat) (x : Option α) : Option α := if (xv_kd M r).1 = ci then x else none
theorem xv_rc_some {α : Type} {M : xv_M} {ci r : Nat} {x : Option α} {q : α} (h : xv_rc M ci r x = some q) : (xv_kd M r).1 = ci ∧ x = some q := by
  unfold xv_rc at h
  by_cases hc : (xv_kd M r).1 = ci
  · rw [if_pos hc] at h; exact ⟨hc, h⟩
  · rw [if_neg hc] at h; cases h
theorem xv_blind {fl : Bool} {av : List xv_v} {M : xv_M} {Dm : va_G} {cy : Nat → ClassId} {b : Nat} : FrameBlind (xv_pre fl av M Dm cy b) := by
  intro a U g mk h
  obtain ⟨h1, hG, h2, h3⟩ := h
  exact ⟨h1, ⟨va_K.moved (u := U) (U := U.calling g mk a) (Vm.Alike.refl U.vm) hG.1, fun q hq => va_Nw.same rfl rfl (hG.2.1 q hq), va_AO.moved (u := U) (U := U.calling g mk a) (Vm.Alike.refl U.vm) hG.2.2.1, over_moved (Vm.Alike.refl U.vm) hG.2.2.2⟩, h2, h3⟩
theorem xv_callVI {y : MethodName} {bytes : ByteArray} {maxL mc ms n index : Nat} {ret : Option FieldType} {ws : List Cond} {rm : Room} {av : List xv_v} {f : Int → xv_M → Option T} {C : String} {ci r N : Nat} {TT : u_T} {dy : Option (Int × xv_M)} (hY : xv_ok Y cc Ts own) (hd : decode cc pc = .ok (.invokevirtual index, 3)) (hp : pc + 3 = pc') (hst : S = av.reverse ++ xr r :: st) (hc : vwCl[ci]? = some (C, TT, N)) (hci : ci < 13) (hM : ∀ q, dy = some q → xv_Met Y.1.2.1 y ws rm mc ms Y.2.2.2.2.2.2 (xr r :: av) M (xv_qI Y.2.2.2.2.2.2 q)) (cw : CallW Y.1.2.2.2.1 Y.1.2.2.2.2 Y.2.1.2.1 own C index y bytes maxL ret ws rm mc ms n) (hn : av.length = n) (hrm : (st.map xv_c).sum ≤ 8) (hf : ce + mc ≤ Y.1.2.2.2.1.cells ∧ sl + ms ≤ Y.1.2.2.2.1.slots) (k : ∀ (z : Int) (M' : xv_M), xv_D Y (ce + mc) (sl + ms) Q tg pc' L (xi z :: st) M' (f z M')) : xv_D Y ce sl Q tg pc L S M (xv_call (xv_rc M ci r dy) f) := by
  subst hp
  subst hst
  obtain ⟨⟨p, l, e, R, s⟩, ⟨m, args, below, meth, c⟩, Dm, cy, b, nL, fl⟩ := Y
  intro hh H locs ls hP hz hS hl
  obtain ⟨q, hq, hh⟩ := xv_call_some hh
  obtain ⟨hkd, hq⟩ := xv_rc_some hq
  obtain ⟨h0, he⟩ := xv_obj (b := b) (cy := cy) hkd hci
  have hG := hY.2.2.2.2.2.1
  have hbs : b < s.heap.size := hY.2.2.2.2.2.2.1
  have hA : ∀ q, s.heap.size ≤ q → b < q := fun q h => Nat.lt_of_lt_of_le hbs h
  have hpre : ∀ U : State, U.heap = H → s.WarmedH U.vm → xv_pre fl (xr r :: av) M Dm cy b (((xr r :: av).map (xv_val b)).toArray) U := fun U hU hW => ⟨rfl, hG.moved hW, ⟨by rw [hU]; exact hP, by rw [hU]; exact hz⟩, by rw [hU]; exact Nat.lt_of_lt_of_le hbs hS.1⟩
  have hst2 : (F0 m pc ls ((av.reverse ++ xr r :: st).map (xv_val b))).stack = (av.map (xv_val b)).reverse ++ .ref (b + r) :: st.map (xv_val b) := by
    show (av.reverse ++ xr r :: st).map (xv_val b) = _
    rw [List.map_append, List.map_reverse, List.map_cons]
    show _ ++ xv_r b r :: _ = _
    rw [xv_r_s h0]
  have hpre2 : ∀ U : State, U.heap = H → s.WarmedH U.vm → xv_pre fl (xr r :: av) M Dm cy b ((Value.ref (b + r) :: av.map (xv_val b)).toArray) U := fun U hU hW => by
    have h9 := hpre U hU hW
    rw [List.map_cons] at h9
    rw [show xv_val b (xr r) = .ref (b + r) from xv_r_s h0] at h9
    exact h9
  have hrun := va_runV (e := e) (below := below) (meth := meth) (locs := locs) (g := F0 m pc ls ((av.reverse ++ xr r :: st).map (xv_val b))) (As := av.map (xv_val b)) (rest := st.map (xv_val b)) (b := b + r) ⟨hY.1, hY.2.1, hY.2.2.1, hY.2.2.2.1, hY.2.2.2.2.1⟩ (hM q hq Dm cy b) cw ⟨xv_blind, va_recv hG.1 hP hc he, hpre2⟩ rfl (by rw [List.length_map]; exact hn) hl.1 hst2 (lv_room (by rw [xv_cats]; exact hrm)) hd hf
  refine va_calli hrun hS (fun _ _ h => h) (fun _ h => h) (fun z u t H1 locs1 ht hvm hw hB hz1 hk1 hS1 => ?_)
  subst hw
  exact k q.1 q.2 hh H1 locs1 ls (by rw [← ht]; exact hB.1) (by rw [← ht]; exact hB.2) hS1 hl
theorem xv_callVJ {y : MethodName} {bytes : ByteArray} {maxL mc ms n index : Nat} {ret : Option FieldType} {ws : List Cond} {rm : Room} {av : List xv_v} {f : Int64 → xv_M → Option T} {C : String} {ci r N : Nat} {TT : u_T} {dy : Option (Int64 × xv_M)} (hY : xv_ok Y cc Ts own) (hd : decode cc pc = .ok (.invokevirtual index, 3)) (hp : pc + 3 = pc') (hst : S = av.reverse ++ xr r :: st) (hc : vwCl[ci]? = some (C, TT, N)) (hci : ci < 13) (hM : ∀ q, dy = some q → xv_Met Y.1.2.1 y ws rm mc ms Y.2.2.2.2.2.2 (xr r :: av) M (xv_qJ Y.2.2.2.2.2.2 q)) (cw : CallW Y.1.2.2.2.1 Y.1.2.2.2.2 Y.2.1.2.1 own C index y bytes maxL ret ws rm mc ms n) (hn : av.length = n) (hrm : (st.map xv_c).sum ≤ 8) (hf : ce + mc ≤ Y.1.2.2.2.1.cells ∧ sl + ms ≤ Y.1.2.2.2.1.slots) (k : ∀ (z : Int64) (M' : xv_M), xv_D Y (ce + mc) (sl + ms) Q tg pc' L (xl z :: st) M' (f z M')) : xv_D Y ce sl Q tg pc L S M (xv_call (xv_rc M ci r dy) f) := by
  subst hp
  subst hst
  obtain ⟨⟨p, l, e, R, s⟩, ⟨m, args, below, meth, c⟩, Dm, cy, b, nL, fl⟩ := Y
  intro hh H locs ls hP hz hS hl
  obtain ⟨q, hq, hh⟩ := xv_call_some hh
  obtain ⟨hkd, hq⟩ := xv_rc_some hq
  obtain ⟨h0, he⟩ := xv_obj (b := b) (cy := cy) hkd hci
  have hG := hY.2.2.2.2.2.1
  have hbs : b < s.heap.size := hY.2.2.2.2.2.2.1
  have hA : ∀ q, s.heap.size ≤ q → b < q := fun q h => Nat.lt_of_lt_of_le hbs h
  have hpre : ∀ U : State, U.heap = H → s.WarmedH U.vm → xv_pre fl (xr r :: av) M Dm cy b (((xr r :: av).map (xv_val b)).toArray) U := fun U hU hW => ⟨rfl, hG.moved hW, ⟨by rw [hU]; exact hP, by rw [hU]; exact hz⟩, by rw [hU]; exact Nat.lt_of_lt_of_le hbs hS.1⟩
  have hst2 : (F0 m pc ls ((av.reverse ++ xr r :: st).map (xv_val b))).stack = (av.map (xv_val b)).reverse ++ .ref (b + r) :: st.map (xv_val b) := by
    show (av.reverse ++ xr r :: st).map (xv_val b) = _
    rw [List.map_append, List.map_reverse, List.map_cons]
    show _ ++ xv_r b r :: _ = _
    rw [xv_r_s h0]
  have hpre2 : ∀ U : State, U.heap = H → s.WarmedH U.vm → xv_pre fl (xr r :: av) M Dm cy b ((Value.ref (b + r) :: av.map (xv_val b)).toArray) U := fun U hU hW => by
    have h9 := hpre U hU hW
    rw [List.map_cons] at h9
    rw [show xv_val b (xr r) = .ref (b + r) from xv_r_s h0] at h9
    exact h9
  have hrun := va_runV (e := e) (below := below) (meth := meth) (locs := locs) (g := F0 m pc ls ((av.reverse ++ xr r :: st).map (xv_val b))) (As := av.map (xv_val b)) (rest := st.map (xv_val b)) (b := b + r) ⟨hY.1, hY.2.1, hY.2.2.1, hY.2.2.2.1, hY.2.2.2.2.1⟩ (hM q hq Dm cy b) cw ⟨xv_blind, va_recv hG.1 hP hc he, hpre2⟩ rfl (by rw [List.length_map]; exact hn) hl.1 hst2 (lv_room (by rw [xv_cats]; exact hrm)) hd hf
  refine va_calll hrun hS (fun _ _ h => h) (fun _ h => h) (fun z u t H1 locs1 ht hvm hw hB hz1 hk1 hS1 => ?_)
  subst hw
  exact k q.1 q.2 hh H1 locs1 ls (by rw [← ht]; exact hB.1) (by rw [← ht]; exact hB.2) hS1 hl
theorem xv_callVP {y : MethodName} {bytes : ByteArray} {maxL mc ms n index : Nat} {ret : Option FieldType} {ws : List Cond} {rm : Room} {av : List xv_v} {f : Nat → xv_M → Option T} {C : String} {ci r N : Nat} {TT : u_T} {dy : Option (Nat × xv_M)} (hY : xv_ok Y cc Ts own) (hd : decode cc pc = .ok (.invokevirtual index, 3)) (hp : pc + 3 = pc') (hst : S = av.reverse ++ xr r :: st) (hc : vwCl[ci]? = some (C, TT, N)) (hci : ci < 13) (hM : ∀ q, dy = some q → xv_Met Y.1.2.1 y ws rm mc ms Y.2.2.2.2.2.2 (xr r :: av) M (xv_qP Y.2.2.2.2.2.2 q)) (cw : CallW Y.1.2.2.2.1 Y.1.2.2.2.2 Y.2.1.2.1 own C index y bytes maxL ret ws rm mc ms n) (hn : av.length = n) (hrm : (st.map xv_c).sum ≤ 8) (hf : ce + mc ≤ Y.1.2.2.2.1.cells ∧ sl + ms ≤ Y.1.2.2.2.1.slots) (k : ∀ (z : Nat) (M' : xv_M), xv_D Y (ce + mc) (sl + ms) Q tg pc' L (xr z :: st) M' (f z M')) : xv_D Y ce sl Q tg pc L S M (xv_call (xv_rc M ci r dy) f) := by
  subst hp
  subst hst
  obtain ⟨⟨p, l, e, R, s⟩, ⟨m, args, below, meth, c⟩, Dm, cy, b, nL, fl⟩ := Y
  intro hh H locs ls hP hz hS hl
  obtain ⟨q, hq, hh⟩ := xv_call_some hh
  obtain ⟨hkd, hq⟩ := xv_rc_some hq
  obtain ⟨h0, he⟩ := xv_obj (b := b) (cy := cy) hkd hci
  have hG := hY.2.2.2.2.2.1
  have hbs : b < s.heap.size := hY.2.2.2.2.2.2.1
  have hA : ∀ q, s.heap.size ≤ q → b < q := fun q h => Nat.lt_of_lt_of_le hbs h
  have hpre : ∀ U : State, U.heap = H → s.WarmedH U.vm → xv_pre fl (xr r :: av) M Dm cy b (((xr r :: av).map (xv_val b)).toArray) U := fun U hU hW => ⟨rfl, hG.moved hW, ⟨by rw [hU]; exact hP, by rw [hU]; exact hz⟩, by rw [hU]; exact Nat.lt_of_lt_of_le hbs hS.1⟩
  have hst2 : (F0 m pc ls ((av.reverse ++ xr r :: st).map (xv_val b))).stack = (av.map (xv_val b)).reverse ++ .ref (b + r) :: st.map (xv_val b) := by
    show (av.reverse ++ xr r :: st).map (xv_val b) = _
    rw [List.map_append, List.map_reverse, List.map_cons]
    show _ ++ xv_r b r :: _ = _
    rw [xv_r_s h0]
  have hpre2 : ∀ U : State, U.heap = H → s.WarmedH U.vm → xv_pre fl (xr r :: av) M Dm cy b ((Value.ref (b + r) :: av.map (xv_val b)).toArray) U := fun U hU hW => by
    have h9 := hpre U hU hW
    rw [List.map_cons] at h9
    rw [show xv_val b (xr r) = .ref (b + r) from xv_r_s h0] at h9
    exact h9
  have hrun := va_runV (e := e) (below := below) (meth := meth) (locs := locs) (g := F0 m pc ls ((av.reverse ++ xr r :: st).map (xv_val b))) (As := av.map (xv_val b)) (rest := st.map (xv_val b)) (b := b + r) ⟨hY.1, hY.2.1, hY.2.2.1, hY.2.2.2.1, hY.2.2.2.2.1⟩ (hM q hq Dm cy b) cw ⟨xv_blind, va_recv hG.1 hP hc he, hpre2⟩ rfl (by rw [List.length_map]; exact hn) hl.1 hst2 (lv_room (by rw [xv_cats]; exact hrm)) hd hf
  refine va_callq hrun hS (fun _ _ h => h) (fun _ h => h) (fun z u t H1 locs1 ht hvm hw hB hz1 hk1 hS1 => ?_)
  subst hw
  exact k q.1 q.2 hh H1 locs1 ls (by rw [← ht]; exact hB.1) (by rw [← ht]; exact hB.2) hS1 hl
theorem xv_callVV {y : MethodName} {bytes : ByteArray} {maxL mc ms n index : Nat} {ret : Option FieldType} {ws : List Cond} {rm : Room} {av : List xv_v} {f : Unit → xv_M → Option T} {C : String} {ci r N : Nat} {TT : u_T} {dy : Option (Unit × xv_M)} (hY : xv_ok Y cc Ts own) (hd : decode cc pc = .ok (.invokevirtual index, 3)) (hp : pc + 3 = pc') (hst : S = av.reverse ++ xr r :: st) (hc : vwCl[ci]? = some (C, TT, N)) (hci : ci < 13) (hM : ∀ q, dy = some q → xv_Met Y.1.2.1 y ws rm mc ms Y.2.2.2.2.2.2 (xr r :: av) M (xv_qV Y.2.2.2.2.2.2 q)) (cw : CallW Y.1.2.2.2.1 Y.1.2.2.2.2 Y.2.1.2.1 own C index y bytes maxL ret ws rm mc ms n) (hn : av.length = n) (hrm : (st.map xv_c).sum ≤ 8) (hf : ce + mc ≤ Y.1.2.2.2.1.cells ∧ sl + ms ≤ Y.1.2.2.2.1.slots) (k : ∀ (z : Unit) (M' : xv_M), xv_D Y (ce + mc) (sl + ms) Q tg pc' L (st) M' (f z M')) : xv_D Y ce sl Q tg pc L S M (xv_call (xv_rc M ci r dy) f) := by
  subst hp
  subst hst
  obtain ⟨⟨p, l, e, R, s⟩, ⟨m, args, below, meth, c⟩, Dm, cy, b, nL, fl⟩ := Y
  intro hh H locs ls hP hz hS hl
  obtain ⟨q, hq, hh⟩ := xv_call_some hh
  obtain ⟨hkd, hq⟩ := xv_rc_some hq
  obtain ⟨h0, he⟩ := xv_obj (b := b) (cy := cy) hkd hci
  have hG := hY.2.2.2.2.2.1
  have hbs : b < s.heap.size := hY.2.2.2.2.2.2.1
  have hA : ∀ q, s.heap.size ≤ q → b < q := fun q h => Nat.lt_of_lt_of_le hbs h
  have hpre : ∀ U : State, U.heap = H → s.WarmedH U.vm → xv_pre fl (xr r :: av) M Dm cy b (((xr r :: av).map (xv_val b)).toArray) U := fun U hU hW => ⟨rfl, hG.moved hW, ⟨by rw [hU]; exact hP, by rw [hU]; exact hz⟩, by rw [hU]; exact Nat.lt_of_lt_of_le hbs hS.1⟩
  have hst2 : (F0 m pc ls ((av.reverse ++ xr r :: st).map (xv_val b))).stack = (av.map (xv_val b)).reverse ++ .ref (b + r) :: st.map (xv_val b) := by
    show (av.reverse ++ xr r :: st).map (xv_val b) = _
    rw [List.map_append, List.map_reverse, List.map_cons]
    show _ ++ xv_r b r :: _ = _
    rw [xv_r_s h0]
  have hpre2 : ∀ U : State, U.heap = H → s.WarmedH U.vm → xv_pre fl (xr r :: av) M Dm cy b ((Value.ref (b + r) :: av.map (xv_val b)).toArray) U := fun U hU hW => by
    have h9 := hpre U hU hW
    rw [List.map_cons] at h9
    rw [show xv_val b (xr r) = .ref (b + r) from xv_r_s h0] at h9
    exact h9
  have hrun := va_runV (e := e) (below := below) (meth := meth) (locs := locs) (g := F0 m pc ls ((av.reverse ++ xr r :: st).map (xv_val b))) (As := av.map (xv_val b)) (rest := st.map (xv_val b)) (b := b + r) ⟨hY.1, hY.2.1, hY.2.2.1, hY.2.2.2.1, hY.2.2.2.2.1⟩ (hM q hq Dm cy b) cw ⟨xv_blind, va_recv hG.1 hP hc he, hpre2⟩ rfl (by rw [List.length_map]; exact hn) hl.1 hst2 (lv_room (by rw [xv_cats]; exact hrm)) hd hf
  refine va_callv hrun hS (fun _ _ h => h) (fun _ h => h) (fun u t H1 locs1 ht hvm hw hB hz1 hk1 hS1 => ?_)
  exact k q.1 q.2 hh H1 locs1 ls (by rw [← ht]; exact hB.1) (by rw [← ht]; exact hB.2) hS1 hl
theorem xv_callSI {y : MethodName} {bytes : ByteArray} {maxL mc ms n index : Nat} {ret : Option FieldType} {ws : List Cond} {rm : Room} {av : List xv_v} {f : Int → xv_M → Option T} {dy : Option (Int × xv_M)} (hY : xv_ok Y cc Ts own) (hd : decode cc pc = .ok (.invokestatic index, 3)) (hp : pc + 3 = pc') (hst : S = av.reverse ++ st) (hM : ∀ q, dy = some q → xv_Met Y.1.2.1 y ws rm mc ms Y.2.2.2.2.2.2 (av) M (xv_qI Y.2.2.2.2.2.2 q)) (cw : CallB Y.1.2.2.2.1 Y.1.2.2.2.2 Y.2.1.2.1 own index y bytes maxL ret ws rm mc ms n ∧ (Cond.static y).before Y.2.1.2.1 Y.1.2.2.2.2 = true) (hn : av.length = n) (hrm : (st.map xv_c).sum ≤ 8) (hf : ce + mc ≤ Y.1.2.2.2.1.cells ∧ sl + ms ≤ Y.1.2.2.2.1.slots) (k : ∀ (z : Int) (M' : xv_M), xv_D Y (ce + mc) (sl + ms) Q tg pc' L (xi z :: st) M' (f z M')) : xv_D Y ce sl Q tg pc L S M (xv_call (dy) f) := by
  subst hp
  subst hst
  obtain ⟨⟨p, l, e, R, s⟩, ⟨m, args, below, meth, c⟩, Dm, cy, b, nL, fl⟩ := Y
  intro hh H locs ls hP hz hS hl
  obtain ⟨q, hq, hh⟩ := xv_call_some hh
  have hG := hY.2.2.2.2.2.1
  have hbs : b < s.heap.size := hY.2.2.2.2.2.2.1
  have hA : ∀ q, s.heap.size ≤ q → b < q := fun q h => Nat.lt_of_lt_of_le hbs h
  have hpre : ∀ U : State, U.heap = H → s.WarmedH U.vm → xv_pre fl (av) M Dm cy b (((av).map (xv_val b)).toArray) U := fun U hU hW => ⟨rfl, hG.moved hW, ⟨by rw [hU]; exact hP, by rw [hU]; exact hz⟩, by rw [hU]; exact Nat.lt_of_lt_of_le hbs hS.1⟩
  have hst2 : (F0 m pc ls ((av.reverse ++ st).map (xv_val b))).stack = (av.map (xv_val b)).reverse ++ st.map (xv_val b) := by
    show (av.reverse ++ st).map (xv_val b) = _
    rw [List.map_append, List.map_reverse]
  have hrun := va_runS (e := e) (below := below) (meth := meth) (locs := locs) (g := F0 m pc ls ((av.reverse ++ st).map (xv_val b))) (As := av.map (xv_val b)) (rest := st.map (xv_val b)) ⟨hY.1, hY.2.1, hY.2.2.1, hY.2.2.2.1, hY.2.2.2.2.1⟩ (hM q hq Dm cy b) cw ⟨xv_blind, hpre⟩ rfl (by rw [List.length_map]; exact hn) hl.1 hst2 (lv_room (by rw [xv_cats]; exact hrm)) hd hf
  refine va_calli hrun hS (fun _ _ h => h) (fun _ h => h) (fun z u t H1 locs1 ht hvm hw hB hz1 hk1 hS1 => ?_)
  subst hw
  exact k q.1 q.2 hh H1 locs1 ls (by rw [← ht]; exact hB.1) (by rw [← ht]; exact hB.2) hS1 hl
theorem xv_callSJ {y : MethodName} {bytes : ByteArray} {maxL mc ms n index : Nat} {ret : Option FieldType} {ws : List Cond} {rm : Room} {av : List xv_v} {f : Int64 → xv_M → Option T} {dy : Option (Int64 × xv_M)} (hY : xv_ok Y cc Ts own) (hd : decode cc pc = .ok (.invokestatic index, 3)) (hp : pc + 3 = pc') (hst : S = av.reverse ++ st) (hM : ∀ q, dy = some q → xv_Met Y.1.2.1 y ws rm mc ms Y.2.2.2.2.2.2 (av) M (xv_qJ Y.2.2.2.2.2.2 q)) (cw : CallB Y.1.2.2.2.1 Y.1.2.2.2.2 Y.2.1.2.1 own index y bytes maxL ret ws rm mc ms n ∧ (Cond.static y).before Y.2.1.2.1 Y.1.2.2.2.2 = true) (hn : av.length = n) (hrm : (st.map xv_c).sum ≤ 8) (hf : ce + mc ≤ Y.1.2.2.2.1.cells ∧ sl + ms ≤ Y.1.2.2.2.1.slots) (k : ∀ (z : Int64) (M' : xv_M), xv_D Y (ce + mc) (sl + ms) Q tg pc' L (xl z :: st) M' (f z M')) : xv_D Y ce sl Q tg pc L S M (xv_call (dy) f) := by
  subst hp
  subst hst
  obtain ⟨⟨p, l, e, R, s⟩, ⟨m, args, below, meth, c⟩, Dm, cy, b, nL, fl⟩ := Y
  intro hh H locs ls hP hz hS hl
  obtain ⟨q, hq, hh⟩ := xv_call_some hh
  have hG := hY.2.2.2.2.2.1
  have hbs : b < s.heap.size := hY.2.2.2.2.2.2.1
  have hA : ∀ q, s.heap.size ≤ q → b < q := fun q h => Nat.lt_of_lt_of_le hbs h
  have hpre : ∀ U : State, U.heap = H → s.WarmedH U.vm → xv_pre fl (av) M Dm cy b (((av).map (xv_val b)).toArray) U := fun U hU hW => ⟨rfl, hG.moved hW, ⟨by rw [hU]; exact hP, by rw [hU]; exact hz⟩, by rw [hU]; exact Nat.lt_of_lt_of_le hbs hS.1⟩
  have hst2 : (F0 m pc ls ((av.reverse ++ st).map (xv_val b))).stack = (av.map (xv_val b)).reverse ++ st.map (xv_val b) := by
    show (av.reverse ++ st).map (xv_val b) = _
    rw [List.map_append, List.map_reverse]
  have hrun := va_runS (e := e) (below := below) (meth := meth) (locs := locs) (g := F0 m pc ls ((av.reverse ++ st).map (xv_val b))) (As := av.map (xv_val b)) (rest := st.map (xv_val b)) ⟨hY.1, hY.2.1, hY.2.2.1, hY.2.2.2.1, hY.2.2.2.2.1⟩ (hM q hq Dm cy b) cw ⟨xv_blind, hpre⟩ rfl (by rw [List.length_map]; exact hn) hl.1 hst2 (lv_room (by rw [xv_cats]; exact hrm)) hd hf
  refine va_calll hrun hS (fun _ _ h => h) (fun _ h => h) (fun z u t H1 locs1 ht hvm hw hB hz1 hk1 hS1 => ?_)
  subst hw
  exact k q.1 q.2 hh H1 locs1 ls (by rw [← ht]; exact hB.1) (by rw [← ht]; exact hB.2) hS1 hl
theorem xv_callSV {y : MethodName} {bytes : ByteArray} {maxL mc ms n index : Nat} {ret : Option FieldType} {ws : List Cond} {rm : Room} {av : List xv_v} {f : Unit → xv_M → Option T} {dy : Option (Unit × xv_M)} (hY : xv_ok Y cc Ts own) (hd : decode cc pc = .ok (.invokestatic index, 3)) (hp : pc + 3 = pc') (hst : S = av.reverse ++ st) (hM : ∀ q, dy = some q → xv_Met Y.1.2.1 y ws rm mc ms Y.2.2.2.2.2.2 (av) M (xv_qV Y.2.2.2.2.2.2 q)) (cw : CallB Y.1.2.2.2.1 Y.1.2.2.2.2 Y.2.1.2.1 own index y bytes maxL ret ws rm mc ms n ∧ (Cond.static y).before Y.2.1.2.1 Y.1.2.2.2.2 = true) (hn : av.length = n) (hrm : (st.map xv_c).sum ≤ 8) (hf : ce + mc ≤ Y.1.2.2.2.1.cells ∧ sl + ms ≤ Y.1.2.2.2.1.slots) (k : ∀ (z : Unit) (M' : xv_M), xv_D Y (ce + mc) (sl + ms) Q tg pc' L (st) M' (f z M')) : xv_D Y ce sl Q tg pc L S M (xv_call (dy) f) := by
  subst hp
  subst hst
  obtain ⟨⟨p, l, e, R, s⟩, ⟨m, args, below, meth, c⟩, Dm, cy, b, nL, fl⟩ := Y
  intro hh H locs ls hP hz hS hl
  obtain ⟨q, hq, hh⟩ := xv_call_some hh
  have hG := hY.2.2.2.2.2.1
  have hbs : b < s.heap.size := hY.2.2.2.2.2.2.1
  have hA : ∀ q, s.heap.size ≤ q → b < q := fun q h => Nat.lt_of_lt_of_le hbs h
  have hpre : ∀ U : State, U.heap = H → s.WarmedH U.vm → xv_pre fl (av) M Dm cy b (((av).map (xv_val b)).toArray) U := fun U hU hW => ⟨rfl, hG.moved hW, ⟨by rw [hU]; exact hP, by rw [hU]; exact hz⟩, by rw [hU]; exact Nat.lt_of_lt_of_le hbs hS.1⟩
  have hst2 : (F0 m pc ls ((av.reverse ++ st).map (xv_val b))).stack = (av.map (xv_val b)).reverse ++ st.map (xv_val b) := by
    show (av.reverse ++ st).map (xv_val b) = _
    rw [List.map_append, List.map_reverse]
  have hrun := va_runS (e := e) (below := below) (meth := meth) (locs := locs) (g := F0 m pc ls ((av.reverse ++ st).map (xv_val b))) (As := av.map (xv_val b)) (rest := st.map (xv_val b)) ⟨hY.1, hY.2.1, hY.2.2.1, hY.2.2.2.1, hY.2.2.2.2.1⟩ (hM q hq Dm cy b) cw ⟨xv_blind, hpre⟩ rfl (by rw [List.length_map]; exact hn) hl.1 hst2 (lv_room (by rw [xv_cats]; exact hrm)) hd hf
  refine va_callv hrun hS (fun _ _ h => h) (fun _ h => h) (fun u t H1 locs1 ht hvm hw hB hz1 hk1 hS1 => ?_)
  exact k q.1 q.2 hh H1 locs1 ls (by rw [← ht]; exact hB.1) (by rw [← ht]; exact hB.2) hS1 hl
theorem xv_callSNI {y : MethodName} {bytes : ByteArray} {maxL mc ms n index : Nat} {ret : Option FieldType} {ws : List Cond} {rm : Room} {av : List xv_v} {f : Int → xv_M → Option T} {host : String} {dy : Option (Int × xv_M)} (hY : xv_ok Y cc Ts own) (hd : decode cc pc = .ok (.invokestatic index, 3)) (hp : pc + 3 = pc') (hst : S = av.reverse ++ st) (hM : ∀ q, dy = some q → xv_Met Y.1.2.1 y ws rm mc ms Y.2.2.2.2.2.2 (av) M (xv_qI Y.2.2.2.2.2.2 q)) (cw : va_CN Y.1.2.2.2.1 Y.1.2.2.2.2 Y.2.1.2.1 own index y host bytes maxL ret ws rm mc ms n ∧ (Cond.static y).before Y.2.1.2.1 Y.1.2.2.2.2 = true ∧ True) (hn : av.length = n) (hrm : (st.map xv_c).sum ≤ 8) (hf : ce + mc ≤ Y.1.2.2.2.1.cells ∧ sl + ms ≤ Y.1.2.2.2.1.slots) (k : ∀ (z : Int) (M' : xv_M), xv_D Y (ce + mc) (sl + ms) Q tg pc' L (xi z :: st) M' (f z M')) : xv_D Y ce sl Q tg pc L S M (xv_call (dy) f) := by
  subst hp
  subst hst
  obtain ⟨⟨p, l, e, R, s⟩, ⟨m, args, below, meth, c⟩, Dm, cy, b, nL, fl⟩ := Y
  intro hh H locs ls hP hz hS hl
  obtain ⟨q, hq, hh⟩ := xv_call_some hh
  have hG := hY.2.2.2.2.2.1
  have hbs : b < s.heap.size := hY.2.2.2.2.2.2.1
  have hA : ∀ q, s.heap.size ≤ q → b < q := fun q h => Nat.lt_of_lt_of_le hbs h
  have hpre : ∀ U : State, U.heap = H → s.WarmedH U.vm → xv_pre fl (av) M Dm cy b (((av).map (xv_val b)).toArray) U := fun U hU hW => ⟨rfl, hG.moved hW, ⟨by rw [hU]; exact hP, by rw [hU]; exact hz⟩, by rw [hU]; exact Nat.lt_of_lt_of_le hbs hS.1⟩
  have hst2 : (F0 m pc ls ((av.reverse ++ st).map (xv_val b))).stack = (av.map (xv_val b)).reverse ++ st.map (xv_val b) := by
    show (av.reverse ++ st).map (xv_val b) = _
    rw [List.map_append, List.map_reverse]
  have hrun := va_runSN (e := e) (below := below) (meth := meth) (locs := locs) (g := F0 m pc ls ((av.reverse ++ st).map (xv_val b))) (As := av.map (xv_val b)) (rest := st.map (xv_val b)) ⟨hY.1, hY.2.1, hY.2.2.1, hY.2.2.2.1, hY.2.2.2.2.1⟩ (hM q hq Dm cy b) cw ⟨xv_blind, hpre⟩ rfl (by rw [List.length_map]; exact hn) hl.1 hst2 (lv_room (by rw [xv_cats]; exact hrm)) hd hf
  refine va_calli hrun hS (fun _ _ h => h) (fun _ h => h) (fun z u t H1 locs1 ht hvm hw hB hz1 hk1 hS1 => ?_)
  subst hw
  exact k q.1 q.2 hh H1 locs1 ls (by rw [← ht]; exact hB.1) (by rw [← ht]; exact hB.2) hS1 hl
theorem xv_callSNJ {y : MethodName} {bytes : ByteArray} {maxL mc ms n index : Nat} {ret : Option FieldType} {ws : List Cond} {rm : Room} {av : List xv_v} {f : Int64 → xv_M → Option T} {host : String} {dy : Option (Int64 × xv_M)} (hY : xv_ok Y cc Ts own) (hd : decode cc pc = .ok (.invokestatic index, 3)) (hp : pc + 3 = pc') (hst : S = av.reverse ++ st) (hM : ∀ q, dy = some q → xv_Met Y.1.2.1 y ws rm mc ms Y.2.2.2.2.2.2 (av) M (xv_qJ Y.2.2.2.2.2.2 q)) (cw : va_CN Y.1.2.2.2.1 Y.1.2.2.2.2 Y.2.1.2.1 own index y host bytes maxL ret ws rm mc ms n ∧ (Cond.static y).before Y.2.1.2.1 Y.1.2.2.2.2 = true ∧ True) (hn : av.length = n) (hrm : (st.map xv_c).sum ≤ 8) (hf : ce + mc ≤ Y.1.2.2.2.1.cells ∧ sl + ms ≤ Y.1.2.2.2.1.slots) (k : ∀ (z : Int64) (M' : xv_M), xv_D Y (ce + mc) (sl + ms) Q tg pc' L (xl z :: st) M' (f z M')) : xv_D Y ce sl Q tg pc L S M (xv_call (dy) f) := by
  subst hp
  subst hst
  obtain ⟨⟨p, l, e, R, s⟩, ⟨m, args, below, meth, c⟩, Dm, cy, b, nL, fl⟩ := Y
  intro hh H locs ls hP hz hS hl
  obtain ⟨q, hq, hh⟩ := xv_call_some hh
  have hG := hY.2.2.2.2.2.1
  have hbs : b < s.heap.size := hY.2.2.2.2.2.2.1
  have hA : ∀ q, s.heap.size ≤ q → b < q := fun q h => Nat.lt_of_lt_of_le hbs h
  have hpre : ∀ U : State, U.heap = H → s.WarmedH U.vm → xv_pre fl (av) M Dm cy b (((av).map (xv_val b)).toArray) U := fun U hU hW => ⟨rfl, hG.moved hW, ⟨by rw [hU]; exact hP, by rw [hU]; exact hz⟩, by rw [hU]; exact Nat.lt_of_lt_of_le hbs hS.1⟩
  have hst2 : (F0 m pc ls ((av.reverse ++ st).map (xv_val b))).stack = (av.map (xv_val b)).reverse ++ st.map (xv_val b) := by
    show (av.reverse ++ st).map (xv_val b) = _
    rw [List.map_append, List.map_reverse]
  have hrun := va_runSN (e := e) (below := below) (meth := meth) (locs := locs) (g := F0 m pc ls ((av.reverse ++ st).map (xv_val b))) (As := av.map (xv_val b)) (rest := st.map (xv_val b)) ⟨hY.1, hY.2.1, hY.2.2.1, hY.2.2.2.1, hY.2.2.2.2.1⟩ (hM q hq Dm cy b) cw ⟨xv_blind, hpre⟩ rfl (by rw [List.length_map]; exact hn) hl.1 hst2 (lv_room (by rw [xv_cats]; exact hrm)) hd hf
  refine va_calll hrun hS (fun _ _ h => h) (fun _ h => h) (fun z u t H1 locs1 ht hvm hw hB hz1 hk1 hS1 => ?_)
  subst hw
  exact k q.1 q.2 hh H1 locs1 ls (by rw [← ht]; exact hB.1) (by rw [← ht]; exact hB.2) hS1 hl
theorem xv_callSNV {y : MethodName} {bytes : ByteArray} {maxL mc ms n index : Nat} {ret : Option FieldType} {ws : List Cond} {rm : Room} {av : List xv_v} {f : Unit → xv_M → Option T} {host : String} {dy : Option (Unit × xv_M)} (hY : xv_ok Y cc Ts own) (hd : decode cc pc = .ok (.invokestatic index, 3)) (hp : pc + 3 = pc') (hst : S = av.reverse ++ st) (hM : ∀ q, dy = some q → xv_Met Y.1.2.1 y ws rm mc ms Y.2.2.2.2.2.2 (av) M (xv_qV Y.2.2.2.2.2.2 q)) (cw : va_CN Y.1.2.2.2.1 Y.1.2.2.2.2 Y.2.1.2.1 own index y host bytes maxL ret ws rm mc ms n ∧ (Cond.static y).before Y.2.1.2.1 Y.1.2.2.2.2 = true ∧ True) (hn : av.length = n) (hrm : (st.map xv_c).sum ≤ 8) (hf : ce + mc ≤ Y.1.2.2.2.1.cells ∧ sl + ms ≤ Y.1.2.2.2.1.slots) (k : ∀ (z : Unit) (M' : xv_M), xv_D Y (ce + mc) (sl + ms) Q tg pc' L (st) M' (f z M')) : xv_D Y ce sl Q tg pc L S M (xv_call (dy) f) := by
  subst hp
  subst hst
  obtain ⟨⟨p, l, e, R, s⟩, ⟨m, args, below, meth, c⟩, Dm, cy, b, nL, fl⟩ := Y
  intro hh H locs ls hP hz hS hl
  obtain ⟨q, hq, hh⟩ := xv_call_some hh
  have hG := hY.2.2.2.2.2.1
  have hbs : b < s.heap.size := hY.2.2.2.2.2.2.1
  have hA : ∀ q, s.heap.size ≤ q → b < q := fun q h => Nat.lt_of_lt_of_le hbs h
  have hpre : ∀ U : State, U.heap = H → s.WarmedH U.vm → xv_pre fl (av) M Dm cy b (((av).map (xv_val b)).toArray) U := fun U hU hW => ⟨rfl, hG.moved hW, ⟨by rw [hU]; exact hP, by rw [hU]; exact hz⟩, by rw [hU]; exact Nat.lt_of_lt_of_le hbs hS.1⟩
  have hst2 : (F0 m pc ls ((av.reverse ++ st).map (xv_val b))).stack = (av.map (xv_val b)).reverse ++ st.map (xv_val b) := by
    show (av.reverse ++ st).map (xv_val b) = _
    rw [List.map_append, List.map_reverse]
  have hrun := va_runSN (e := e) (below := below) (meth := meth) (locs := locs) (g := F0 m pc ls ((av.reverse ++ st).map (xv_val b))) (As := av.map (xv_val b)) (rest := st.map (xv_val b)) ⟨hY.1, hY.2.1, hY.2.2.1, hY.2.2.2.1, hY.2.2.2.2.1⟩ (hM q hq Dm cy b) cw ⟨xv_blind, hpre⟩ rfl (by rw [List.length_map]; exact hn) hl.1 hst2 (lv_room (by rw [xv_cats]; exact hrm)) hd hf
  refine va_callv hrun hS (fun _ _ h => h) (fun _ h => h) (fun u t H1 locs1 ht hvm hw hB hz1 hk1 hS1 => ?_)
  exact k q.1 q.2 hh H1 locs1 ls (by rw [← ht]; exact hB.1) (by rw [← ht]; exact hB.2) hS1 hl
theorem xv_callIV {y : MethodName} {bytes : ByteArray} {maxL mc ms n index : Nat} {ret : Option FieldType} {ws : List Cond} {rm : Room} {av : List xv_v} {f : Unit → xv_M → Option T} {r : Nat} {dy : Option (Unit × xv_M)} (hY : xv_ok Y cc Ts own) (hd : decode cc pc = .ok (.invokespecial index, 3)) (hp : pc + 3 = pc') (hst : S = av.reverse ++ xr r :: st) (hM : ∀ q, dy = some q → xv_Met Y.1.2.1 y ws rm mc ms Y.2.2.2.2.2.2 (xr r :: av) M (xv_qV Y.2.2.2.2.2.2 q)) (cw : CallB Y.1.2.2.2.1 Y.1.2.2.2.2 Y.2.1.2.1 own index y bytes maxL none ws rm mc ms n ∧ y.name = "<init>" ∧ (Cond.instanceMethod y).before Y.2.1.2.1 Y.1.2.2.2.2 = true) (hn : av.length = n) (hrm : (st.map xv_c).sum ≤ 8) (hf : ce + mc ≤ Y.1.2.2.2.1.cells ∧ sl + ms ≤ Y.1.2.2.2.1.slots) (k : ∀ (z : Unit) (M' : xv_M), xv_D Y (ce + mc) (sl + ms) Q tg pc' L (st) M' (f z M')) : xv_D Y ce sl Q tg pc L S M (xv_call (xv_g (r ≠ 0) dy) f) := by
  subst hp
  subst hst
  obtain ⟨⟨p, l, e, R, s⟩, ⟨m, args, below, meth, c⟩, Dm, cy, b, nL, fl⟩ := Y
  intro hh H locs ls hP hz hS hl
  obtain ⟨q, hq, hh⟩ := xv_call_some hh
  obtain ⟨h0, hq⟩ := xv_g_some hq
  have hG := hY.2.2.2.2.2.1
  have hbs : b < s.heap.size := hY.2.2.2.2.2.2.1
  have hA : ∀ q, s.heap.size ≤ q → b < q := fun q h => Nat.lt_of_lt_of_le hbs h
  have hpre : ∀ U : State, U.heap = H → s.WarmedH U.vm → xv_pre fl (xr r :: av) M Dm cy b (((xr r :: av).map (xv_val b)).toArray) U := fun U hU hW => ⟨rfl, hG.moved hW, ⟨by rw [hU]; exact hP, by rw [hU]; exact hz⟩, by rw [hU]; exact Nat.lt_of_lt_of_le hbs hS.1⟩
  have hst2 : (F0 m pc ls ((av.reverse ++ xr r :: st).map (xv_val b))).stack = (av.map (xv_val b)).reverse ++ .ref (b + r) :: st.map (xv_val b) := by
    show (av.reverse ++ xr r :: st).map (xv_val b) = _
    rw [List.map_append, List.map_reverse, List.map_cons]
    show _ ++ xv_r b r :: _ = _
    rw [xv_r_s h0]
  have hpre2 : ∀ U : State, U.heap = H → s.WarmedH U.vm → xv_pre fl (xr r :: av) M Dm cy b ((Value.ref (b + r) :: av.map (xv_val b)).toArray) U := fun U hU hW => by
    have h9 := hpre U hU hW
    rw [List.map_cons] at h9
    rw [show xv_val b (xr r) = .ref (b + r) from xv_r_s h0] at h9
    exact h9
  have hrun := va_runI (e := e) (below := below) (meth := meth) (locs := locs) (g := F0 m pc ls ((av.reverse ++ xr r :: st).map (xv_val b))) (As := av.map (xv_val b)) (rest := st.map (xv_val b)) (b := b + r) ⟨hY.1, hY.2.1, hY.2.2.1, hY.2.2.2.1, hY.2.2.2.2.1⟩ (hM q hq Dm cy b) cw ⟨xv_blind, hpre2⟩ rfl (by rw [List.length_map]; exact hn) hl.1 hst2 (lv_room (by rw [xv_cats]; exact hrm)) hd hf
  refine va_callv hrun hS (fun _ _ h => h) (fun _ h => h) (fun u t H1 locs1 ht hvm hw hB hz1 hk1 hS1 => ?_)
  exact k q.1 q.2 hh H1 locs1 ls (by rw [← ht]; exact hB.1) (by rw [← ht]; exact hB.2) hS1 hl
theorem xv_callINV {y : MethodName} {bytes : ByteArray} {maxL mc ms n index : Nat} {ret : Option FieldType} {ws : List Cond} {rm : Room} {av : List xv_v} {f : Unit → xv_M → Option T} {host : String} {r : Nat} {dy : Option (Unit × xv_M)} (hY : xv_ok Y cc Ts own) (hd : decode cc pc = .ok (.invokespecial index, 3)) (hp : pc + 3 = pc') (hst : S = av.reverse ++ xr r :: st) (hM : ∀ q, dy = some q → xv_Met Y.1.2.1 y ws rm mc ms Y.2.2.2.2.2.2 (xr r :: av) M (xv_qV Y.2.2.2.2.2.2 q)) (cw : va_CN Y.1.2.2.2.1 Y.1.2.2.2.2 Y.2.1.2.1 own index y host bytes maxL none ws rm mc ms n ∧ y.name = "<init>" ∧ (Cond.instanceMethod y).before Y.2.1.2.1 Y.1.2.2.2.2 = true) (hn : av.length = n) (hrm : (st.map xv_c).sum ≤ 8) (hf : ce + mc ≤ Y.1.2.2.2.1.cells ∧ sl + ms ≤ Y.1.2.2.2.1.slots) (k : ∀ (z : Unit) (M' : xv_M), xv_D Y (ce + mc) (sl + ms) Q tg pc' L (st) M' (f z M')) : xv_D Y ce sl Q tg pc L S M (xv_call (xv_g (r ≠ 0) dy) f) := by
  subst hp
  subst hst
  obtain ⟨⟨p, l, e, R, s⟩, ⟨m, args, below, meth, c⟩, Dm, cy, b, nL, fl⟩ := Y
  intro hh H locs ls hP hz hS hl
  obtain ⟨q, hq, hh⟩ := xv_call_some hh
  obtain ⟨h0, hq⟩ := xv_g_some hq
  have hG := hY.2.2.2.2.2.1
  have hbs : b < s.heap.size := hY.2.2.2.2.2.2.1
  have hA : ∀ q, s.heap.size ≤ q → b < q := fun q h => Nat.lt_of_lt_of_le hbs h
  have hpre : ∀ U : State, U.heap = H → s.WarmedH U.vm → xv_pre fl (xr r :: av) M Dm cy b (((xr r :: av).map (xv_val b)).toArray) U := fun U hU hW => ⟨rfl, hG.moved hW, ⟨by rw [hU]; exact hP, by rw [hU]; exact hz⟩, by rw [hU]; exact Nat.lt_of_lt_of_le hbs hS.1⟩
  have hst2 : (F0 m pc ls ((av.reverse ++ xr r :: st).map (xv_val b))).stack = (av.map (xv_val b)).reverse ++ .ref (b + r) :: st.map (xv_val b) := by
    show (av.reverse ++ xr r :: st).map (xv_val b) = _
    rw [List.map_append, List.map_reverse, List.map_cons]
    show _ ++ xv_r b r :: _ = _
    rw [xv_r_s h0]
  have hpre2 : ∀ U : State, U.heap = H → s.WarmedH U.vm → xv_pre fl (xr r :: av) M Dm cy b ((Value.ref (b + r) :: av.map (xv_val b)).toArray) U := fun U hU hW => by
    have h9 := hpre U hU hW
    rw [List.map_cons] at h9
    rw [show xv_val b (xr r) = .ref (b + r) from xv_r_s h0] at h9
    exact h9
  have hrun := va_runIN (e := e) (below := below) (meth := meth) (locs := locs) (g := F0 m pc ls ((av.reverse ++ xr r :: st).map (xv_val b))) (As := av.map (xv_val b)) (rest := st.map (xv_val b)) (b := b + r) ⟨hY.1, hY.2.1, hY.2.2.1, hY.2.2.2.1, hY.2.2.2.2.1⟩ (hM q hq Dm cy b) cw ⟨xv_blind, hpre2⟩ rfl (by rw [List.length_map]; exact hn) hl.1 hst2 (lv_room (by rw [xv_cats]; exact hrm)) hd hf
  refine va_callv hrun hS (fun _ _ h => h) (fun _ h => h) (fun u t H1 locs1 ht hvm hw hB hz1 hk1 hS1 => ?_)
  exact k q.1 q.2 hh H1 locs1 ls (by rw [← ht]; exact hB.1) (by rw [← ht]; exact hB.2) hS1 hl
end XC
