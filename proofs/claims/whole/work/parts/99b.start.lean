/-! THE CLAIM OUT OF ONE WALK OF THE LAW'S BODY. Your part is whole_start (and what it stands on); all else here is the same for every law, but numbers. -/
def R_law : String := "MiddleSpansLaw"
def lw_P (b : Addr) (xs : List Int32) (args : Array Value) (s : State) : Prop := args = #[.ref b] ∧ s.IntsAt b xs ∧ xs.length ≤ 1536 ∧ (Jvm.Cond.and given_1 narrow_1).before args s = true
def lw_Q (_ : Array Value) (s : State) (o : Outcome) (t : State) : Prop := o = .returned (some (.int 1)) ∧ Framed s o t [] 600000 7302250
def lw_Z (below : List Frame) (a : Array Value) (s : State) : State → Prop := fun t => ∃ o, t.status = .running ∧ Ended t below o ∧ lw_Q a s o t
/-- the law's own end, with 1 on the stack, nothing written that was there before, its room as the claim has it -/
theorem lw_ret {p : Program} {l : Launch} {e : Env} {s : State} {m : MethodId} {below : List Frame} {meth : Method} {c : Code} {b : Nat} (hx : p.tables.exec = Jvm.exec) (hb : c.code = code) (hr : meth.sig.returnType = ret) (hlocks : meth.locks = false) {pc : Nat} {H : Heap} {ls : Array Slot} (hdg : decode code pc = .ok (.ireturn, 1)) : W p l e room_1 s m #[Value.ref b] below meth c H [] 600000 7302250 (lw_Z below #[Value.ref b] s) (F0 m pc ls [.int 1]) := by
  intro T hT X
  obtain ⟨fs, hret, hrun, hended, hW, hframe⟩ := X.leave (v := some (.int 1)) (hlocks := hlocks) (fun h => by rw [hr] at h; cases h)
  have hmeth' : T.vm.method? m = some meth := X.method'
  refine ⟨T.setFrames fs, ?_, .returned (some (.int 1)), hrun, hended, rfl, ⟨_, rfl⟩, hW, hframe⟩
  jvm_step X.here [X.here.top, hx, hb, hdg, hmeth', hr, ret, narrow_b1]
  (try refine ⟨rfl, ?_⟩); (try refine ⟨rfl, ?_⟩)
  first | (intro acts; rw [hret _ acts rfl rfl rfl]) | rw [hret _ _ rfl rfl rfl]
  exact Steps.refl _
/-- what holds at the law's entry: the machine, the code, the tables' words (any of lw_tbl by 'hts w (by decide +kernel)'), the script of L ints xs at the cell b, what the Statement gives of the start (any of its parts by flat_of_before) -/
def lw_At (p : Program) (s : State) (m : MethodId) (meth : Method) (c : Code) (b L : Nat) (xs : Nat → Int32) : Prop :=
  p.tables.exec = Jvm.exec ∧ c.code = code ∧ meth.sig.returnType = ret ∧ c.maxLocals = 4 ∧ s.vm.findClass R_law = some m.cls ∧ (∀ w ∈ lw_tbl, w.before #[Value.ref b] s = true) ∧ va_X b L xs s s.heap ∧ b < s.heap.size ∧ meth.locks = false ∧ (Jvm.Cond.and given_1 narrow_1).before #[Value.ref b] s = true
/-! ## the start: what the tables say, the two objects, the loop -/
theorem lw_nest : ∀ q ∈ xv_nest, Cond.methodLinkNest q.1 q.2.1 q.2.2.1 q.2.2.2 ∈ tables_1 := List.forall_mem_cons.mpr ⟨List.mem_of_getElem? (i := 28) (by decide +kernel), List.forall_mem_cons.mpr ⟨List.mem_of_getElem? (i := 34) (by decide +kernel), List.forall_mem_cons.mpr ⟨List.mem_of_getElem? (i := 40) (by decide +kernel), List.forall_mem_cons.mpr ⟨List.mem_of_getElem? (i := 88) (by decide +kernel), List.forall_mem_cons.mpr ⟨List.mem_of_getElem? (i := 141) (by decide +kernel), List.forall_mem_cons.mpr ⟨List.mem_of_getElem? (i := 192) (by decide +kernel), List.forall_mem_cons.mpr ⟨List.mem_of_getElem? (i := 202) (by decide +kernel), List.forall_mem_cons.mpr ⟨List.mem_of_getElem? (i := 208) (by decide +kernel), List.forall_mem_cons.mpr ⟨List.mem_of_getElem? (i := 266) (by decide +kernel), List.forall_mem_cons.mpr ⟨List.mem_of_getElem? (i := 276) (by decide +kernel), List.forall_mem_cons.mpr ⟨List.mem_of_getElem? (i := 279) (by decide +kernel), List.forall_mem_cons.mpr ⟨List.mem_of_getElem? (i := 295) (by decide +kernel), List.forall_mem_cons.mpr ⟨List.mem_of_getElem? (i := 402) (by decide +kernel), List.forall_mem_cons.mpr ⟨List.mem_of_getElem? (i := 409) (by decide +kernel), List.forall_mem_cons.mpr ⟨List.mem_of_getElem? (i := 454) (by decide +kernel), List.forall_mem_cons.mpr ⟨List.mem_of_getElem? (i := 586) (by decide +kernel), List.forall_mem_cons.mpr ⟨List.mem_of_getElem? (i := 589) (by decide +kernel), List.forall_mem_cons.mpr ⟨List.mem_of_getElem? (i := 592) (by decide +kernel), List.forall_mem_cons.mpr ⟨List.mem_of_getElem? (i := 650) (by decide +kernel), List.forall_mem_cons.mpr ⟨List.mem_of_getElem? (i := 744) (by decide +kernel), List.forall_mem_cons.mpr ⟨List.mem_of_getElem? (i := 745) (by decide +kernel), fun _ h => absurd h List.not_mem_nil⟩⟩⟩⟩⟩⟩⟩⟩⟩⟩⟩⟩⟩⟩⟩⟩⟩⟩⟩⟩⟩
theorem lw_t {w : Cond} (h : w ∈ tables_1) : w ∈ lw_tbl := List.mem_append_right _ h
theorem lw_arr {s : State} {A : Array Value} {ty : FieldType} (h : (Cond.arrayClass ty).before A s = true) : ∃ cA, ArrOfT s cA ty ∧ s.vm.findClass ("[" ++ ty.toString) = some cA := by
  obtain ⟨cA, kA, comp, hf, hk, hkind⟩ := Cond.arrayClass_spec h
  exact ⟨cA, fun N z => ⟨(fun k h => by cases h), kA, hk, comp, hkind⟩, hf⟩
theorem lw_G {s : State} {A : Array Value} (hts : ∀ w ∈ lw_tbl, w.before A s = true) : ∃ (Dm : va_G) (cy : Nat → ClassId), xv_G Dm cy s := by
  obtain ⟨kX0, iX0, hkX0⟩ := u_known (C := RX0) (T := TX0) (N := 1) (n := 1) hts inX0 (hts _ (lw_t (List.mem_of_getElem? (i := 191) (by decide +kernel))))
  obtain ⟨kX1, iX1, hkX1⟩ := u_known (C := RX1) (T := TX1) (N := 2) (n := 2) hts inX1 (hts _ (lw_t (List.mem_of_getElem? (i := 259) (by decide +kernel))))
  obtain ⟨kX2, iX2, hkX2⟩ := u_known (C := RX2) (T := TX2) (N := 3) (n := 3) hts inX2 (hts _ (lw_t (List.mem_of_getElem? (i := 27) (by decide +kernel))))
  obtain ⟨kX3, iX3, hkX3⟩ := u_known (C := RX3) (T := TX3) (N := 6) (n := 6) hts inX3 (hts _ (lw_t (List.mem_of_getElem? (i := 140) (by decide +kernel))))
  obtain ⟨kX4, iX4, hkX4⟩ := u_known (C := RX4) (T := TX4) (N := 6) (n := 6) hts inX4 (hts _ (lw_t (List.mem_of_getElem? (i := 294) (by decide +kernel))))
  obtain ⟨kX5, iX5, hkX5⟩ := u_known (C := RX5) (T := TX5) (N := 8) (n := 8) hts inX5 (hts _ (lw_t (List.mem_of_getElem? (i := 39) (by decide +kernel))))
  obtain ⟨kX6, iX6, hkX6⟩ := u_known (C := RX6) (T := TX6) (N := 4) (n := 4) hts inX6 (hts _ (lw_t (List.mem_of_getElem? (i := 33) (by decide +kernel))))
  obtain ⟨kX7, iX7, hkX7⟩ := u_known (C := RX7) (T := TX7) (N := 2) (n := 2) hts inX7 (hts _ (lw_t (List.mem_of_getElem? (i := 278) (by decide +kernel))))
  obtain ⟨kX8, iX8, hkX8⟩ := u_known (C := RX8) (T := TX8) (N := 5) (n := 5) hts inX8 (hts _ (lw_t (List.mem_of_getElem? (i := 201) (by decide +kernel))))
  obtain ⟨kX9, iX9, hkX9⟩ := u_known (C := RX9) (T := TX9) (N := 9) (n := 9) hts inX9 (hts _ (lw_t (List.mem_of_getElem? (i := 87) (by decide +kernel))))
  obtain ⟨kX10, iX10, hkX10⟩ := u_known (C := RX10) (T := TX10) (N := 4) (n := 4) hts inX10 (hts _ (lw_t (List.mem_of_getElem? (i := 207) (by decide +kernel))))
  obtain ⟨kX11, iX11, hkX11⟩ := u_known (C := RX11) (T := TX11) (N := 6) (n := 6) hts inX11 (hts _ (lw_t (List.mem_of_getElem? (i := 19) (by decide +kernel))))
  obtain ⟨kX12, iX12, hkX12⟩ := u_known (C := RX12) (T := TX12) (N := 18) (n := 18) hts inX12 (hts _ (lw_t (List.mem_of_getElem? (i := 808) (by decide +kernel))))
  obtain ⟨aC, haC, hfC⟩ := lw_arr (ty := .char) (hts _ (lw_t (List.mem_of_getElem? (i := 292) (by decide +kernel))))
  obtain ⟨aI, haI, hfI⟩ := lw_arr (ty := .int) (hts _ (lw_t (List.mem_of_getElem? (i := 85) (by decide +kernel))))
  obtain ⟨aJ, haJ, hfJ⟩ := lw_arr (ty := .long) (hts _ (lw_t (List.mem_of_getElem? (i := 138) (by decide +kernel))))
  obtain ⟨aZ, haZ, hfZ⟩ := lw_arr (ty := .boolean) (hts _ (lw_t (List.mem_of_getElem? (i := 323) (by decide +kernel))))
  have hover : (Cond.arrayOver (.object "MiddleSpans$State")).before A s = true := hts _ (lw_t (List.mem_of_getElem? (i := 265) (by decide +kernel)))
  obtain ⟨cmS, aS, kS, hcmS, -, hkS, hkdS, hnS⟩ := Cond.arrayOver_spec hover
  have hover2 : (Cond.arrayOver (.array .int)).before A s = true := hts _ (lw_t (List.mem_of_getElem? (i := 93) (by decide +kernel)))
  obtain ⟨cmA, aA, kA, hcmA, -, hkA, hkdA, hnA⟩ := arrayOverA_spec hover2
  refine ⟨(fun k => if k = 0 then kX0 else if k = 1 then kX1 else if k = 2 then kX2 else if k = 3 then kX3 else if k = 4 then kX4 else if k = 5 then kX5 else if k = 6 then kX6 else if k = 7 then kX7 else if k = 8 then kX8 else if k = 9 then kX9 else if k = 10 then kX10 else if k = 11 then kX11 else kX12, fun k => if k = 0 then iX0 else if k = 1 then iX1 else if k = 2 then iX2 else if k = 3 then iX3 else if k = 4 then iX4 else if k = 5 then iX5 else if k = 6 then iX6 else if k = 7 then iX7 else if k = 8 then iX8 else if k = 9 then iX9 else if k = 10 then iX10 else if k = 11 then iX11 else iX12), fun k => if k = 13 then aC else if k = 14 then aI else if k = 15 then aJ else if k = 16 then aZ else if k = 17 then aS else aA, ⟨fun k q hq => ?_, fun k q hq => ?_⟩, fun q hq => va_Nw.of rfl (hts _ (lw_t (lw_nest q hq))), va_AO.of hover, over_moved (Vm.Alike.refl _) hover2⟩
  · match k, hq with
    | 0, hq => cases hq; exact hkX0
    | 1, hq => cases hq; exact hkX1
    | 2, hq => cases hq; exact hkX2
    | 3, hq => cases hq; exact hkX3
    | 4, hq => cases hq; exact hkX4
    | 5, hq => cases hq; exact hkX5
    | 6, hq => cases hq; exact hkX6
    | 7, hq => cases hq; exact hkX7
    | 8, hq => cases hq; exact hkX8
    | 9, hq => cases hq; exact hkX9
    | 10, hq => cases hq; exact hkX10
    | 11, hq => cases hq; exact hkX11
    | 12, hq => cases hq; exact hkX12
    | k + 13, hq => simp [vwCl] at hq
  · match k, hq with
    | 0, hq => cases hq; exact ⟨haC, hfC⟩
    | 1, hq => cases hq; exact ⟨haI, hfI⟩
    | 2, hq => cases hq; exact ⟨haJ, hfJ⟩
    | 3, hq => cases hq; exact ⟨haZ, hfZ⟩
    | 4, hq => cases hq; exact ⟨fun N z => ⟨(fun k h => by cases h), kS, hkS, cmS, hkdS⟩, kS, cmS, hkS, hkdS, hcmS, hnS⟩
    | 5, hq => cases hq; exact ⟨fun N z => ⟨(fun k h => by cases h), kA, hkA, cmA, hkdA⟩, hnA⟩
    | k + 6, hq => simp [xv_tys] at hq
theorem lw_and (x : Int32) : ∃ n : Nat, n ≤ 31 ∧ x &&& (31 : Int32) = Int32.ofInt (n : Int) := by
  have h1 : (x &&& (31 : Int32)).toBitVec.toNat = x.toBitVec.toNat &&& 31 := by
    rw [Int32.toBitVec_and, BitVec.toNat_and]
    rfl
  have h2 : x.toBitVec.toNat &&& 31 ≤ 31 := Nat.and_le_right
  refine ⟨(x &&& (31 : Int32)).toBitVec.toNat, by omega, ?_⟩
  rw [xb_ofI]
  apply Int32.toBitVec_inj.mp
  apply BitVec.eq_of_toNat_eq
  show (x &&& (31 : Int32)).toBitVec.toNat = (BitVec.ofNat 32 (x &&& (31 : Int32)).toBitVec.toNat).toNat
  rw [BitVec.toNat_ofNat]
  omega
section LWT
variable {p : Program} {l : Launch} {e : Env} {s : State} {m : MethodId} {below : List Frame} {meth : Method} {c : Code} {b L bb : Nat} {xs : Nat → Int32} {Dm : va_G} {cy : Nat → ClassId}
theorem lw_new (K : lw_K p l e s m below meth c b L xs Dm cy bb) {H : Heap} {locs : List Loc} {ls : Array Slot} {ce sl pc : Nat} {Q : State → Prop} {st : List Value} {M : xv_M} {ci index N : Nat} {C : String} {TT : u_T} {ty0 : Nat → FieldType} (hP : va_P Dm vwCl (xv_W bb cy M) H) (hs : H.size = bb + 1 + M.1.length) (hS : va_S (fun q => bb < q) s.heap H locs) (hd : decode cL_law pc = .ok (.new index, 3)) (hc : vwCl[ci]? = some (C, TT, N)) (hN : N = xv_N ci) (hci : ci < 13) (hin : ∀ w ∈ u_ws C TT N, w ∈ wsL_law) (hty : ∀ k, k < N → parseFieldDescriptor (TT k).2.2.1 = some (ty0 k)) (hdv : ∀ j, j < N → defaultValue (ty0 j) = xv_sv 0 (xv_ty ci j) 0 0 0)
    (hcl : (Cond.classLink RL index C).before #[Value.ref b] s = true) (hinst : (Cond.instantiable C N).before #[Value.ref b] s = true) (hini : (Cond.initialized C).before #[Value.ref b] s = true) (hcells : ce + 1 ≤ 600000) (hslots : sl + N ≤ 7302250) (k : ∀ H1 : Heap, va_P Dm vwCl (xv_W bb cy (xv_new M (ci, 0))) H1 → H1.size = bb + 1 + (xv_new M (ci, 0)).1.length → va_S (fun q => bb < q) s.heap H1 locs → W p l e room_1 s m #[Value.ref b] below meth c H1 locs (ce + 1) (sl + N) Q (F0 m (pc + 3) ls (.ref (bb + (M.1.length + 1)) :: st))) : W p l e room_1 s m #[Value.ref b] below meth c H locs ce sl Q (F0 m pc ls st) := by
  obtain ⟨hx, hb, hml, hown, hts, hG, hbb, hX, hbl, hL⟩ := K
  have hKn := hG.1.1 ci _ hc
  refine W.newcK hx hb hown hcl hinst hini rfl hd hcells hslots hKn.2.1 rfl fun H1 kC hkC e1 z1 o1 => ?_
  have hk : ∀ (k : Nat) (x : Nat × va_E), (xv_W bb cy M)[k]? = some x → H1[x.1]? = H[x.1]? := fun k x hx => o1 x.1 ((hP k x hx).lt)
  have h2 := k H1 ?_ (by rw [z1, hs]; simp [xv_new]; omega) ⟨Nat.le_trans hS.1 (by omega), fun x h1 h2 => (o1 x (Nat.lt_of_lt_of_le h1 hS.1)).trans (hS.2.1 x h1 h2), hS.2.2⟩
  · have e8 : bb + (M.1.length + 1) = H.size := by omega
    rw [e8] at h2
    exact h2
  · show va_P Dm vwCl (xv_W bb cy (xv_new M (ci, 0))) H1
    rw [xv_W_new]
    refine (hP.kept hk).app (fun k x hx => ?_)
    have hzz : k < 1 := (List.getElem?_eq_some_iff.mp hx).1
    rw [show k = 0 by omega] at hx
    cases hx
    unfold xv_E
    rw [if_pos hci]
    refine ⟨_, hc, ?_⟩
    have h5 := u_born ty0 hts hin hKn hkC (by rw [hs] at e1; exact e1) hty
    refine t_OB.to h5 (fun j hj => ?_)
    rw [hdv j hj]
    unfold vp_V
    rw [List.getD_eq_getElem?_getD, xv_fs_get (by rw [← hN]; exact hj)]
    show _ = xv_sv bb (xv_ty ci j) 0 0 0
    rfl
theorem lw_callI (K : lw_K p l e s m below meth c b L xs Dm cy bb) {H : Heap} {locs : List Loc} {ls : Array Slot} {ce sl pc mc ms : Nat} {Q : State → Prop} {st : List Value} {M : xv_M} {y : MethodName} {bytes : ByteArray} {maxL index : Nat} {ws : List Cond} {rm : Room} {r : Nat} {q : Unit × xv_M} (hP : va_P Dm vwCl (xv_W bb cy M) H) (hs : H.size = bb + 1 + M.1.length) (hS : va_S (fun q => bb < q) s.heap H locs) (hsz : ls.size = 4) (hd : decode cL_law pc = .ok (.invokespecial index, 3)) (h0 : r ≠ 0) (hM : xv_Met l y ws rm mc ms true [xr r] M (xv_qV true q)) (cw : CallB room_1 s #[Value.ref b] RL index y bytes maxL none ws rm mc ms 0 ∧ y.name = "<init>" ∧ (Cond.instanceMethod y).before #[Value.ref b] s = true) (hrm : (st.map fun v => v.category).sum ≤ 8) (hf : ce + mc ≤ 600000 ∧ sl + ms ≤ 7302250)
    (k : ∀ (H1 : Heap) (locs1 : List Loc), va_P Dm vwCl (xv_W bb cy q.2) H1 → H1.size = bb + 1 + q.2.1.length → va_S (fun q => bb < q) s.heap H1 locs1 → W p l e room_1 s m #[Value.ref b] below meth c H1 locs1 (ce + mc) (sl + ms) Q (F0 m (pc + 3) ls st)) : W p l e room_1 s m #[Value.ref b] below meth c H locs ce sl Q (F0 m pc ls (.ref (bb + r) :: st)) := by
  obtain ⟨hx, hb, hml, hown, hts, hG, hbb, hX, hbl, hL⟩ := K
  have hbs : bb < s.heap.size := by omega
  have hpre2 : ∀ U : State, U.heap = H → s.WarmedH U.vm → xv_pre true [xr r] M Dm cy bb ((Value.ref (bb + r) :: ([] : List Value)).toArray) U := fun U hU hW => by
    have h9 : xv_pre true [xr r] M Dm cy bb ((([xr r] : List xv_v).map (xv_val bb)).toArray) U := ⟨rfl, hG.moved hW, ⟨by rw [hU]; exact hP, fun _ => by rw [hU]; exact hs⟩, by rw [hU]; exact Nat.lt_of_lt_of_le hbs hS.1⟩
    rw [List.map_cons] at h9
    rw [show xv_val bb (xr r) = .ref (bb + r) from xv_r_s h0] at h9
    exact h9
  have hrun := va_runI (e := e) (below := below) (meth := meth) (locs := locs) (cells := ce) (slots := sl) (g := F0 m pc ls (.ref (bb + r) :: st)) (As := []) (rest := st) (b := bb + r) ⟨hx, hb, hml, hown, hts⟩ (hM Dm cy bb) cw ⟨xv_blind, hpre2⟩ rfl rfl hsz rfl (lv_room hrm) hd hf
  refine va_callv hrun hS (fun _ _ h => h) (fun _ h => h) (fun u t H1 locs1 ht hvm hw hB hz1 hk1 hS1 => ?_)
  exact k H1 locs1 (by rw [← ht]; exact hB.1) (by rw [← ht]; exact hB.2 rfl) hS1
set_option maxHeartbeats 4000000 in
set_option maxRecDepth 100000 in
theorem lw_loop (K : lw_K p l e s m below meth c b L xs Dm cy bb) (hr : meth.sig.returnType = ret) (hlocks : meth.locks = false) : ∀ (n i : Nat), L ≤ i + n → i ≤ 1536 → ∀ (M : xv_M), INV M → ∀ (H : Heap) (locs : List Loc), va_P Dm vwCl (xv_W bb cy M) H → va_S (fun q => bb < q) s.heap H locs → ∀ ls : Array Slot, lv_has ls 4 (lw_L b bb i) → W p l e room_1 s m #[Value.ref b] below meth c H locs 194 15622 (lw_Z below #[Value.ref b] s) (F0 m 18 ls []) := by
  intro n
  induction n with
  | zero =>
    intro i hn hi M hI H locs hP hS ls hl
    have h0 := lv_at hl 0 rfl
    have h3 := lv_at hl 3 rfl
    obtain ⟨hx, hb, hml, hown, hts, hG, hbb, hX, hbl, hL⟩ := id K
    refine lv_iload_n hx hb dL_law_18 rfl h3 ?_
    refine lv_aload_n hx hb dL_law_19 rfl h0 ?_
    refine va_slen hx hb hX hbl (A := fun q => bb < q) (by show ¬ bb < b; omega) hS dL_law_20 ?_
    refine lv_iconst (v := Int32.ofInt 3) hx hb dL_law_21 rfl ?_
    refine lv_isub hx hb dL_law_22 ?_
    rw [show Int32.ofNat L - Int32.ofInt 3 = Int32.ofInt ((L : Int) - 3) by rw [← xv_sub]; rw [show Int32.ofInt (L : Int) = Int32.ofNat L from xb_ofI L]]
    have hlt := xv_lt (x := (L : Int) - 3) (y := (i : Int)) ⟨by omega, by omega⟩ ⟨by omega, by omega⟩
    refine lv_icmp_gt (tgt := 790) hx hb dL_law_23 (by decide) (fun q => ?_) (fun q => ?_)
    · refine lv_iconst (v := 1) hx hb dL_law_790 (by decide) ?_
      refine va_forget (fun q hq => by have := hS.2.2 q hq; show s.heap.size ≤ q.base; have h9 : bb < q.base := this; omega) ?_
      refine W.widen (k := 600000) (n := 7302250) (Nat.le_of_ble_eq_true rfl) (Nat.le_of_ble_eq_true rfl) ?_
      exact lw_ret hx hb hr hlocks dL_law_791
    · exact absurd (hlt.mpr (by omega)) q
  | succ n ih =>
    intro i hn hi M hI H locs hP hS ls hl
    have h0 := lv_at hl 0 rfl
    have h3 := lv_at hl 3 rfl
    obtain ⟨hx, hb, hml, hown, hts, hG, hbb, hX, hbl, hL⟩ := id K
    refine lv_iload_n hx hb dL_law_18 rfl h3 ?_
    refine lv_aload_n hx hb dL_law_19 rfl h0 ?_
    refine va_slen hx hb hX hbl (A := fun q => bb < q) (by show ¬ bb < b; omega) hS dL_law_20 ?_
    refine lv_iconst (v := Int32.ofInt 3) hx hb dL_law_21 rfl ?_
    refine lv_isub hx hb dL_law_22 ?_
    rw [show Int32.ofNat L - Int32.ofInt 3 = Int32.ofInt ((L : Int) - 3) by rw [← xv_sub]; rw [show Int32.ofInt (L : Int) = Int32.ofNat L from xb_ofI L]]
    have hlt := xv_lt (x := (L : Int) - 3) (y := (i : Int)) ⟨by omega, by omega⟩ ⟨by omega, by omega⟩
    refine lv_icmp_gt (tgt := 790) hx hb dL_law_23 (by decide) (fun q => ?_) (fun q => ?_)
    · refine lv_iconst (v := 1) hx hb dL_law_790 (by decide) ?_
      refine va_forget (fun q hq => by have := hS.2.2 q hq; show s.heap.size ≤ q.base; have h9 : bb < q.base := this; omega) ?_
      refine W.widen (k := 600000) (n := 7302250) (Nat.le_of_ble_eq_true rfl) (Nat.le_of_ble_eq_true rfl) ?_
      exact lw_ret hx hb hr hlocks dL_law_791
    · have hiL : i + 2 < L := by
        have h9 : ¬ ((L : Int) - 3 < (i : Int)) := fun z => q (hlt.mpr z)
        omega
      have kont : ∀ (M2 : xv_M) (H2 : Heap) (locs2 : List Loc), INV M2 → va_P Dm vwCl (xv_W bb cy M2) H2 → va_S (fun q => bb < q) s.heap H2 locs2 → W p l e room_1 s m #[Value.ref b] below meth c H2 locs2 194 15622 (lw_Z below #[Value.ref b] s) (F0 m 784 ls []) := by
        intro M2 H2 locs2 i2 hP2 hS2
        refine lv_iinc (v := Int32.ofInt ((i + 3 : Nat) : Int)) (lv' := [(3, .int (Int32.ofInt ((i + 3 : Nat) : Int))), (0, .ref b), (1, .ref (bb + 1)), (2, .ref (bb + 188))]) hx hb dL_law_784 hl (k := 3) rfl (by rw [xv_add, show (i : Int) + 3 = ((i + 3 : Nat) : Int) by omega]) (by decide) rfl (fun ls2 hl2 => ?_)
        refine lv_goto (tgt := 18) hx hb dL_law_787 (by decide) ?_
        exact ih (i + 3) (by omega) (by omega) M2 i2 H2 locs2 hP2 hS2 ls2 (lv_sub hl2 [1, 2, 3, 0] rfl)
      refine lv_aload_n hx hb dL_law_26 rfl h0 ?_
      refine lv_iload_n hx hb dL_law_27 rfl h3 ?_
      obtain ⟨hin, ht⟩ := xv_ix (x := (i : Int)) (n := L) (by omega) (by omega) (by omega)
      refine va_sld hx hb hX hbl (A := fun q => bb < q) (by show ¬ bb < b; omega) hS hin dL_law_28 ?_
      refine lv_bipush (v := 31) hx hb dL_law_29 (by decide) ?_
      refine lv_iand hx hb dL_law_31 ?_
      obtain ⟨w, hw31, ew⟩ := lw_and (xs (Int32.ofInt (i : Int)).toNatClampNeg)
      rw [ew]
      by_cases hw : 24 ≤ w
      · have e0 : (Int32.ofInt (w : Int)).toInt = (w : Int) := xv_toInt ⟨by omega, by omega⟩
        refine lv_tableOut (tgt := 784) hx hb dL_law_32 (by rw [e0]; omega) (by decide) ?_
        exact kont M H locs hI hP hS
      · have hc24 : w = 0 ∨ w = 1 ∨ w = 2 ∨ w = 3 ∨ w = 4 ∨ w = 5 ∨ w = 6 ∨ w = 7 ∨ w = 8 ∨ w = 9 ∨ w = 10 ∨ w = 11 ∨ w = 12 ∨ w = 13 ∨ w = 14 ∨ w = 15 ∨ w = 16 ∨ w = 17 ∨ w = 18 ∨ w = 19 ∨ w = 20 ∨ w = 21 ∨ w = 22 ∨ w = 23 := by omega
        rcases hc24 with rfl | rfl | rfl | rfl | rfl | rfl | rfl | rfl | rfl | rfl | rfl | rfl | rfl | rfl | rfl | rfl | rfl | rfl | rfl | rfl | rfl | rfl | rfl | rfl
        · refine lv_tableIn (tgt := 144) (off := 112) hx hb dL_law_32 (by decide) (by decide) (by decide +kernel) (by decide) ?_
          exact lwc_add K hI hiL hP hS hl kont
        · refine lv_tableIn (tgt := 177) (off := 145) hx hb dL_law_32 (by decide) (by decide) (by decide +kernel) (by decide) ?_
          exact lwc_readSpans K hI hiL hP hS hl kont
        · refine lv_tableIn (tgt := 190) (off := 158) hx hb dL_law_32 (by decide) (by decide) (by decide +kernel) (by decide) ?_
          exact lwc_remove K hI hiL hP hS hl kont
        · refine lv_tableIn (tgt := 213) (off := 181) hx hb dL_law_32 (by decide) (by decide) (by decide +kernel) (by decide) ?_
          exact lwc_move K hI hiL hP hS hl kont
        · refine lv_tableIn (tgt := 246) (off := 214) hx hb dL_law_32 (by decide) (by decide) (by decide +kernel) (by decide) ?_
          exact lwc_come K hI hiL hP hS hl kont
        · refine lv_tableIn (tgt := 279) (off := 247) hx hb dL_law_32 (by decide) (by decide) (by decide +kernel) (by decide) ?_
          exact lwc_put K hI hiL hP hS hl kont
        · refine lv_tableIn (tgt := 312) (off := 280) hx hb dL_law_32 (by decide) (by decide) (by decide +kernel) (by decide) ?_
          exact lwc_speed K hI hiL hP hS hl kont
        · refine lv_tableIn (tgt := 345) (off := 313) hx hb dL_law_32 (by decide) (by decide) (by decide +kernel) (by decide) ?_
          exact lwc_pass K hI hiL hP hS hl kont
        · refine lv_tableIn (tgt := 368) (off := 336) hx hb dL_law_32 (by decide) (by decide) (by decide +kernel) (by decide) ?_
          exact lwc_type K hI hiL hP hS hl kont
        · refine lv_tableIn (tgt := 393) (off := 361) hx hb dL_law_32 (by decide) (by decide) (by decide +kernel) (by decide) ?_
          exact lwc_clearText K hI hiL hP hS hl kont
        · refine lv_tableIn (tgt := 406) (off := 374) hx hb dL_law_32 (by decide) (by decide) (by decide +kernel) (by decide) ?_
          exact lwc_undo K hI hiL hP hS hl kont
        · refine lv_tableIn (tgt := 419) (off := 387) hx hb dL_law_32 (by decide) (by decide) (by decide +kernel) (by decide) ?_
          exact lwc_keep K hI hiL hP hS hl kont
        · refine lv_tableIn (tgt := 432) (off := 400) hx hb dL_law_32 (by decide) (by decide) (by decide +kernel) (by decide) ?_
          exact lwc_restore K hI hiL hP hS hl kont
        · refine lv_tableIn (tgt := 445) (off := 413) hx hb dL_law_32 (by decide) (by decide) (by decide +kernel) (by decide) ?_
          exact lwc_span K hI hiL hP hS hl kont
        · refine lv_tableIn (tgt := 478) (off := 446) hx hb dL_law_32 (by decide) (by decide) (by decide +kernel) (by decide) ?_
          exact lwc_walker K hI hiL hP hS hl kont
        · refine lv_tableIn (tgt := 511) (off := 479) hx hb dL_law_32 (by decide) (by decide) (by decide +kernel) (by decide) ?_
          exact lwc_inside K hI hiL hP hS hl kont
        · refine lv_tableIn (tgt := 544) (off := 512) hx hb dL_law_32 (by decide) (by decide) (by decide +kernel) (by decide) ?_
          exact lwc_ask K hI hiL hP hS hl kont
        · refine lv_tableIn (tgt := 577) (off := 545) hx hb dL_law_32 (by decide) (by decide) (by decide +kernel) (by decide) ?_
          exact lwc_free K hI hiL hP hS hl kont
        · refine lv_tableIn (tgt := 626) (off := 594) hx hb dL_law_32 (by decide) (by decide) (by decide +kernel) (by decide) ?_
          exact lwc_most K hI hiL hP hS hl kont
        · refine lv_tableIn (tgt := 649) (off := 617) hx hb dL_law_32 (by decide) (by decide) (by decide +kernel) (by decide) ?_
          exact lwc_changesIn K hI hiL hP hS hl kont
        · refine lv_tableIn (tgt := 672) (off := 640) hx hb dL_law_32 (by decide) (by decide) (by decide +kernel) (by decide) ?_
          exact lwc_meetIn K hI hiL hP hS hl kont
        · refine lv_tableIn (tgt := 705) (off := 673) hx hb dL_law_32 (by decide) (by decide) (by decide +kernel) (by decide) ?_
          exact lwc_index K hI hiL hP hS hl kont
        · refine lv_tableIn (tgt := 728) (off := 696) hx hb dL_law_32 (by decide) (by decide) (by decide +kernel) (by decide) ?_
          exact lwc_event K hI hiL hP hS hl kont
        · refine lv_tableIn (tgt := 761) (off := 729) hx hb dL_law_32 (by decide) (by decide) (by decide +kernel) (by decide) ?_
          exact lwc_count K hI hiL hP hS hl kont
end LWT
set_option maxHeartbeats 4000000 in
set_option maxRecDepth 100000 in
/-- the law, from its entry -/
theorem whole_start {p : Program} {e : Env} {s : State} {m : MethodId} {below : List Frame} {meth : Method} {c : Code} (l : Launch) (hflags : l.flags = flags0) {b L : Nat} {xs : Nat → Int32} (hL : L ≤ 1536) (C0 : lw_At p s m meth c b L xs) : W p l e room_1 s m #[Value.ref b] below meth c s.heap [] 0 0 (lw_Z below #[Value.ref b] s) (entryFrame m ([Value.ref b] : List Value).toArray 4) := by
  obtain ⟨hx, hb, hr, hml, hown, hts0, hX, hbl, hlocks, hgv⟩ := id C0
  obtain ⟨Dm, cy, hG⟩ := lw_G hts0
  obtain ⟨bb, hbb⟩ : ∃ bb, bb + 1 = s.heap.size := ⟨s.heap.size - 1, by omega⟩
  have hts : ∀ w ∈ wsL_law, w.before #[Value.ref b] s = true := fun w hw => hts0 w (wsL_law_in w hw)
  have K : lw_K p l e s m below meth c b L xs Dm cy bb := ⟨hx, hb, hml, hown, hts, hG, hbb, hX, hbl, hL⟩
  have hl := lv_entry ([.ref b]) (n := 4) (Nat.le_of_ble_eq_true rfl)
  rw [lg_entry_eq]
  generalize (lg_sl ([.ref b]) ++ List.replicate (4 - (lg_sl ([.ref b])).length) Slot.unset).toArray = ls at hl ⊢
  have hl : lv_has ls 4 [(0, .ref b)] := hl
  have hP0 : va_P Dm vwCl (xv_W bb cy (([], fun _ _ => 0, fun _ _ => 0, fun _ _ => 0) : xv_M)) s.heap := fun k q h => by simp [xv_W] at h
  refine lw_new K (ci := 11) (N := 6) hP0 (by show s.heap.size = bb + 1 + 0; omega) va_S.rf dL_law_0 rfl rfl (by decide) inlX11 tyX11_ok xv_dv11 (hts _ (by decide +kernel)) (hts _ (by decide +kernel)) (hts _ (by decide +kernel)) (Nat.le_of_ble_eq_true rfl) (Nat.le_of_ble_eq_true rfl) (fun H1 hP1 hz1 hS1 => ?_)
  refine lv_dup hx hb dL_law_3 rfl ?_
  refine lw_callI K (M := xl_A0) (r := 1) (q := ((), xl_A1)) (mc := 186) (ms := 8316) hP1 hz1 hS1 hl.1 dL_law_4 (by decide) (S_X11_init l 1 xl_A0 ((), xl_A1) xl_init11) (cwI 0 hts gL_law_X11_init rfl rfl rfl (hts _ (by decide +kernel)) (hts _ (by decide +kernel)) (hts _ (by decide +kernel)) rfl (by decide +kernel) ⟨Nat.le_of_ble_eq_true rfl, Nat.le_of_ble_eq_true rfl⟩) (Nat.le_of_ble_eq_true rfl) ⟨Nat.le_of_ble_eq_true rfl, Nat.le_of_ble_eq_true rfl⟩ (fun H2 lH2 hP2 hz2 hS2 => ?_)
  refine lv_astore_n (lv' := [(1, .ref (bb + 1)), (0, .ref b)]) hx hb dL_law_7 rfl hl (by decide) rfl (fun ls hl => ?_)
  refine lw_new K (M := xl_A1) (ci := 12) (N := 18) hP2 hz2 hS2 dL_law_8 rfl rfl (by decide) inlX12 tyX12_ok xv_dv12 (hts _ (by decide +kernel)) (hts _ (by decide +kernel)) (hts _ (by decide +kernel)) (Nat.le_of_ble_eq_true rfl) (Nat.le_of_ble_eq_true rfl) (fun H3 hP3 hz3 hS3 => ?_)
  rw [xl_A1_len]
  refine lv_dup hx hb dL_law_11 rfl ?_
  refine lw_callI K (M := xl_A2) (r := 188) (q := ((), xl_A3)) (mc := 6) (ms := 7282) hP3 hz3 hS3 hl.1 dL_law_12 (by decide) (S_X12_init l 188 xl_A2 ((), xl_A3) xl_init12) (cwI 0 hts gL_law_X12_init rfl rfl rfl (hts _ (by decide +kernel)) (hts _ (by decide +kernel)) (hts _ (by decide +kernel)) rfl (by decide +kernel) ⟨Nat.le_of_ble_eq_true rfl, Nat.le_of_ble_eq_true rfl⟩) (Nat.le_of_ble_eq_true rfl) ⟨Nat.le_of_ble_eq_true rfl, Nat.le_of_ble_eq_true rfl⟩ (fun H4 lH4 hP4 hz4 hS4 => ?_)
  refine lv_astore_n (lv' := [(2, .ref (bb + 188)), (1, .ref (bb + 1)), (0, .ref b)]) hx hb dL_law_15 rfl hl (by decide) rfl (fun ls hl => ?_)
  refine lv_iconst (v := Int32.ofInt ((0 : Nat) : Int)) hx hb dL_law_16 rfl ?_
  refine lv_istore_n (lv' := [(3, .int (Int32.ofInt ((0 : Nat) : Int))), (2, .ref (bb + 188)), (1, .ref (bb + 1)), (0, .ref b)]) hx hb dL_law_17 rfl hl (by decide) rfl (fun ls hl => ?_)
  exact lw_loop K hr hlocks L 0 (by omega) (by omega) xl_A3 INV_start H4 lH4 hP4 hS4 ls (lv_sub hl [3, 2, 1, 0] rfl)
