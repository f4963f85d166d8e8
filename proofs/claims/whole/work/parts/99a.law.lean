/-! ## the law's cases: each call of both -/
theorem lw_iR (x : Int32) : iR x.toInt := by
  have h1 := Int32.le_toInt x
  have h2 := Int32.toInt_lt x
  exact ⟨by omega, by omega⟩
theorem lw_i2c (x : Int32) : ∃ k : Nat, k ≤ 65535 ∧ (x.toUInt32 % 65536).toInt32 = Int32.ofInt (k : Int) := by
  have h1 : (x.toUInt32 % 65536).toNat = x.toUInt32.toNat % 65536 := UInt32.toNat_mod _ _
  refine ⟨(x.toUInt32 % 65536).toNat, by omega, ?_⟩
  rw [xb_ofI]
  apply Int32.toBitVec_inj.mp
  apply BitVec.eq_of_toNat_eq
  show (x.toUInt32 % 65536).toNat = (BitVec.ofNat 32 (x.toUInt32 % 65536).toNat).toNat
  rw [BitVec.toNat_ofNat]
  omega
/-- what holds of the law's run all the way -/
def lw_K (p : Program) (l : Launch) (e : Env) (s : State) (m : MethodId) (below : List Frame) (meth : Method) (c : Code) (b L : Nat) (xs : Nat → Int32) (Dm : va_G) (cy : Nat → ClassId) (bb : Nat) : Prop :=
  p.tables.exec = Jvm.exec ∧ c.code = cL_law ∧ c.maxLocals = 4 ∧ s.vm.findClass RL = some m.cls ∧ (∀ w ∈ wsL_law, w.before #[Value.ref b] s = true) ∧ xv_G Dm cy s ∧ bb + 1 = s.heap.size ∧ va_X b L xs s s.heap ∧ b < s.heap.size ∧ L ≤ 1536
/-- the law's locals -/
def lw_L (b bb i : Nat) : List (Nat × Value) := [(0, .ref b), (1, .ref (bb + 1)), (2, .ref (bb + 188)), (3, .int (Int32.ofInt (i : Int)))]
section LWS
variable {p : Program} {l : Launch} {e : Env} {s : State} {m : MethodId} {below : List Frame} {meth : Method} {c : Code} {b L bb : Nat} {xs : Nat → Int32} {Dm : va_G} {cy : Nat → ClassId}
theorem lw_ld (K : lw_K p l e s m below meth c b L xs Dm cy bb) {H : Heap} {locs : List Loc} {ls : Array Slot} {ce sl i pc : Nat} {Q : State → Prop} {st : List Value} {k : Nat} {kI : Int} (hS : va_S (fun q => bb < q) s.heap H locs) (h0 : ls[0]? = some (.val (.ref b))) (h3 : ls[3]? = some (.val (.int (Int32.ofInt (i : Int))))) (hkI : kI = (k : Int)) (hk : i + k < L)
    (d0 : decode cL_law pc = .ok (.aload_n 0, 1)) (d1 : decode cL_law (pc + 1) = .ok (.iload_n 3, 1)) (d2 : decode cL_law (pc + 2) = .ok (.iconst kI, 1)) (d3 : decode cL_law (pc + 3) = .ok (.iadd, 1)) (d4 : decode cL_law (pc + 4) = .ok (.iaload, 1))
    (kk : W p l e room_1 s m #[Value.ref b] below meth c H locs ce sl Q (F0 m (pc + 5) ls (.int (Int32.ofInt (xs (i + k)).toInt) :: st))) : W p l e room_1 s m #[Value.ref b] below meth c H locs ce sl Q (F0 m pc ls st) := by
  obtain ⟨hx, hb, hml, hown, hts, hG, hbb, hX, hbl, hL⟩ := K
  refine lv_aload_n hx hb d0 rfl h0 ?_
  refine lv_iload_n hx hb d1 rfl h3 ?_
  refine lv_iconst (v := Int32.ofInt (k : Int)) hx hb d2 (by rw [hkI]) ?_
  refine lv_iadd hx hb d3 ?_
  have e9 : Int32.ofInt (i : Int) + Int32.ofInt (k : Int) = Int32.ofInt ((i + k : Nat) : Int) := by
    rw [xv_add, show (i : Int) + (k : Int) = ((i + k : Nat) : Int) by omega]
  rw [e9]
  obtain ⟨hin, ht⟩ := xv_ix (x := ((i + k : Nat) : Int)) (n := L) (by omega) (by omega) (by omega)
  refine va_sld hx hb hX hbl (A := fun q => bb < q) (by show ¬ bb < b; omega) hS hin d4 ?_
  rw [ht, Int.toNat_natCast]
  rw [Int32.ofInt_toInt] at kk
  exact kk
theorem lw_bool {H : Heap} {locs : List Loc} {ls : Array Slot} {ce sl pc : Nat} {Q : State → Prop} {st : List Value} {x : Int32} {z : Int} (hx : p.tables.exec = Jvm.exec) (hb : c.code = cL_law) (d0 : decode cL_law pc = .ok (.ifCond .eq 7, 3)) (d1 : decode cL_law (pc + 3) = .ok (.iconst 1, 1)) (d2 : decode cL_law (pc + 4) = .ok (.goto 4, 3)) (d3 : decode cL_law (pc + 7) = .ok (.iconst 0, 1)) (hz : z = (if x = 0 then 0 else 1))
    (kk : W p l e room_1 s m #[Value.ref b] below meth c H locs ce sl Q (F0 m (pc + 8) ls (.int (Int32.ofInt z) :: st))) : W p l e room_1 s m #[Value.ref b] below meth c H locs ce sl Q (F0 m pc ls (.int x :: st)) := by
  refine lv_if_eq (tgt := pc + 7) hx hb d0 (by omega) (fun q => ?_) (fun q => ?_)
  · refine lv_iconst (v := Int32.ofInt z) hx hb d3 (by rw [hz, if_pos q]) ?_
    exact kk
  · refine lv_iconst (v := Int32.ofInt z) hx hb d1 (by rw [hz, if_neg q]) ?_
    refine lv_goto (tgt := pc + 8) hx hb d2 (by omega) ?_
    exact kk
theorem lw_callV (K : lw_K p l e s m below meth c b L xs Dm cy bb) {H : Heap} {locs : List Loc} {ls : Array Slot} {pc : Nat} {Q : State → Prop} {st stk : List Value} {M : xv_M} {y : MethodName} {bytes : ByteArray} {maxL n index : Nat} {ret : Option FieldType} {ws : List Cond} {rm : Room} {av : List xv_v} {C : String} {ci r N : Nat} {TT : u_T} {q : Int × xv_M} (hP : va_P Dm vwCl (xv_W bb cy M) H) (hS : va_S (fun q => bb < q) s.heap H locs) (hsz : ls.size = 4) (hd : decode cL_law pc = .ok (.invokevirtual index, 3)) (hc : vwCl[ci]? = some (C, TT, N)) (hci : ci < 13) (hkd : (xv_kd M r).1 = ci) (hM : xv_Met l y ws rm 0 0 false (xr r :: av) M (xv_qI false q)) (cw : CallW room_1 s #[Value.ref b] RL C index y bytes maxL ret ws rm 0 0 n) (hn : av.length = n) (hrm : (st.map fun v => v.category).sum ≤ 8) (hst : stk = (av.map (xv_val bb)).reverse ++ .ref (bb + r) :: st)
    (k : ∀ (H1 : Heap) (locs1 : List Loc), va_P Dm vwCl (xv_W bb cy q.2) H1 → va_S (fun q => bb < q) s.heap H1 locs1 → W p l e room_1 s m #[Value.ref b] below meth c H1 locs1 194 15622 Q (F0 m (pc + 3) ls (.int (Int32.ofInt q.1) :: st))) : W p l e room_1 s m #[Value.ref b] below meth c H locs 194 15622 Q (F0 m pc ls stk) := by
  subst hst
  obtain ⟨hx, hb, hml, hown, hts, hG, hbb, hX, hbl, hL⟩ := K
  obtain ⟨h0, he⟩ := xv_obj (b := bb) (cy := cy) hkd hci
  have hbs : bb < s.heap.size := by omega
  have hA : ∀ q, s.heap.size ≤ q → bb < q := fun q h => Nat.lt_of_lt_of_le hbs h
  have hpre2 : ∀ U : State, U.heap = H → s.WarmedH U.vm → xv_pre false (xr r :: av) M Dm cy bb ((Value.ref (bb + r) :: av.map (xv_val bb)).toArray) U := fun U hU hW => by
    have h9 : xv_pre false (xr r :: av) M Dm cy bb (((xr r :: av).map (xv_val bb)).toArray) U := ⟨rfl, hG.moved hW, ⟨by rw [hU]; exact hP, fun z => by cases z⟩, by rw [hU]; exact Nat.lt_of_lt_of_le hbs hS.1⟩
    rw [List.map_cons] at h9
    rw [show xv_val bb (xr r) = .ref (bb + r) from xv_r_s h0] at h9
    exact h9
  have hrun := va_runV (e := e) (below := below) (meth := meth) (locs := locs) (cells := 194) (slots := 15622) (g := F0 m pc ls ((av.map (xv_val bb)).reverse ++ .ref (bb + r) :: st)) (As := av.map (xv_val bb)) (rest := st) (b := bb + r) ⟨hx, hb, hml, hown, hts⟩ (hM Dm cy bb) cw ⟨xv_blind, va_recv hG.1 hP hc he, hpre2⟩ rfl (by rw [List.length_map]; exact hn) hsz rfl (lv_room hrm) hd ⟨Nat.le_of_ble_eq_true rfl, Nat.le_of_ble_eq_true rfl⟩
  refine va_calli hrun hS (fun _ _ h => h) (fun _ h => h) (fun z u t H1 locs1 ht hvm hw hB hz1 hk1 hS1 => ?_)
  subst hw
  exact k H1 locs1 (by rw [← ht]; exact hB.1) hS1
set_option maxHeartbeats 4000000 in
set_option maxRecDepth 100000 in
theorem lwc_add (K : lw_K p l e s m below meth c b L xs Dm cy bb) {M : xv_M} (hi : INV M) {H : Heap} {locs : List Loc} {ls : Array Slot} {i : Nat} (hiL : i + 2 < L) (hP : va_P Dm vwCl (xv_W bb cy M) H) (hS : va_S (fun q => bb < q) s.heap H locs) (hl : lv_has ls 4 (lw_L b bb i)) {Q : State → Prop} (k : ∀ (M2 : xv_M) (H2 : Heap) (locs2 : List Loc), INV M2 → va_P Dm vwCl (xv_W bb cy M2) H2 → va_S (fun q => bb < q) s.heap H2 locs2 → W p l e room_1 s m #[Value.ref b] below meth c H2 locs2 194 15622 Q (F0 m 784 ls [])) : W p l e room_1 s m #[Value.ref b] below meth c H locs 194 15622 Q (F0 m 144 ls []) := by
  have h0 := lv_at hl 0 rfl
  have h1 := lv_at hl 1 rfl
  have h2 := lv_at hl 2 rfl
  have h3 := lv_at hl 3 rfl
  obtain ⟨hx, hb, hml, hown, hts, hG, hbb, hX, hbl, hL⟩ := id K
  obtain ⟨z, M1, M2, o1, e1, e2, i2⟩ := ok_add BC_ok hi (l := (xs (i + 1)).toInt) (r := (xs (i + 2)).toInt) (lw_iR _) (lw_iR _)
  have o0 := hi.ok
  refine lv_aload_n hx hb dL_law_144 rfl h1 ?_
  refine lw_ld K hS h0 h3 (k := 1) rfl (by omega) dL_law_145 dL_law_146 dL_law_147 dL_law_148 dL_law_149 ?_
  refine lw_ld K hS h0 h3 (k := 2) rfl (by omega) dL_law_150 dL_law_151 dL_law_152 dL_law_153 dL_law_154 ?_
  refine lw_callV K (ci := 11) (r := 1) (q := (z, M1)) (av := [xi ((xs (i + 1)).toInt), xi ((xs (i + 2)).toInt)]) (st := []) hP hS hl.1 dL_law_155 rfl (by decide) (by rw [xk_1 o0]) (S_X11_add l 1 ((xs (i + 1)).toInt) ((xs (i + 2)).toInt) M (z, M1) e1) (cwV 2 hts gL_law_X11_add rfl rfl rfl (by decide +kernel) ⟨Nat.le_of_ble_eq_true rfl, Nat.le_of_ble_eq_true rfl⟩) rfl (Nat.le_of_ble_eq_true rfl) rfl (fun H1 lH1 hPH1 hSH1 => ?_)
  refine lv_aload_n hx hb dL_law_158 rfl h2 ?_
  refine lw_ld K hSH1 h0 h3 (k := 1) rfl (by omega) dL_law_159 dL_law_160 dL_law_161 dL_law_162 dL_law_163 ?_
  refine lw_ld K hSH1 h0 h3 (k := 2) rfl (by omega) dL_law_164 dL_law_165 dL_law_166 dL_law_167 dL_law_168 ?_
  refine lw_callV K (ci := 12) (r := 188) (q := (z, M2)) (av := [xi ((xs (i + 1)).toInt), xi ((xs (i + 2)).toInt)]) (st := [Value.int (Int32.ofInt z)]) hPH1 hSH1 hl.1 dL_law_169 rfl (by decide) (by rw [xk_188 o1]) (S_X12_add l 188 ((xs (i + 1)).toInt) ((xs (i + 2)).toInt) M1 (z, M2) e2) (cwV 2 hts gL_law_X12_add rfl rfl rfl (by decide +kernel) ⟨Nat.le_of_ble_eq_true rfl, Nat.le_of_ble_eq_true rfl⟩) rfl (Nat.le_of_ble_eq_true rfl) rfl (fun H2 lH2 hPH2 hSH2 => ?_)
  refine lv_icmp_eq (tgt := 784) hx hb dL_law_172 (by decide) (fun _ => ?_) (fun q => absurd rfl q)
  exact k M2 H2 lH2 i2 hPH2 hSH2
set_option maxHeartbeats 4000000 in
set_option maxRecDepth 100000 in
theorem lwc_readSpans (K : lw_K p l e s m below meth c b L xs Dm cy bb) {M : xv_M} (hi : INV M) {H : Heap} {locs : List Loc} {ls : Array Slot} {i : Nat} (hiL : i + 2 < L) (hP : va_P Dm vwCl (xv_W bb cy M) H) (hS : va_S (fun q => bb < q) s.heap H locs) (hl : lv_has ls 4 (lw_L b bb i)) {Q : State → Prop} (k : ∀ (M2 : xv_M) (H2 : Heap) (locs2 : List Loc), INV M2 → va_P Dm vwCl (xv_W bb cy M2) H2 → va_S (fun q => bb < q) s.heap H2 locs2 → W p l e room_1 s m #[Value.ref b] below meth c H2 locs2 194 15622 Q (F0 m 784 ls [])) : W p l e room_1 s m #[Value.ref b] below meth c H locs 194 15622 Q (F0 m 177 ls []) := by
  have h0 := lv_at hl 0 rfl
  have h1 := lv_at hl 1 rfl
  have h2 := lv_at hl 2 rfl
  have h3 := lv_at hl 3 rfl
  obtain ⟨hx, hb, hml, hown, hts, hG, hbb, hX, hbl, hL⟩ := id K
  obtain ⟨z, M1, M2, o1, e1, e2, i2⟩ := ok_readSpans BC_ok hi
  have o0 := hi.ok
  refine lv_aload_n hx hb dL_law_177 rfl h1 ?_
  refine lw_callV K (ci := 11) (r := 1) (q := (z, M1)) (av := []) (st := []) hP hS hl.1 dL_law_178 rfl (by decide) (by rw [xk_1 o0]) (S_X11_readSpans l 1 M (z, M1) e1) (cwV 0 hts gL_law_X11_readSpans rfl rfl rfl (by decide +kernel) ⟨Nat.le_of_ble_eq_true rfl, Nat.le_of_ble_eq_true rfl⟩) rfl (Nat.le_of_ble_eq_true rfl) rfl (fun H1 lH1 hPH1 hSH1 => ?_)
  refine lv_aload_n hx hb dL_law_181 rfl h2 ?_
  refine lw_callV K (ci := 12) (r := 188) (q := (z, M2)) (av := []) (st := [Value.int (Int32.ofInt z)]) hPH1 hSH1 hl.1 dL_law_182 rfl (by decide) (by rw [xk_188 o1]) (S_X12_readSpans l 188 M1 (z, M2) e2) (cwV 0 hts gL_law_X12_readSpans rfl rfl rfl (by decide +kernel) ⟨Nat.le_of_ble_eq_true rfl, Nat.le_of_ble_eq_true rfl⟩) rfl (Nat.le_of_ble_eq_true rfl) rfl (fun H2 lH2 hPH2 hSH2 => ?_)
  refine lv_icmp_eq (tgt := 784) hx hb dL_law_185 (by decide) (fun _ => ?_) (fun q => absurd rfl q)
  exact k M2 H2 lH2 i2 hPH2 hSH2
set_option maxHeartbeats 4000000 in
set_option maxRecDepth 100000 in
theorem lwc_remove (K : lw_K p l e s m below meth c b L xs Dm cy bb) {M : xv_M} (hi : INV M) {H : Heap} {locs : List Loc} {ls : Array Slot} {i : Nat} (hiL : i + 2 < L) (hP : va_P Dm vwCl (xv_W bb cy M) H) (hS : va_S (fun q => bb < q) s.heap H locs) (hl : lv_has ls 4 (lw_L b bb i)) {Q : State → Prop} (k : ∀ (M2 : xv_M) (H2 : Heap) (locs2 : List Loc), INV M2 → va_P Dm vwCl (xv_W bb cy M2) H2 → va_S (fun q => bb < q) s.heap H2 locs2 → W p l e room_1 s m #[Value.ref b] below meth c H2 locs2 194 15622 Q (F0 m 784 ls [])) : W p l e room_1 s m #[Value.ref b] below meth c H locs 194 15622 Q (F0 m 190 ls []) := by
  have h0 := lv_at hl 0 rfl
  have h1 := lv_at hl 1 rfl
  have h2 := lv_at hl 2 rfl
  have h3 := lv_at hl 3 rfl
  obtain ⟨hx, hb, hml, hown, hts, hG, hbb, hX, hbl, hL⟩ := id K
  obtain ⟨z, M1, M2, o1, e1, e2, i2⟩ := ok_remove BC_ok hi (x := (xs (i + 1)).toInt) (lw_iR _)
  have o0 := hi.ok
  refine lv_aload_n hx hb dL_law_190 rfl h1 ?_
  refine lw_ld K hS h0 h3 (k := 1) rfl (by omega) dL_law_191 dL_law_192 dL_law_193 dL_law_194 dL_law_195 ?_
  refine lw_callV K (ci := 11) (r := 1) (q := (z, M1)) (av := [xi ((xs (i + 1)).toInt)]) (st := []) hP hS hl.1 dL_law_196 rfl (by decide) (by rw [xk_1 o0]) (S_X11_remove l 1 ((xs (i + 1)).toInt) M (z, M1) e1) (cwV 1 hts gL_law_X11_remove rfl rfl rfl (by decide +kernel) ⟨Nat.le_of_ble_eq_true rfl, Nat.le_of_ble_eq_true rfl⟩) rfl (Nat.le_of_ble_eq_true rfl) rfl (fun H1 lH1 hPH1 hSH1 => ?_)
  refine lv_aload_n hx hb dL_law_199 rfl h2 ?_
  refine lw_ld K hSH1 h0 h3 (k := 1) rfl (by omega) dL_law_200 dL_law_201 dL_law_202 dL_law_203 dL_law_204 ?_
  refine lw_callV K (ci := 12) (r := 188) (q := (z, M2)) (av := [xi ((xs (i + 1)).toInt)]) (st := [Value.int (Int32.ofInt z)]) hPH1 hSH1 hl.1 dL_law_205 rfl (by decide) (by rw [xk_188 o1]) (S_X12_remove l 188 ((xs (i + 1)).toInt) M1 (z, M2) e2) (cwV 1 hts gL_law_X12_remove rfl rfl rfl (by decide +kernel) ⟨Nat.le_of_ble_eq_true rfl, Nat.le_of_ble_eq_true rfl⟩) rfl (Nat.le_of_ble_eq_true rfl) rfl (fun H2 lH2 hPH2 hSH2 => ?_)
  refine lv_icmp_eq (tgt := 784) hx hb dL_law_208 (by decide) (fun _ => ?_) (fun q => absurd rfl q)
  exact k M2 H2 lH2 i2 hPH2 hSH2
set_option maxHeartbeats 4000000 in
set_option maxRecDepth 100000 in
theorem lwc_move (K : lw_K p l e s m below meth c b L xs Dm cy bb) {M : xv_M} (hi : INV M) {H : Heap} {locs : List Loc} {ls : Array Slot} {i : Nat} (hiL : i + 2 < L) (hP : va_P Dm vwCl (xv_W bb cy M) H) (hS : va_S (fun q => bb < q) s.heap H locs) (hl : lv_has ls 4 (lw_L b bb i)) {Q : State → Prop} (k : ∀ (M2 : xv_M) (H2 : Heap) (locs2 : List Loc), INV M2 → va_P Dm vwCl (xv_W bb cy M2) H2 → va_S (fun q => bb < q) s.heap H2 locs2 → W p l e room_1 s m #[Value.ref b] below meth c H2 locs2 194 15622 Q (F0 m 784 ls [])) : W p l e room_1 s m #[Value.ref b] below meth c H locs 194 15622 Q (F0 m 213 ls []) := by
  have h0 := lv_at hl 0 rfl
  have h1 := lv_at hl 1 rfl
  have h2 := lv_at hl 2 rfl
  have h3 := lv_at hl 3 rfl
  obtain ⟨hx, hb, hml, hown, hts, hG, hbb, hX, hbl, hL⟩ := id K
  obtain ⟨z, M1, M2, o1, e1, e2, i2⟩ := ok_move BC_ok hi (x := (xs (i + 1)).toInt) (d := (xs (i + 2)).toInt) (lw_iR _) (lw_iR _)
  have o0 := hi.ok
  refine lv_aload_n hx hb dL_law_213 rfl h1 ?_
  refine lw_ld K hS h0 h3 (k := 1) rfl (by omega) dL_law_214 dL_law_215 dL_law_216 dL_law_217 dL_law_218 ?_
  refine lw_ld K hS h0 h3 (k := 2) rfl (by omega) dL_law_219 dL_law_220 dL_law_221 dL_law_222 dL_law_223 ?_
  refine lw_callV K (ci := 11) (r := 1) (q := (z, M1)) (av := [xi ((xs (i + 1)).toInt), xi ((xs (i + 2)).toInt)]) (st := []) hP hS hl.1 dL_law_224 rfl (by decide) (by rw [xk_1 o0]) (S_X11_move l 1 ((xs (i + 1)).toInt) ((xs (i + 2)).toInt) M (z, M1) e1) (cwV 2 hts gL_law_X11_move rfl rfl rfl (by decide +kernel) ⟨Nat.le_of_ble_eq_true rfl, Nat.le_of_ble_eq_true rfl⟩) rfl (Nat.le_of_ble_eq_true rfl) rfl (fun H1 lH1 hPH1 hSH1 => ?_)
  refine lv_aload_n hx hb dL_law_227 rfl h2 ?_
  refine lw_ld K hSH1 h0 h3 (k := 1) rfl (by omega) dL_law_228 dL_law_229 dL_law_230 dL_law_231 dL_law_232 ?_
  refine lw_ld K hSH1 h0 h3 (k := 2) rfl (by omega) dL_law_233 dL_law_234 dL_law_235 dL_law_236 dL_law_237 ?_
  refine lw_callV K (ci := 12) (r := 188) (q := (z, M2)) (av := [xi ((xs (i + 1)).toInt), xi ((xs (i + 2)).toInt)]) (st := [Value.int (Int32.ofInt z)]) hPH1 hSH1 hl.1 dL_law_238 rfl (by decide) (by rw [xk_188 o1]) (S_X12_move l 188 ((xs (i + 1)).toInt) ((xs (i + 2)).toInt) M1 (z, M2) e2) (cwV 2 hts gL_law_X12_move rfl rfl rfl (by decide +kernel) ⟨Nat.le_of_ble_eq_true rfl, Nat.le_of_ble_eq_true rfl⟩) rfl (Nat.le_of_ble_eq_true rfl) rfl (fun H2 lH2 hPH2 hSH2 => ?_)
  refine lv_icmp_eq (tgt := 784) hx hb dL_law_241 (by decide) (fun _ => ?_) (fun q => absurd rfl q)
  exact k M2 H2 lH2 i2 hPH2 hSH2
set_option maxHeartbeats 4000000 in
set_option maxRecDepth 100000 in
theorem lwc_come (K : lw_K p l e s m below meth c b L xs Dm cy bb) {M : xv_M} (hi : INV M) {H : Heap} {locs : List Loc} {ls : Array Slot} {i : Nat} (hiL : i + 2 < L) (hP : va_P Dm vwCl (xv_W bb cy M) H) (hS : va_S (fun q => bb < q) s.heap H locs) (hl : lv_has ls 4 (lw_L b bb i)) {Q : State → Prop} (k : ∀ (M2 : xv_M) (H2 : Heap) (locs2 : List Loc), INV M2 → va_P Dm vwCl (xv_W bb cy M2) H2 → va_S (fun q => bb < q) s.heap H2 locs2 → W p l e room_1 s m #[Value.ref b] below meth c H2 locs2 194 15622 Q (F0 m 784 ls [])) : W p l e room_1 s m #[Value.ref b] below meth c H locs 194 15622 Q (F0 m 246 ls []) := by
  have h0 := lv_at hl 0 rfl
  have h1 := lv_at hl 1 rfl
  have h2 := lv_at hl 2 rfl
  have h3 := lv_at hl 3 rfl
  obtain ⟨hx, hb, hml, hown, hts, hG, hbb, hX, hbl, hL⟩ := id K
  obtain ⟨z, M1, M2, o1, e1, e2, i2⟩ := ok_come BC_ok hi (p := (xs (i + 1)).toInt) (v := (xs (i + 2)).toInt) (lw_iR _) (lw_iR _)
  have o0 := hi.ok
  refine lv_aload_n hx hb dL_law_246 rfl h1 ?_
  refine lw_ld K hS h0 h3 (k := 1) rfl (by omega) dL_law_247 dL_law_248 dL_law_249 dL_law_250 dL_law_251 ?_
  refine lw_ld K hS h0 h3 (k := 2) rfl (by omega) dL_law_252 dL_law_253 dL_law_254 dL_law_255 dL_law_256 ?_
  refine lw_callV K (ci := 11) (r := 1) (q := (z, M1)) (av := [xi ((xs (i + 1)).toInt), xi ((xs (i + 2)).toInt)]) (st := []) hP hS hl.1 dL_law_257 rfl (by decide) (by rw [xk_1 o0]) (S_X11_come l 1 ((xs (i + 1)).toInt) ((xs (i + 2)).toInt) M (z, M1) e1) (cwV 2 hts gL_law_X11_come rfl rfl rfl (by decide +kernel) ⟨Nat.le_of_ble_eq_true rfl, Nat.le_of_ble_eq_true rfl⟩) rfl (Nat.le_of_ble_eq_true rfl) rfl (fun H1 lH1 hPH1 hSH1 => ?_)
  refine lv_aload_n hx hb dL_law_260 rfl h2 ?_
  refine lw_ld K hSH1 h0 h3 (k := 1) rfl (by omega) dL_law_261 dL_law_262 dL_law_263 dL_law_264 dL_law_265 ?_
  refine lw_ld K hSH1 h0 h3 (k := 2) rfl (by omega) dL_law_266 dL_law_267 dL_law_268 dL_law_269 dL_law_270 ?_
  refine lw_callV K (ci := 12) (r := 188) (q := (z, M2)) (av := [xi ((xs (i + 1)).toInt), xi ((xs (i + 2)).toInt)]) (st := [Value.int (Int32.ofInt z)]) hPH1 hSH1 hl.1 dL_law_271 rfl (by decide) (by rw [xk_188 o1]) (S_X12_come l 188 ((xs (i + 1)).toInt) ((xs (i + 2)).toInt) M1 (z, M2) e2) (cwV 2 hts gL_law_X12_come rfl rfl rfl (by decide +kernel) ⟨Nat.le_of_ble_eq_true rfl, Nat.le_of_ble_eq_true rfl⟩) rfl (Nat.le_of_ble_eq_true rfl) rfl (fun H2 lH2 hPH2 hSH2 => ?_)
  refine lv_icmp_eq (tgt := 784) hx hb dL_law_274 (by decide) (fun _ => ?_) (fun q => absurd rfl q)
  exact k M2 H2 lH2 i2 hPH2 hSH2
set_option maxHeartbeats 4000000 in
set_option maxRecDepth 100000 in
theorem lwc_put (K : lw_K p l e s m below meth c b L xs Dm cy bb) {M : xv_M} (hi : INV M) {H : Heap} {locs : List Loc} {ls : Array Slot} {i : Nat} (hiL : i + 2 < L) (hP : va_P Dm vwCl (xv_W bb cy M) H) (hS : va_S (fun q => bb < q) s.heap H locs) (hl : lv_has ls 4 (lw_L b bb i)) {Q : State → Prop} (k : ∀ (M2 : xv_M) (H2 : Heap) (locs2 : List Loc), INV M2 → va_P Dm vwCl (xv_W bb cy M2) H2 → va_S (fun q => bb < q) s.heap H2 locs2 → W p l e room_1 s m #[Value.ref b] below meth c H2 locs2 194 15622 Q (F0 m 784 ls [])) : W p l e room_1 s m #[Value.ref b] below meth c H locs 194 15622 Q (F0 m 279 ls []) := by
  have h0 := lv_at hl 0 rfl
  have h1 := lv_at hl 1 rfl
  have h2 := lv_at hl 2 rfl
  have h3 := lv_at hl 3 rfl
  obtain ⟨hx, hb, hml, hown, hts, hG, hbb, hX, hbl, hL⟩ := id K
  obtain ⟨z, M1, M2, o1, e1, e2, i2⟩ := ok_put BC_ok hi (x := (xs (i + 1)).toInt) (p := (xs (i + 2)).toInt) (lw_iR _) (lw_iR _)
  have o0 := hi.ok
  refine lv_aload_n hx hb dL_law_279 rfl h1 ?_
  refine lw_ld K hS h0 h3 (k := 1) rfl (by omega) dL_law_280 dL_law_281 dL_law_282 dL_law_283 dL_law_284 ?_
  refine lw_ld K hS h0 h3 (k := 2) rfl (by omega) dL_law_285 dL_law_286 dL_law_287 dL_law_288 dL_law_289 ?_
  refine lw_callV K (ci := 11) (r := 1) (q := (z, M1)) (av := [xi ((xs (i + 1)).toInt), xi ((xs (i + 2)).toInt)]) (st := []) hP hS hl.1 dL_law_290 rfl (by decide) (by rw [xk_1 o0]) (S_X11_put l 1 ((xs (i + 1)).toInt) ((xs (i + 2)).toInt) M (z, M1) e1) (cwV 2 hts gL_law_X11_put rfl rfl rfl (by decide +kernel) ⟨Nat.le_of_ble_eq_true rfl, Nat.le_of_ble_eq_true rfl⟩) rfl (Nat.le_of_ble_eq_true rfl) rfl (fun H1 lH1 hPH1 hSH1 => ?_)
  refine lv_aload_n hx hb dL_law_293 rfl h2 ?_
  refine lw_ld K hSH1 h0 h3 (k := 1) rfl (by omega) dL_law_294 dL_law_295 dL_law_296 dL_law_297 dL_law_298 ?_
  refine lw_ld K hSH1 h0 h3 (k := 2) rfl (by omega) dL_law_299 dL_law_300 dL_law_301 dL_law_302 dL_law_303 ?_
  refine lw_callV K (ci := 12) (r := 188) (q := (z, M2)) (av := [xi ((xs (i + 1)).toInt), xi ((xs (i + 2)).toInt)]) (st := [Value.int (Int32.ofInt z)]) hPH1 hSH1 hl.1 dL_law_304 rfl (by decide) (by rw [xk_188 o1]) (S_X12_put l 188 ((xs (i + 1)).toInt) ((xs (i + 2)).toInt) M1 (z, M2) e2) (cwV 2 hts gL_law_X12_put rfl rfl rfl (by decide +kernel) ⟨Nat.le_of_ble_eq_true rfl, Nat.le_of_ble_eq_true rfl⟩) rfl (Nat.le_of_ble_eq_true rfl) rfl (fun H2 lH2 hPH2 hSH2 => ?_)
  refine lv_icmp_eq (tgt := 784) hx hb dL_law_307 (by decide) (fun _ => ?_) (fun q => absurd rfl q)
  exact k M2 H2 lH2 i2 hPH2 hSH2
set_option maxHeartbeats 4000000 in
set_option maxRecDepth 100000 in
theorem lwc_speed (K : lw_K p l e s m below meth c b L xs Dm cy bb) {M : xv_M} (hi : INV M) {H : Heap} {locs : List Loc} {ls : Array Slot} {i : Nat} (hiL : i + 2 < L) (hP : va_P Dm vwCl (xv_W bb cy M) H) (hS : va_S (fun q => bb < q) s.heap H locs) (hl : lv_has ls 4 (lw_L b bb i)) {Q : State → Prop} (k : ∀ (M2 : xv_M) (H2 : Heap) (locs2 : List Loc), INV M2 → va_P Dm vwCl (xv_W bb cy M2) H2 → va_S (fun q => bb < q) s.heap H2 locs2 → W p l e room_1 s m #[Value.ref b] below meth c H2 locs2 194 15622 Q (F0 m 784 ls [])) : W p l e room_1 s m #[Value.ref b] below meth c H locs 194 15622 Q (F0 m 312 ls []) := by
  have h0 := lv_at hl 0 rfl
  have h1 := lv_at hl 1 rfl
  have h2 := lv_at hl 2 rfl
  have h3 := lv_at hl 3 rfl
  obtain ⟨hx, hb, hml, hown, hts, hG, hbb, hX, hbl, hL⟩ := id K
  obtain ⟨z, M1, M2, o1, e1, e2, i2⟩ := ok_speed hi (x := (xs (i + 1)).toInt) (v := (xs (i + 2)).toInt) (lw_iR _) (lw_iR _)
  have o0 := hi.ok
  refine lv_aload_n hx hb dL_law_312 rfl h1 ?_
  refine lw_ld K hS h0 h3 (k := 1) rfl (by omega) dL_law_313 dL_law_314 dL_law_315 dL_law_316 dL_law_317 ?_
  refine lw_ld K hS h0 h3 (k := 2) rfl (by omega) dL_law_318 dL_law_319 dL_law_320 dL_law_321 dL_law_322 ?_
  refine lw_callV K (ci := 11) (r := 1) (q := (z, M1)) (av := [xi ((xs (i + 1)).toInt), xi ((xs (i + 2)).toInt)]) (st := []) hP hS hl.1 dL_law_323 rfl (by decide) (by rw [xk_1 o0]) (S_X11_speed l 1 ((xs (i + 1)).toInt) ((xs (i + 2)).toInt) M (z, M1) e1) (cwV 2 hts gL_law_X11_speed rfl rfl rfl (by decide +kernel) ⟨Nat.le_of_ble_eq_true rfl, Nat.le_of_ble_eq_true rfl⟩) rfl (Nat.le_of_ble_eq_true rfl) rfl (fun H1 lH1 hPH1 hSH1 => ?_)
  refine lv_aload_n hx hb dL_law_326 rfl h2 ?_
  refine lw_ld K hSH1 h0 h3 (k := 1) rfl (by omega) dL_law_327 dL_law_328 dL_law_329 dL_law_330 dL_law_331 ?_
  refine lw_ld K hSH1 h0 h3 (k := 2) rfl (by omega) dL_law_332 dL_law_333 dL_law_334 dL_law_335 dL_law_336 ?_
  refine lw_callV K (ci := 12) (r := 188) (q := (z, M2)) (av := [xi ((xs (i + 1)).toInt), xi ((xs (i + 2)).toInt)]) (st := [Value.int (Int32.ofInt z)]) hPH1 hSH1 hl.1 dL_law_337 rfl (by decide) (by rw [xk_188 o1]) (S_X12_speed l 188 ((xs (i + 1)).toInt) ((xs (i + 2)).toInt) M1 (z, M2) e2) (cwV 2 hts gL_law_X12_speed rfl rfl rfl (by decide +kernel) ⟨Nat.le_of_ble_eq_true rfl, Nat.le_of_ble_eq_true rfl⟩) rfl (Nat.le_of_ble_eq_true rfl) rfl (fun H2 lH2 hPH2 hSH2 => ?_)
  refine lv_icmp_eq (tgt := 784) hx hb dL_law_340 (by decide) (fun _ => ?_) (fun q => absurd rfl q)
  exact k M2 H2 lH2 i2 hPH2 hSH2
set_option maxHeartbeats 4000000 in
set_option maxRecDepth 100000 in
theorem lwc_pass (K : lw_K p l e s m below meth c b L xs Dm cy bb) {M : xv_M} (hi : INV M) {H : Heap} {locs : List Loc} {ls : Array Slot} {i : Nat} (hiL : i + 2 < L) (hP : va_P Dm vwCl (xv_W bb cy M) H) (hS : va_S (fun q => bb < q) s.heap H locs) (hl : lv_has ls 4 (lw_L b bb i)) {Q : State → Prop} (k : ∀ (M2 : xv_M) (H2 : Heap) (locs2 : List Loc), INV M2 → va_P Dm vwCl (xv_W bb cy M2) H2 → va_S (fun q => bb < q) s.heap H2 locs2 → W p l e room_1 s m #[Value.ref b] below meth c H2 locs2 194 15622 Q (F0 m 784 ls [])) : W p l e room_1 s m #[Value.ref b] below meth c H locs 194 15622 Q (F0 m 345 ls []) := by
  have h0 := lv_at hl 0 rfl
  have h1 := lv_at hl 1 rfl
  have h2 := lv_at hl 2 rfl
  have h3 := lv_at hl 3 rfl
  obtain ⟨hx, hb, hml, hown, hts, hG, hbb, hX, hbl, hL⟩ := id K
  obtain ⟨z, M1, M2, o1, e1, e2, i2⟩ := ok_pass BC_ok hi (n := (xs (i + 1)).toInt) (lw_iR _)
  have o0 := hi.ok
  refine lv_aload_n hx hb dL_law_345 rfl h1 ?_
  refine lw_ld K hS h0 h3 (k := 1) rfl (by omega) dL_law_346 dL_law_347 dL_law_348 dL_law_349 dL_law_350 ?_
  refine lw_callV K (ci := 11) (r := 1) (q := (z, M1)) (av := [xi ((xs (i + 1)).toInt)]) (st := []) hP hS hl.1 dL_law_351 rfl (by decide) (by rw [xk_1 o0]) (S_X11_pass l 1 ((xs (i + 1)).toInt) M (z, M1) e1) (cwV 1 hts gL_law_X11_pass rfl rfl rfl (by decide +kernel) ⟨Nat.le_of_ble_eq_true rfl, Nat.le_of_ble_eq_true rfl⟩) rfl (Nat.le_of_ble_eq_true rfl) rfl (fun H1 lH1 hPH1 hSH1 => ?_)
  refine lv_aload_n hx hb dL_law_354 rfl h2 ?_
  refine lw_ld K hSH1 h0 h3 (k := 1) rfl (by omega) dL_law_355 dL_law_356 dL_law_357 dL_law_358 dL_law_359 ?_
  refine lw_callV K (ci := 12) (r := 188) (q := (z, M2)) (av := [xi ((xs (i + 1)).toInt)]) (st := [Value.int (Int32.ofInt z)]) hPH1 hSH1 hl.1 dL_law_360 rfl (by decide) (by rw [xk_188 o1]) (S_X12_pass l 188 ((xs (i + 1)).toInt) M1 (z, M2) e2) (cwV 1 hts gL_law_X12_pass rfl rfl rfl (by decide +kernel) ⟨Nat.le_of_ble_eq_true rfl, Nat.le_of_ble_eq_true rfl⟩) rfl (Nat.le_of_ble_eq_true rfl) rfl (fun H2 lH2 hPH2 hSH2 => ?_)
  refine lv_icmp_eq (tgt := 784) hx hb dL_law_363 (by decide) (fun _ => ?_) (fun q => absurd rfl q)
  exact k M2 H2 lH2 i2 hPH2 hSH2
set_option maxHeartbeats 4000000 in
set_option maxRecDepth 100000 in
theorem lwc_type (K : lw_K p l e s m below meth c b L xs Dm cy bb) {M : xv_M} (hi : INV M) {H : Heap} {locs : List Loc} {ls : Array Slot} {i : Nat} (hiL : i + 2 < L) (hP : va_P Dm vwCl (xv_W bb cy M) H) (hS : va_S (fun q => bb < q) s.heap H locs) (hl : lv_has ls 4 (lw_L b bb i)) {Q : State → Prop} (k : ∀ (M2 : xv_M) (H2 : Heap) (locs2 : List Loc), INV M2 → va_P Dm vwCl (xv_W bb cy M2) H2 → va_S (fun q => bb < q) s.heap H2 locs2 → W p l e room_1 s m #[Value.ref b] below meth c H2 locs2 194 15622 Q (F0 m 784 ls [])) : W p l e room_1 s m #[Value.ref b] below meth c H locs 194 15622 Q (F0 m 368 ls []) := by
  have h0 := lv_at hl 0 rfl
  have h1 := lv_at hl 1 rfl
  have h2 := lv_at hl 2 rfl
  have h3 := lv_at hl 3 rfl
  obtain ⟨hx, hb, hml, hown, hts, hG, hbb, hX, hbl, hL⟩ := id K
  obtain ⟨cw, hcw, ecw⟩ := lw_i2c (xs (i + 1))
  obtain ⟨z, M1, M2, o1, e1, e2, i2⟩ := ok_type hi (c := (cw : Int)) (by omega)
  have o0 := hi.ok
  refine lv_aload_n hx hb dL_law_368 rfl h1 ?_
  refine lw_ld K hS h0 h3 (k := 1) rfl (by omega) dL_law_369 dL_law_370 dL_law_371 dL_law_372 dL_law_373 ?_
  refine lv_i2c (v := Int32.ofInt (cw : Int)) hx hb dL_law_374 (by rw [Int32.ofInt_toInt]; exact ecw) ?_
  refine lw_callV K (ci := 11) (r := 1) (q := (z, M1)) (av := [xi (cw : Int)]) (st := []) hP hS hl.1 dL_law_375 rfl (by decide) (by rw [xk_1 o0]) (S_X11_type l 1 (cw : Int) M (z, M1) e1) (cwV 1 hts gL_law_X11_type rfl rfl rfl (by decide +kernel) ⟨Nat.le_of_ble_eq_true rfl, Nat.le_of_ble_eq_true rfl⟩) rfl (Nat.le_of_ble_eq_true rfl) rfl (fun H1 lH1 hPH1 hSH1 => ?_)
  refine lv_aload_n hx hb dL_law_378 rfl h2 ?_
  refine lw_ld K hSH1 h0 h3 (k := 1) rfl (by omega) dL_law_379 dL_law_380 dL_law_381 dL_law_382 dL_law_383 ?_
  refine lv_i2c (v := Int32.ofInt (cw : Int)) hx hb dL_law_384 (by rw [Int32.ofInt_toInt]; exact ecw) ?_
  refine lw_callV K (ci := 12) (r := 188) (q := (z, M2)) (av := [xi (cw : Int)]) (st := [Value.int (Int32.ofInt z)]) hPH1 hSH1 hl.1 dL_law_385 rfl (by decide) (by rw [xk_188 o1]) (S_X12_type l 188 (cw : Int) M1 (z, M2) e2) (cwV 1 hts gL_law_X12_type rfl rfl rfl (by decide +kernel) ⟨Nat.le_of_ble_eq_true rfl, Nat.le_of_ble_eq_true rfl⟩) rfl (Nat.le_of_ble_eq_true rfl) rfl (fun H2 lH2 hPH2 hSH2 => ?_)
  refine lv_icmp_eq (tgt := 784) hx hb dL_law_388 (by decide) (fun _ => ?_) (fun q => absurd rfl q)
  exact k M2 H2 lH2 i2 hPH2 hSH2
set_option maxHeartbeats 4000000 in
set_option maxRecDepth 100000 in
theorem lwc_clearText (K : lw_K p l e s m below meth c b L xs Dm cy bb) {M : xv_M} (hi : INV M) {H : Heap} {locs : List Loc} {ls : Array Slot} {i : Nat} (hiL : i + 2 < L) (hP : va_P Dm vwCl (xv_W bb cy M) H) (hS : va_S (fun q => bb < q) s.heap H locs) (hl : lv_has ls 4 (lw_L b bb i)) {Q : State → Prop} (k : ∀ (M2 : xv_M) (H2 : Heap) (locs2 : List Loc), INV M2 → va_P Dm vwCl (xv_W bb cy M2) H2 → va_S (fun q => bb < q) s.heap H2 locs2 → W p l e room_1 s m #[Value.ref b] below meth c H2 locs2 194 15622 Q (F0 m 784 ls [])) : W p l e room_1 s m #[Value.ref b] below meth c H locs 194 15622 Q (F0 m 393 ls []) := by
  have h0 := lv_at hl 0 rfl
  have h1 := lv_at hl 1 rfl
  have h2 := lv_at hl 2 rfl
  have h3 := lv_at hl 3 rfl
  obtain ⟨hx, hb, hml, hown, hts, hG, hbb, hX, hbl, hL⟩ := id K
  obtain ⟨z, M1, M2, o1, e1, e2, i2⟩ := ok_clearText hi
  have o0 := hi.ok
  refine lv_aload_n hx hb dL_law_393 rfl h1 ?_
  refine lw_callV K (ci := 11) (r := 1) (q := (z, M1)) (av := []) (st := []) hP hS hl.1 dL_law_394 rfl (by decide) (by rw [xk_1 o0]) (S_X11_clearText l 1 M (z, M1) e1) (cwV 0 hts gL_law_X11_clearText rfl rfl rfl (by decide +kernel) ⟨Nat.le_of_ble_eq_true rfl, Nat.le_of_ble_eq_true rfl⟩) rfl (Nat.le_of_ble_eq_true rfl) rfl (fun H1 lH1 hPH1 hSH1 => ?_)
  refine lv_aload_n hx hb dL_law_397 rfl h2 ?_
  refine lw_callV K (ci := 12) (r := 188) (q := (z, M2)) (av := []) (st := [Value.int (Int32.ofInt z)]) hPH1 hSH1 hl.1 dL_law_398 rfl (by decide) (by rw [xk_188 o1]) (S_X12_clearText l 188 M1 (z, M2) e2) (cwV 0 hts gL_law_X12_clearText rfl rfl rfl (by decide +kernel) ⟨Nat.le_of_ble_eq_true rfl, Nat.le_of_ble_eq_true rfl⟩) rfl (Nat.le_of_ble_eq_true rfl) rfl (fun H2 lH2 hPH2 hSH2 => ?_)
  refine lv_icmp_eq (tgt := 784) hx hb dL_law_401 (by decide) (fun _ => ?_) (fun q => absurd rfl q)
  exact k M2 H2 lH2 i2 hPH2 hSH2
set_option maxHeartbeats 4000000 in
set_option maxRecDepth 100000 in
theorem lwc_undo (K : lw_K p l e s m below meth c b L xs Dm cy bb) {M : xv_M} (hi : INV M) {H : Heap} {locs : List Loc} {ls : Array Slot} {i : Nat} (hiL : i + 2 < L) (hP : va_P Dm vwCl (xv_W bb cy M) H) (hS : va_S (fun q => bb < q) s.heap H locs) (hl : lv_has ls 4 (lw_L b bb i)) {Q : State → Prop} (k : ∀ (M2 : xv_M) (H2 : Heap) (locs2 : List Loc), INV M2 → va_P Dm vwCl (xv_W bb cy M2) H2 → va_S (fun q => bb < q) s.heap H2 locs2 → W p l e room_1 s m #[Value.ref b] below meth c H2 locs2 194 15622 Q (F0 m 784 ls [])) : W p l e room_1 s m #[Value.ref b] below meth c H locs 194 15622 Q (F0 m 406 ls []) := by
  have h0 := lv_at hl 0 rfl
  have h1 := lv_at hl 1 rfl
  have h2 := lv_at hl 2 rfl
  have h3 := lv_at hl 3 rfl
  obtain ⟨hx, hb, hml, hown, hts, hG, hbb, hX, hbl, hL⟩ := id K
  obtain ⟨z, M1, M2, o1, e1, e2, i2⟩ := ok_undo hi
  have o0 := hi.ok
  refine lv_aload_n hx hb dL_law_406 rfl h1 ?_
  refine lw_callV K (ci := 11) (r := 1) (q := (z, M1)) (av := []) (st := []) hP hS hl.1 dL_law_407 rfl (by decide) (by rw [xk_1 o0]) (S_X11_undo l 1 M (z, M1) e1) (cwV 0 hts gL_law_X11_undo rfl rfl rfl (by decide +kernel) ⟨Nat.le_of_ble_eq_true rfl, Nat.le_of_ble_eq_true rfl⟩) rfl (Nat.le_of_ble_eq_true rfl) rfl (fun H1 lH1 hPH1 hSH1 => ?_)
  refine lv_aload_n hx hb dL_law_410 rfl h2 ?_
  refine lw_callV K (ci := 12) (r := 188) (q := (z, M2)) (av := []) (st := [Value.int (Int32.ofInt z)]) hPH1 hSH1 hl.1 dL_law_411 rfl (by decide) (by rw [xk_188 o1]) (S_X12_undo l 188 M1 (z, M2) e2) (cwV 0 hts gL_law_X12_undo rfl rfl rfl (by decide +kernel) ⟨Nat.le_of_ble_eq_true rfl, Nat.le_of_ble_eq_true rfl⟩) rfl (Nat.le_of_ble_eq_true rfl) rfl (fun H2 lH2 hPH2 hSH2 => ?_)
  refine lv_icmp_eq (tgt := 784) hx hb dL_law_414 (by decide) (fun _ => ?_) (fun q => absurd rfl q)
  exact k M2 H2 lH2 i2 hPH2 hSH2
set_option maxHeartbeats 4000000 in
set_option maxRecDepth 100000 in
theorem lwc_keep (K : lw_K p l e s m below meth c b L xs Dm cy bb) {M : xv_M} (hi : INV M) {H : Heap} {locs : List Loc} {ls : Array Slot} {i : Nat} (hiL : i + 2 < L) (hP : va_P Dm vwCl (xv_W bb cy M) H) (hS : va_S (fun q => bb < q) s.heap H locs) (hl : lv_has ls 4 (lw_L b bb i)) {Q : State → Prop} (k : ∀ (M2 : xv_M) (H2 : Heap) (locs2 : List Loc), INV M2 → va_P Dm vwCl (xv_W bb cy M2) H2 → va_S (fun q => bb < q) s.heap H2 locs2 → W p l e room_1 s m #[Value.ref b] below meth c H2 locs2 194 15622 Q (F0 m 784 ls [])) : W p l e room_1 s m #[Value.ref b] below meth c H locs 194 15622 Q (F0 m 419 ls []) := by
  have h0 := lv_at hl 0 rfl
  have h1 := lv_at hl 1 rfl
  have h2 := lv_at hl 2 rfl
  have h3 := lv_at hl 3 rfl
  obtain ⟨hx, hb, hml, hown, hts, hG, hbb, hX, hbl, hL⟩ := id K
  obtain ⟨z, M1, M2, o1, e1, e2, i2⟩ := ok_keep BC_ok hi
  have o0 := hi.ok
  refine lv_aload_n hx hb dL_law_419 rfl h1 ?_
  refine lw_callV K (ci := 11) (r := 1) (q := (z, M1)) (av := []) (st := []) hP hS hl.1 dL_law_420 rfl (by decide) (by rw [xk_1 o0]) (S_X11_keep l 1 M (z, M1) e1) (cwV 0 hts gL_law_X11_keep rfl rfl rfl (by decide +kernel) ⟨Nat.le_of_ble_eq_true rfl, Nat.le_of_ble_eq_true rfl⟩) rfl (Nat.le_of_ble_eq_true rfl) rfl (fun H1 lH1 hPH1 hSH1 => ?_)
  refine lv_aload_n hx hb dL_law_423 rfl h2 ?_
  refine lw_callV K (ci := 12) (r := 188) (q := (z, M2)) (av := []) (st := [Value.int (Int32.ofInt z)]) hPH1 hSH1 hl.1 dL_law_424 rfl (by decide) (by rw [xk_188 o1]) (S_X12_keep l 188 M1 (z, M2) e2) (cwV 0 hts gL_law_X12_keep rfl rfl rfl (by decide +kernel) ⟨Nat.le_of_ble_eq_true rfl, Nat.le_of_ble_eq_true rfl⟩) rfl (Nat.le_of_ble_eq_true rfl) rfl (fun H2 lH2 hPH2 hSH2 => ?_)
  refine lv_icmp_eq (tgt := 784) hx hb dL_law_427 (by decide) (fun _ => ?_) (fun q => absurd rfl q)
  exact k M2 H2 lH2 i2 hPH2 hSH2
set_option maxHeartbeats 4000000 in
set_option maxRecDepth 100000 in
theorem lwc_restore (K : lw_K p l e s m below meth c b L xs Dm cy bb) {M : xv_M} (hi : INV M) {H : Heap} {locs : List Loc} {ls : Array Slot} {i : Nat} (hiL : i + 2 < L) (hP : va_P Dm vwCl (xv_W bb cy M) H) (hS : va_S (fun q => bb < q) s.heap H locs) (hl : lv_has ls 4 (lw_L b bb i)) {Q : State → Prop} (k : ∀ (M2 : xv_M) (H2 : Heap) (locs2 : List Loc), INV M2 → va_P Dm vwCl (xv_W bb cy M2) H2 → va_S (fun q => bb < q) s.heap H2 locs2 → W p l e room_1 s m #[Value.ref b] below meth c H2 locs2 194 15622 Q (F0 m 784 ls [])) : W p l e room_1 s m #[Value.ref b] below meth c H locs 194 15622 Q (F0 m 432 ls []) := by
  have h0 := lv_at hl 0 rfl
  have h1 := lv_at hl 1 rfl
  have h2 := lv_at hl 2 rfl
  have h3 := lv_at hl 3 rfl
  obtain ⟨hx, hb, hml, hown, hts, hG, hbb, hX, hbl, hL⟩ := id K
  obtain ⟨z, M1, M2, o1, e1, e2, i2⟩ := ok_restore BC_ok hi
  have o0 := hi.ok
  refine lv_aload_n hx hb dL_law_432 rfl h1 ?_
  refine lw_callV K (ci := 11) (r := 1) (q := (z, M1)) (av := []) (st := []) hP hS hl.1 dL_law_433 rfl (by decide) (by rw [xk_1 o0]) (S_X11_restore l 1 M (z, M1) e1) (cwV 0 hts gL_law_X11_restore rfl rfl rfl (by decide +kernel) ⟨Nat.le_of_ble_eq_true rfl, Nat.le_of_ble_eq_true rfl⟩) rfl (Nat.le_of_ble_eq_true rfl) rfl (fun H1 lH1 hPH1 hSH1 => ?_)
  refine lv_aload_n hx hb dL_law_436 rfl h2 ?_
  refine lw_callV K (ci := 12) (r := 188) (q := (z, M2)) (av := []) (st := [Value.int (Int32.ofInt z)]) hPH1 hSH1 hl.1 dL_law_437 rfl (by decide) (by rw [xk_188 o1]) (S_X12_restore l 188 M1 (z, M2) e2) (cwV 0 hts gL_law_X12_restore rfl rfl rfl (by decide +kernel) ⟨Nat.le_of_ble_eq_true rfl, Nat.le_of_ble_eq_true rfl⟩) rfl (Nat.le_of_ble_eq_true rfl) rfl (fun H2 lH2 hPH2 hSH2 => ?_)
  refine lv_icmp_eq (tgt := 784) hx hb dL_law_440 (by decide) (fun _ => ?_) (fun q => absurd rfl q)
  exact k M2 H2 lH2 i2 hPH2 hSH2
set_option maxHeartbeats 4000000 in
set_option maxRecDepth 100000 in
theorem lwc_span (K : lw_K p l e s m below meth c b L xs Dm cy bb) {M : xv_M} (hi : INV M) {H : Heap} {locs : List Loc} {ls : Array Slot} {i : Nat} (hiL : i + 2 < L) (hP : va_P Dm vwCl (xv_W bb cy M) H) (hS : va_S (fun q => bb < q) s.heap H locs) (hl : lv_has ls 4 (lw_L b bb i)) {Q : State → Prop} (k : ∀ (M2 : xv_M) (H2 : Heap) (locs2 : List Loc), INV M2 → va_P Dm vwCl (xv_W bb cy M2) H2 → va_S (fun q => bb < q) s.heap H2 locs2 → W p l e room_1 s m #[Value.ref b] below meth c H2 locs2 194 15622 Q (F0 m 784 ls [])) : W p l e room_1 s m #[Value.ref b] below meth c H locs 194 15622 Q (F0 m 445 ls []) := by
  have h0 := lv_at hl 0 rfl
  have h1 := lv_at hl 1 rfl
  have h2 := lv_at hl 2 rfl
  have h3 := lv_at hl 3 rfl
  obtain ⟨hx, hb, hml, hown, hts, hG, hbb, hX, hbl, hL⟩ := id K
  obtain ⟨z, M1, M2, o1, e1, e2, i2⟩ := ok_span hi (x := (xs (i + 1)).toInt) (t := (xs (i + 2)).toInt) (lw_iR _) (lw_iR _)
  have o0 := hi.ok
  refine lv_aload_n hx hb dL_law_445 rfl h1 ?_
  refine lw_ld K hS h0 h3 (k := 1) rfl (by omega) dL_law_446 dL_law_447 dL_law_448 dL_law_449 dL_law_450 ?_
  refine lw_ld K hS h0 h3 (k := 2) rfl (by omega) dL_law_451 dL_law_452 dL_law_453 dL_law_454 dL_law_455 ?_
  refine lw_callV K (ci := 11) (r := 1) (q := (z, M1)) (av := [xi ((xs (i + 1)).toInt), xi ((xs (i + 2)).toInt)]) (st := []) hP hS hl.1 dL_law_456 rfl (by decide) (by rw [xk_1 o0]) (S_X11_span l 1 ((xs (i + 1)).toInt) ((xs (i + 2)).toInt) M (z, M1) e1) (cwV 2 hts gL_law_X11_span rfl rfl rfl (by decide +kernel) ⟨Nat.le_of_ble_eq_true rfl, Nat.le_of_ble_eq_true rfl⟩) rfl (Nat.le_of_ble_eq_true rfl) rfl (fun H1 lH1 hPH1 hSH1 => ?_)
  refine lv_aload_n hx hb dL_law_459 rfl h2 ?_
  refine lw_ld K hSH1 h0 h3 (k := 1) rfl (by omega) dL_law_460 dL_law_461 dL_law_462 dL_law_463 dL_law_464 ?_
  refine lw_ld K hSH1 h0 h3 (k := 2) rfl (by omega) dL_law_465 dL_law_466 dL_law_467 dL_law_468 dL_law_469 ?_
  refine lw_callV K (ci := 12) (r := 188) (q := (z, M2)) (av := [xi ((xs (i + 1)).toInt), xi ((xs (i + 2)).toInt)]) (st := [Value.int (Int32.ofInt z)]) hPH1 hSH1 hl.1 dL_law_470 rfl (by decide) (by rw [xk_188 o1]) (S_X12_span l 188 ((xs (i + 1)).toInt) ((xs (i + 2)).toInt) M1 (z, M2) e2) (cwV 2 hts gL_law_X12_span rfl rfl rfl (by decide +kernel) ⟨Nat.le_of_ble_eq_true rfl, Nat.le_of_ble_eq_true rfl⟩) rfl (Nat.le_of_ble_eq_true rfl) rfl (fun H2 lH2 hPH2 hSH2 => ?_)
  refine lv_icmp_eq (tgt := 784) hx hb dL_law_473 (by decide) (fun _ => ?_) (fun q => absurd rfl q)
  exact k M2 H2 lH2 i2 hPH2 hSH2
set_option maxHeartbeats 4000000 in
set_option maxRecDepth 100000 in
theorem lwc_walker (K : lw_K p l e s m below meth c b L xs Dm cy bb) {M : xv_M} (hi : INV M) {H : Heap} {locs : List Loc} {ls : Array Slot} {i : Nat} (hiL : i + 2 < L) (hP : va_P Dm vwCl (xv_W bb cy M) H) (hS : va_S (fun q => bb < q) s.heap H locs) (hl : lv_has ls 4 (lw_L b bb i)) {Q : State → Prop} (k : ∀ (M2 : xv_M) (H2 : Heap) (locs2 : List Loc), INV M2 → va_P Dm vwCl (xv_W bb cy M2) H2 → va_S (fun q => bb < q) s.heap H2 locs2 → W p l e room_1 s m #[Value.ref b] below meth c H2 locs2 194 15622 Q (F0 m 784 ls [])) : W p l e room_1 s m #[Value.ref b] below meth c H locs 194 15622 Q (F0 m 478 ls []) := by
  have h0 := lv_at hl 0 rfl
  have h1 := lv_at hl 1 rfl
  have h2 := lv_at hl 2 rfl
  have h3 := lv_at hl 3 rfl
  obtain ⟨hx, hb, hml, hown, hts, hG, hbb, hX, hbl, hL⟩ := id K
  obtain ⟨z, M1, M2, o1, e1, e2, i2⟩ := ok_walker BC_ok hi (x := (xs (i + 1)).toInt) (t := (xs (i + 2)).toInt) (lw_iR _) (lw_iR _)
  have o0 := hi.ok
  refine lv_aload_n hx hb dL_law_478 rfl h1 ?_
  refine lw_ld K hS h0 h3 (k := 1) rfl (by omega) dL_law_479 dL_law_480 dL_law_481 dL_law_482 dL_law_483 ?_
  refine lw_ld K hS h0 h3 (k := 2) rfl (by omega) dL_law_484 dL_law_485 dL_law_486 dL_law_487 dL_law_488 ?_
  refine lw_callV K (ci := 11) (r := 1) (q := (z, M1)) (av := [xi ((xs (i + 1)).toInt), xi ((xs (i + 2)).toInt)]) (st := []) hP hS hl.1 dL_law_489 rfl (by decide) (by rw [xk_1 o0]) (S_X11_walker l 1 ((xs (i + 1)).toInt) ((xs (i + 2)).toInt) M (z, M1) e1) (cwV 2 hts gL_law_X11_walker rfl rfl rfl (by decide +kernel) ⟨Nat.le_of_ble_eq_true rfl, Nat.le_of_ble_eq_true rfl⟩) rfl (Nat.le_of_ble_eq_true rfl) rfl (fun H1 lH1 hPH1 hSH1 => ?_)
  refine lv_aload_n hx hb dL_law_492 rfl h2 ?_
  refine lw_ld K hSH1 h0 h3 (k := 1) rfl (by omega) dL_law_493 dL_law_494 dL_law_495 dL_law_496 dL_law_497 ?_
  refine lw_ld K hSH1 h0 h3 (k := 2) rfl (by omega) dL_law_498 dL_law_499 dL_law_500 dL_law_501 dL_law_502 ?_
  refine lw_callV K (ci := 12) (r := 188) (q := (z, M2)) (av := [xi ((xs (i + 1)).toInt), xi ((xs (i + 2)).toInt)]) (st := [Value.int (Int32.ofInt z)]) hPH1 hSH1 hl.1 dL_law_503 rfl (by decide) (by rw [xk_188 o1]) (S_X12_walker l 188 ((xs (i + 1)).toInt) ((xs (i + 2)).toInt) M1 (z, M2) e2) (cwV 2 hts gL_law_X12_walker rfl rfl rfl (by decide +kernel) ⟨Nat.le_of_ble_eq_true rfl, Nat.le_of_ble_eq_true rfl⟩) rfl (Nat.le_of_ble_eq_true rfl) rfl (fun H2 lH2 hPH2 hSH2 => ?_)
  refine lv_icmp_eq (tgt := 784) hx hb dL_law_506 (by decide) (fun _ => ?_) (fun q => absurd rfl q)
  exact k M2 H2 lH2 i2 hPH2 hSH2
set_option maxHeartbeats 4000000 in
set_option maxRecDepth 100000 in
theorem lwc_inside (K : lw_K p l e s m below meth c b L xs Dm cy bb) {M : xv_M} (hi : INV M) {H : Heap} {locs : List Loc} {ls : Array Slot} {i : Nat} (hiL : i + 2 < L) (hP : va_P Dm vwCl (xv_W bb cy M) H) (hS : va_S (fun q => bb < q) s.heap H locs) (hl : lv_has ls 4 (lw_L b bb i)) {Q : State → Prop} (k : ∀ (M2 : xv_M) (H2 : Heap) (locs2 : List Loc), INV M2 → va_P Dm vwCl (xv_W bb cy M2) H2 → va_S (fun q => bb < q) s.heap H2 locs2 → W p l e room_1 s m #[Value.ref b] below meth c H2 locs2 194 15622 Q (F0 m 784 ls [])) : W p l e room_1 s m #[Value.ref b] below meth c H locs 194 15622 Q (F0 m 511 ls []) := by
  have h0 := lv_at hl 0 rfl
  have h1 := lv_at hl 1 rfl
  have h2 := lv_at hl 2 rfl
  have h3 := lv_at hl 3 rfl
  obtain ⟨hx, hb, hml, hown, hts, hG, hbb, hX, hbl, hL⟩ := id K
  obtain ⟨z, M1, M2, o1, e1, e2, i2⟩ := ok_inside hi (x := (xs (i + 1)).toInt) (l := (xs (i + 2)).toInt) (lw_iR _) (lw_iR _)
  have o0 := hi.ok
  refine lv_aload_n hx hb dL_law_511 rfl h1 ?_
  refine lw_ld K hS h0 h3 (k := 1) rfl (by omega) dL_law_512 dL_law_513 dL_law_514 dL_law_515 dL_law_516 ?_
  refine lw_ld K hS h0 h3 (k := 2) rfl (by omega) dL_law_517 dL_law_518 dL_law_519 dL_law_520 dL_law_521 ?_
  refine lw_callV K (ci := 11) (r := 1) (q := (z, M1)) (av := [xi ((xs (i + 1)).toInt), xi ((xs (i + 2)).toInt)]) (st := []) hP hS hl.1 dL_law_522 rfl (by decide) (by rw [xk_1 o0]) (S_X11_inside l 1 ((xs (i + 1)).toInt) ((xs (i + 2)).toInt) M (z, M1) e1) (cwV 2 hts gL_law_X11_inside rfl rfl rfl (by decide +kernel) ⟨Nat.le_of_ble_eq_true rfl, Nat.le_of_ble_eq_true rfl⟩) rfl (Nat.le_of_ble_eq_true rfl) rfl (fun H1 lH1 hPH1 hSH1 => ?_)
  refine lv_aload_n hx hb dL_law_525 rfl h2 ?_
  refine lw_ld K hSH1 h0 h3 (k := 1) rfl (by omega) dL_law_526 dL_law_527 dL_law_528 dL_law_529 dL_law_530 ?_
  refine lw_ld K hSH1 h0 h3 (k := 2) rfl (by omega) dL_law_531 dL_law_532 dL_law_533 dL_law_534 dL_law_535 ?_
  refine lw_callV K (ci := 12) (r := 188) (q := (z, M2)) (av := [xi ((xs (i + 1)).toInt), xi ((xs (i + 2)).toInt)]) (st := [Value.int (Int32.ofInt z)]) hPH1 hSH1 hl.1 dL_law_536 rfl (by decide) (by rw [xk_188 o1]) (S_X12_inside l 188 ((xs (i + 1)).toInt) ((xs (i + 2)).toInt) M1 (z, M2) e2) (cwV 2 hts gL_law_X12_inside rfl rfl rfl (by decide +kernel) ⟨Nat.le_of_ble_eq_true rfl, Nat.le_of_ble_eq_true rfl⟩) rfl (Nat.le_of_ble_eq_true rfl) rfl (fun H2 lH2 hPH2 hSH2 => ?_)
  refine lv_icmp_eq (tgt := 784) hx hb dL_law_539 (by decide) (fun _ => ?_) (fun q => absurd rfl q)
  exact k M2 H2 lH2 i2 hPH2 hSH2
set_option maxHeartbeats 4000000 in
set_option maxRecDepth 100000 in
theorem lwc_ask (K : lw_K p l e s m below meth c b L xs Dm cy bb) {M : xv_M} (hi : INV M) {H : Heap} {locs : List Loc} {ls : Array Slot} {i : Nat} (hiL : i + 2 < L) (hP : va_P Dm vwCl (xv_W bb cy M) H) (hS : va_S (fun q => bb < q) s.heap H locs) (hl : lv_has ls 4 (lw_L b bb i)) {Q : State → Prop} (k : ∀ (M2 : xv_M) (H2 : Heap) (locs2 : List Loc), INV M2 → va_P Dm vwCl (xv_W bb cy M2) H2 → va_S (fun q => bb < q) s.heap H2 locs2 → W p l e room_1 s m #[Value.ref b] below meth c H2 locs2 194 15622 Q (F0 m 784 ls [])) : W p l e room_1 s m #[Value.ref b] below meth c H locs 194 15622 Q (F0 m 544 ls []) := by
  have h0 := lv_at hl 0 rfl
  have h1 := lv_at hl 1 rfl
  have h2 := lv_at hl 2 rfl
  have h3 := lv_at hl 3 rfl
  obtain ⟨hx, hb, hml, hown, hts, hG, hbb, hX, hbl, hL⟩ := id K
  obtain ⟨z, M1, M2, o1, e1, e2, i2⟩ := ok_ask BC_ok hi (x := (xs (i + 1)).toInt) (t := (xs (i + 2)).toInt) (lw_iR _) (lw_iR _)
  have o0 := hi.ok
  refine lv_aload_n hx hb dL_law_544 rfl h1 ?_
  refine lw_ld K hS h0 h3 (k := 1) rfl (by omega) dL_law_545 dL_law_546 dL_law_547 dL_law_548 dL_law_549 ?_
  refine lw_ld K hS h0 h3 (k := 2) rfl (by omega) dL_law_550 dL_law_551 dL_law_552 dL_law_553 dL_law_554 ?_
  refine lw_callV K (ci := 11) (r := 1) (q := (z, M1)) (av := [xi ((xs (i + 1)).toInt), xi ((xs (i + 2)).toInt)]) (st := []) hP hS hl.1 dL_law_555 rfl (by decide) (by rw [xk_1 o0]) (S_X11_ask l 1 ((xs (i + 1)).toInt) ((xs (i + 2)).toInt) M (z, M1) e1) (cwV 2 hts gL_law_X11_ask rfl rfl rfl (by decide +kernel) ⟨Nat.le_of_ble_eq_true rfl, Nat.le_of_ble_eq_true rfl⟩) rfl (Nat.le_of_ble_eq_true rfl) rfl (fun H1 lH1 hPH1 hSH1 => ?_)
  refine lv_aload_n hx hb dL_law_558 rfl h2 ?_
  refine lw_ld K hSH1 h0 h3 (k := 1) rfl (by omega) dL_law_559 dL_law_560 dL_law_561 dL_law_562 dL_law_563 ?_
  refine lw_ld K hSH1 h0 h3 (k := 2) rfl (by omega) dL_law_564 dL_law_565 dL_law_566 dL_law_567 dL_law_568 ?_
  refine lw_callV K (ci := 12) (r := 188) (q := (z, M2)) (av := [xi ((xs (i + 1)).toInt), xi ((xs (i + 2)).toInt)]) (st := [Value.int (Int32.ofInt z)]) hPH1 hSH1 hl.1 dL_law_569 rfl (by decide) (by rw [xk_188 o1]) (S_X12_ask l 188 ((xs (i + 1)).toInt) ((xs (i + 2)).toInt) M1 (z, M2) e2) (cwV 2 hts gL_law_X12_ask rfl rfl rfl (by decide +kernel) ⟨Nat.le_of_ble_eq_true rfl, Nat.le_of_ble_eq_true rfl⟩) rfl (Nat.le_of_ble_eq_true rfl) rfl (fun H2 lH2 hPH2 hSH2 => ?_)
  refine lv_icmp_eq (tgt := 784) hx hb dL_law_572 (by decide) (fun _ => ?_) (fun q => absurd rfl q)
  exact k M2 H2 lH2 i2 hPH2 hSH2
set_option maxHeartbeats 4000000 in
set_option maxRecDepth 100000 in
theorem lwc_free (K : lw_K p l e s m below meth c b L xs Dm cy bb) {M : xv_M} (hi : INV M) {H : Heap} {locs : List Loc} {ls : Array Slot} {i : Nat} (hiL : i + 2 < L) (hP : va_P Dm vwCl (xv_W bb cy M) H) (hS : va_S (fun q => bb < q) s.heap H locs) (hl : lv_has ls 4 (lw_L b bb i)) {Q : State → Prop} (k : ∀ (M2 : xv_M) (H2 : Heap) (locs2 : List Loc), INV M2 → va_P Dm vwCl (xv_W bb cy M2) H2 → va_S (fun q => bb < q) s.heap H2 locs2 → W p l e room_1 s m #[Value.ref b] below meth c H2 locs2 194 15622 Q (F0 m 784 ls [])) : W p l e room_1 s m #[Value.ref b] below meth c H locs 194 15622 Q (F0 m 577 ls []) := by
  have h0 := lv_at hl 0 rfl
  have h1 := lv_at hl 1 rfl
  have h2 := lv_at hl 2 rfl
  have h3 := lv_at hl 3 rfl
  obtain ⟨hx, hb, hml, hown, hts, hG, hbb, hX, hbl, hL⟩ := id K
  obtain ⟨zb, ezb⟩ : ∃ zb : Int, zb = (if xs (i + 2) = 0 then 0 else 1) := ⟨_, rfl⟩
  have hzb : zb = 0 ∨ zb = 1 := by rw [ezb]; split <;> simp
  obtain ⟨z, M1, M2, o1, e1, e2, i2⟩ := ok_free hi (x := (xs (i + 1)).toInt) (t := zb) (lw_iR _) (by rcases hzb with h | h <;> rw [h] <;> decide)
  have o0 := hi.ok
  refine lv_aload_n hx hb dL_law_577 rfl h1 ?_
  refine lw_ld K hS h0 h3 (k := 1) rfl (by omega) dL_law_578 dL_law_579 dL_law_580 dL_law_581 dL_law_582 ?_
  refine lw_ld K hS h0 h3 (k := 2) rfl (by omega) dL_law_583 dL_law_584 dL_law_585 dL_law_586 dL_law_587 ?_
  refine lw_bool (z := zb) hx hb dL_law_588 dL_law_591 dL_law_592 dL_law_595 (by rw [Int32.ofInt_toInt, ezb]) ?_
  refine lw_callV K (ci := 11) (r := 1) (q := (z, M1)) (av := [xi ((xs (i + 1)).toInt), xi zb]) (st := []) hP hS hl.1 dL_law_596 rfl (by decide) (by rw [xk_1 o0]) (S_X11_free l 1 ((xs (i + 1)).toInt) zb M (z, M1) e1) (cwV 2 hts gL_law_X11_free rfl rfl rfl (by decide +kernel) ⟨Nat.le_of_ble_eq_true rfl, Nat.le_of_ble_eq_true rfl⟩) rfl (Nat.le_of_ble_eq_true rfl) rfl (fun H1 lH1 hPH1 hSH1 => ?_)
  refine lv_aload_n hx hb dL_law_599 rfl h2 ?_
  refine lw_ld K hSH1 h0 h3 (k := 1) rfl (by omega) dL_law_600 dL_law_601 dL_law_602 dL_law_603 dL_law_604 ?_
  refine lw_ld K hSH1 h0 h3 (k := 2) rfl (by omega) dL_law_605 dL_law_606 dL_law_607 dL_law_608 dL_law_609 ?_
  refine lw_bool (z := zb) hx hb dL_law_610 dL_law_613 dL_law_614 dL_law_617 (by rw [Int32.ofInt_toInt, ezb]) ?_
  refine lw_callV K (ci := 12) (r := 188) (q := (z, M2)) (av := [xi ((xs (i + 1)).toInt), xi zb]) (st := [Value.int (Int32.ofInt z)]) hPH1 hSH1 hl.1 dL_law_618 rfl (by decide) (by rw [xk_188 o1]) (S_X12_free l 188 ((xs (i + 1)).toInt) zb M1 (z, M2) e2) (cwV 2 hts gL_law_X12_free rfl rfl rfl (by decide +kernel) ⟨Nat.le_of_ble_eq_true rfl, Nat.le_of_ble_eq_true rfl⟩) rfl (Nat.le_of_ble_eq_true rfl) rfl (fun H2 lH2 hPH2 hSH2 => ?_)
  refine lv_icmp_eq (tgt := 784) hx hb dL_law_621 (by decide) (fun _ => ?_) (fun q => absurd rfl q)
  exact k M2 H2 lH2 i2 hPH2 hSH2
set_option maxHeartbeats 4000000 in
set_option maxRecDepth 100000 in
theorem lwc_most (K : lw_K p l e s m below meth c b L xs Dm cy bb) {M : xv_M} (hi : INV M) {H : Heap} {locs : List Loc} {ls : Array Slot} {i : Nat} (hiL : i + 2 < L) (hP : va_P Dm vwCl (xv_W bb cy M) H) (hS : va_S (fun q => bb < q) s.heap H locs) (hl : lv_has ls 4 (lw_L b bb i)) {Q : State → Prop} (k : ∀ (M2 : xv_M) (H2 : Heap) (locs2 : List Loc), INV M2 → va_P Dm vwCl (xv_W bb cy M2) H2 → va_S (fun q => bb < q) s.heap H2 locs2 → W p l e room_1 s m #[Value.ref b] below meth c H2 locs2 194 15622 Q (F0 m 784 ls [])) : W p l e room_1 s m #[Value.ref b] below meth c H locs 194 15622 Q (F0 m 626 ls []) := by
  have h0 := lv_at hl 0 rfl
  have h1 := lv_at hl 1 rfl
  have h2 := lv_at hl 2 rfl
  have h3 := lv_at hl 3 rfl
  obtain ⟨hx, hb, hml, hown, hts, hG, hbb, hX, hbl, hL⟩ := id K
  obtain ⟨z, M1, M2, o1, e1, e2, i2⟩ := ok_most BC_ok hi (t := (xs (i + 1)).toInt) (lw_iR _)
  have o0 := hi.ok
  refine lv_aload_n hx hb dL_law_626 rfl h1 ?_
  refine lw_ld K hS h0 h3 (k := 1) rfl (by omega) dL_law_627 dL_law_628 dL_law_629 dL_law_630 dL_law_631 ?_
  refine lw_callV K (ci := 11) (r := 1) (q := (z, M1)) (av := [xi ((xs (i + 1)).toInt)]) (st := []) hP hS hl.1 dL_law_632 rfl (by decide) (by rw [xk_1 o0]) (S_X11_most l 1 ((xs (i + 1)).toInt) M (z, M1) e1) (cwV 1 hts gL_law_X11_most rfl rfl rfl (by decide +kernel) ⟨Nat.le_of_ble_eq_true rfl, Nat.le_of_ble_eq_true rfl⟩) rfl (Nat.le_of_ble_eq_true rfl) rfl (fun H1 lH1 hPH1 hSH1 => ?_)
  refine lv_aload_n hx hb dL_law_635 rfl h2 ?_
  refine lw_ld K hSH1 h0 h3 (k := 1) rfl (by omega) dL_law_636 dL_law_637 dL_law_638 dL_law_639 dL_law_640 ?_
  refine lw_callV K (ci := 12) (r := 188) (q := (z, M2)) (av := [xi ((xs (i + 1)).toInt)]) (st := [Value.int (Int32.ofInt z)]) hPH1 hSH1 hl.1 dL_law_641 rfl (by decide) (by rw [xk_188 o1]) (S_X12_most l 188 ((xs (i + 1)).toInt) M1 (z, M2) e2) (cwV 1 hts gL_law_X12_most rfl rfl rfl (by decide +kernel) ⟨Nat.le_of_ble_eq_true rfl, Nat.le_of_ble_eq_true rfl⟩) rfl (Nat.le_of_ble_eq_true rfl) rfl (fun H2 lH2 hPH2 hSH2 => ?_)
  refine lv_icmp_eq (tgt := 784) hx hb dL_law_644 (by decide) (fun _ => ?_) (fun q => absurd rfl q)
  exact k M2 H2 lH2 i2 hPH2 hSH2
set_option maxHeartbeats 4000000 in
set_option maxRecDepth 100000 in
theorem lwc_changesIn (K : lw_K p l e s m below meth c b L xs Dm cy bb) {M : xv_M} (hi : INV M) {H : Heap} {locs : List Loc} {ls : Array Slot} {i : Nat} (hiL : i + 2 < L) (hP : va_P Dm vwCl (xv_W bb cy M) H) (hS : va_S (fun q => bb < q) s.heap H locs) (hl : lv_has ls 4 (lw_L b bb i)) {Q : State → Prop} (k : ∀ (M2 : xv_M) (H2 : Heap) (locs2 : List Loc), INV M2 → va_P Dm vwCl (xv_W bb cy M2) H2 → va_S (fun q => bb < q) s.heap H2 locs2 → W p l e room_1 s m #[Value.ref b] below meth c H2 locs2 194 15622 Q (F0 m 784 ls [])) : W p l e room_1 s m #[Value.ref b] below meth c H locs 194 15622 Q (F0 m 649 ls []) := by
  have h0 := lv_at hl 0 rfl
  have h1 := lv_at hl 1 rfl
  have h2 := lv_at hl 2 rfl
  have h3 := lv_at hl 3 rfl
  obtain ⟨hx, hb, hml, hown, hts, hG, hbb, hX, hbl, hL⟩ := id K
  obtain ⟨z, M1, M2, o1, e1, e2, i2⟩ := ok_changesIn hi (x := (xs (i + 1)).toInt) (lw_iR _)
  have o0 := hi.ok
  refine lv_aload_n hx hb dL_law_649 rfl h1 ?_
  refine lw_ld K hS h0 h3 (k := 1) rfl (by omega) dL_law_650 dL_law_651 dL_law_652 dL_law_653 dL_law_654 ?_
  refine lw_callV K (ci := 11) (r := 1) (q := (z, M1)) (av := [xi ((xs (i + 1)).toInt)]) (st := []) hP hS hl.1 dL_law_655 rfl (by decide) (by rw [xk_1 o0]) (S_X11_changesIn l 1 ((xs (i + 1)).toInt) M (z, M1) e1) (cwV 1 hts gL_law_X11_changesIn rfl rfl rfl (by decide +kernel) ⟨Nat.le_of_ble_eq_true rfl, Nat.le_of_ble_eq_true rfl⟩) rfl (Nat.le_of_ble_eq_true rfl) rfl (fun H1 lH1 hPH1 hSH1 => ?_)
  refine lv_aload_n hx hb dL_law_658 rfl h2 ?_
  refine lw_ld K hSH1 h0 h3 (k := 1) rfl (by omega) dL_law_659 dL_law_660 dL_law_661 dL_law_662 dL_law_663 ?_
  refine lw_callV K (ci := 12) (r := 188) (q := (z, M2)) (av := [xi ((xs (i + 1)).toInt)]) (st := [Value.int (Int32.ofInt z)]) hPH1 hSH1 hl.1 dL_law_664 rfl (by decide) (by rw [xk_188 o1]) (S_X12_changesIn l 188 ((xs (i + 1)).toInt) M1 (z, M2) e2) (cwV 1 hts gL_law_X12_changesIn rfl rfl rfl (by decide +kernel) ⟨Nat.le_of_ble_eq_true rfl, Nat.le_of_ble_eq_true rfl⟩) rfl (Nat.le_of_ble_eq_true rfl) rfl (fun H2 lH2 hPH2 hSH2 => ?_)
  refine lv_icmp_eq (tgt := 784) hx hb dL_law_667 (by decide) (fun _ => ?_) (fun q => absurd rfl q)
  exact k M2 H2 lH2 i2 hPH2 hSH2
set_option maxHeartbeats 4000000 in
set_option maxRecDepth 100000 in
theorem lwc_meetIn (K : lw_K p l e s m below meth c b L xs Dm cy bb) {M : xv_M} (hi : INV M) {H : Heap} {locs : List Loc} {ls : Array Slot} {i : Nat} (hiL : i + 2 < L) (hP : va_P Dm vwCl (xv_W bb cy M) H) (hS : va_S (fun q => bb < q) s.heap H locs) (hl : lv_has ls 4 (lw_L b bb i)) {Q : State → Prop} (k : ∀ (M2 : xv_M) (H2 : Heap) (locs2 : List Loc), INV M2 → va_P Dm vwCl (xv_W bb cy M2) H2 → va_S (fun q => bb < q) s.heap H2 locs2 → W p l e room_1 s m #[Value.ref b] below meth c H2 locs2 194 15622 Q (F0 m 784 ls [])) : W p l e room_1 s m #[Value.ref b] below meth c H locs 194 15622 Q (F0 m 672 ls []) := by
  have h0 := lv_at hl 0 rfl
  have h1 := lv_at hl 1 rfl
  have h2 := lv_at hl 2 rfl
  have h3 := lv_at hl 3 rfl
  obtain ⟨hx, hb, hml, hown, hts, hG, hbb, hX, hbl, hL⟩ := id K
  obtain ⟨z, M1, M2, o1, e1, e2, i2⟩ := ok_meetIn hi (x := (xs (i + 1)).toInt) (y := (xs (i + 2)).toInt) (lw_iR _) (lw_iR _)
  have o0 := hi.ok
  refine lv_aload_n hx hb dL_law_672 rfl h1 ?_
  refine lw_ld K hS h0 h3 (k := 1) rfl (by omega) dL_law_673 dL_law_674 dL_law_675 dL_law_676 dL_law_677 ?_
  refine lw_ld K hS h0 h3 (k := 2) rfl (by omega) dL_law_678 dL_law_679 dL_law_680 dL_law_681 dL_law_682 ?_
  refine lw_callV K (ci := 11) (r := 1) (q := (z, M1)) (av := [xi ((xs (i + 1)).toInt), xi ((xs (i + 2)).toInt)]) (st := []) hP hS hl.1 dL_law_683 rfl (by decide) (by rw [xk_1 o0]) (S_X11_meetIn l 1 ((xs (i + 1)).toInt) ((xs (i + 2)).toInt) M (z, M1) e1) (cwV 2 hts gL_law_X11_meetIn rfl rfl rfl (by decide +kernel) ⟨Nat.le_of_ble_eq_true rfl, Nat.le_of_ble_eq_true rfl⟩) rfl (Nat.le_of_ble_eq_true rfl) rfl (fun H1 lH1 hPH1 hSH1 => ?_)
  refine lv_aload_n hx hb dL_law_686 rfl h2 ?_
  refine lw_ld K hSH1 h0 h3 (k := 1) rfl (by omega) dL_law_687 dL_law_688 dL_law_689 dL_law_690 dL_law_691 ?_
  refine lw_ld K hSH1 h0 h3 (k := 2) rfl (by omega) dL_law_692 dL_law_693 dL_law_694 dL_law_695 dL_law_696 ?_
  refine lw_callV K (ci := 12) (r := 188) (q := (z, M2)) (av := [xi ((xs (i + 1)).toInt), xi ((xs (i + 2)).toInt)]) (st := [Value.int (Int32.ofInt z)]) hPH1 hSH1 hl.1 dL_law_697 rfl (by decide) (by rw [xk_188 o1]) (S_X12_meetIn l 188 ((xs (i + 1)).toInt) ((xs (i + 2)).toInt) M1 (z, M2) e2) (cwV 2 hts gL_law_X12_meetIn rfl rfl rfl (by decide +kernel) ⟨Nat.le_of_ble_eq_true rfl, Nat.le_of_ble_eq_true rfl⟩) rfl (Nat.le_of_ble_eq_true rfl) rfl (fun H2 lH2 hPH2 hSH2 => ?_)
  refine lv_icmp_eq (tgt := 784) hx hb dL_law_700 (by decide) (fun _ => ?_) (fun q => absurd rfl q)
  exact k M2 H2 lH2 i2 hPH2 hSH2
set_option maxHeartbeats 4000000 in
set_option maxRecDepth 100000 in
theorem lwc_index (K : lw_K p l e s m below meth c b L xs Dm cy bb) {M : xv_M} (hi : INV M) {H : Heap} {locs : List Loc} {ls : Array Slot} {i : Nat} (hiL : i + 2 < L) (hP : va_P Dm vwCl (xv_W bb cy M) H) (hS : va_S (fun q => bb < q) s.heap H locs) (hl : lv_has ls 4 (lw_L b bb i)) {Q : State → Prop} (k : ∀ (M2 : xv_M) (H2 : Heap) (locs2 : List Loc), INV M2 → va_P Dm vwCl (xv_W bb cy M2) H2 → va_S (fun q => bb < q) s.heap H2 locs2 → W p l e room_1 s m #[Value.ref b] below meth c H2 locs2 194 15622 Q (F0 m 784 ls [])) : W p l e room_1 s m #[Value.ref b] below meth c H locs 194 15622 Q (F0 m 705 ls []) := by
  have h0 := lv_at hl 0 rfl
  have h1 := lv_at hl 1 rfl
  have h2 := lv_at hl 2 rfl
  have h3 := lv_at hl 3 rfl
  obtain ⟨hx, hb, hml, hown, hts, hG, hbb, hX, hbl, hL⟩ := id K
  obtain ⟨z, M1, M2, o1, e1, e2, i2⟩ := ok_index BC_ok hi (t := (xs (i + 1)).toInt) (lw_iR _)
  have o0 := hi.ok
  refine lv_aload_n hx hb dL_law_705 rfl h1 ?_
  refine lw_ld K hS h0 h3 (k := 1) rfl (by omega) dL_law_706 dL_law_707 dL_law_708 dL_law_709 dL_law_710 ?_
  refine lw_callV K (ci := 11) (r := 1) (q := (z, M1)) (av := [xi ((xs (i + 1)).toInt)]) (st := []) hP hS hl.1 dL_law_711 rfl (by decide) (by rw [xk_1 o0]) (S_X11_index l 1 ((xs (i + 1)).toInt) M (z, M1) e1) (cwV 1 hts gL_law_X11_index rfl rfl rfl (by decide +kernel) ⟨Nat.le_of_ble_eq_true rfl, Nat.le_of_ble_eq_true rfl⟩) rfl (Nat.le_of_ble_eq_true rfl) rfl (fun H1 lH1 hPH1 hSH1 => ?_)
  refine lv_aload_n hx hb dL_law_714 rfl h2 ?_
  refine lw_ld K hSH1 h0 h3 (k := 1) rfl (by omega) dL_law_715 dL_law_716 dL_law_717 dL_law_718 dL_law_719 ?_
  refine lw_callV K (ci := 12) (r := 188) (q := (z, M2)) (av := [xi ((xs (i + 1)).toInt)]) (st := [Value.int (Int32.ofInt z)]) hPH1 hSH1 hl.1 dL_law_720 rfl (by decide) (by rw [xk_188 o1]) (S_X12_index l 188 ((xs (i + 1)).toInt) M1 (z, M2) e2) (cwV 1 hts gL_law_X12_index rfl rfl rfl (by decide +kernel) ⟨Nat.le_of_ble_eq_true rfl, Nat.le_of_ble_eq_true rfl⟩) rfl (Nat.le_of_ble_eq_true rfl) rfl (fun H2 lH2 hPH2 hSH2 => ?_)
  refine lv_icmp_eq (tgt := 784) hx hb dL_law_723 (by decide) (fun _ => ?_) (fun q => absurd rfl q)
  exact k M2 H2 lH2 i2 hPH2 hSH2
set_option maxHeartbeats 4000000 in
set_option maxRecDepth 100000 in
theorem lwc_event (K : lw_K p l e s m below meth c b L xs Dm cy bb) {M : xv_M} (hi : INV M) {H : Heap} {locs : List Loc} {ls : Array Slot} {i : Nat} (hiL : i + 2 < L) (hP : va_P Dm vwCl (xv_W bb cy M) H) (hS : va_S (fun q => bb < q) s.heap H locs) (hl : lv_has ls 4 (lw_L b bb i)) {Q : State → Prop} (k : ∀ (M2 : xv_M) (H2 : Heap) (locs2 : List Loc), INV M2 → va_P Dm vwCl (xv_W bb cy M2) H2 → va_S (fun q => bb < q) s.heap H2 locs2 → W p l e room_1 s m #[Value.ref b] below meth c H2 locs2 194 15622 Q (F0 m 784 ls [])) : W p l e room_1 s m #[Value.ref b] below meth c H locs 194 15622 Q (F0 m 728 ls []) := by
  have h0 := lv_at hl 0 rfl
  have h1 := lv_at hl 1 rfl
  have h2 := lv_at hl 2 rfl
  have h3 := lv_at hl 3 rfl
  obtain ⟨hx, hb, hml, hown, hts, hG, hbb, hX, hbl, hL⟩ := id K
  obtain ⟨z, M1, M2, o1, e1, e2, i2⟩ := ok_event hi (b := (xs (i + 1)).toInt) (t := (xs (i + 2)).toInt) (lw_iR _) (lw_iR _)
  have o0 := hi.ok
  refine lv_aload_n hx hb dL_law_728 rfl h1 ?_
  refine lw_ld K hS h0 h3 (k := 1) rfl (by omega) dL_law_729 dL_law_730 dL_law_731 dL_law_732 dL_law_733 ?_
  refine lw_ld K hS h0 h3 (k := 2) rfl (by omega) dL_law_734 dL_law_735 dL_law_736 dL_law_737 dL_law_738 ?_
  refine lw_callV K (ci := 11) (r := 1) (q := (z, M1)) (av := [xi ((xs (i + 1)).toInt), xi ((xs (i + 2)).toInt)]) (st := []) hP hS hl.1 dL_law_739 rfl (by decide) (by rw [xk_1 o0]) (S_X11_event l 1 ((xs (i + 1)).toInt) ((xs (i + 2)).toInt) M (z, M1) e1) (cwV 2 hts gL_law_X11_event rfl rfl rfl (by decide +kernel) ⟨Nat.le_of_ble_eq_true rfl, Nat.le_of_ble_eq_true rfl⟩) rfl (Nat.le_of_ble_eq_true rfl) rfl (fun H1 lH1 hPH1 hSH1 => ?_)
  refine lv_aload_n hx hb dL_law_742 rfl h2 ?_
  refine lw_ld K hSH1 h0 h3 (k := 1) rfl (by omega) dL_law_743 dL_law_744 dL_law_745 dL_law_746 dL_law_747 ?_
  refine lw_ld K hSH1 h0 h3 (k := 2) rfl (by omega) dL_law_748 dL_law_749 dL_law_750 dL_law_751 dL_law_752 ?_
  refine lw_callV K (ci := 12) (r := 188) (q := (z, M2)) (av := [xi ((xs (i + 1)).toInt), xi ((xs (i + 2)).toInt)]) (st := [Value.int (Int32.ofInt z)]) hPH1 hSH1 hl.1 dL_law_753 rfl (by decide) (by rw [xk_188 o1]) (S_X12_event l 188 ((xs (i + 1)).toInt) ((xs (i + 2)).toInt) M1 (z, M2) e2) (cwV 2 hts gL_law_X12_event rfl rfl rfl (by decide +kernel) ⟨Nat.le_of_ble_eq_true rfl, Nat.le_of_ble_eq_true rfl⟩) rfl (Nat.le_of_ble_eq_true rfl) rfl (fun H2 lH2 hPH2 hSH2 => ?_)
  refine lv_icmp_eq (tgt := 784) hx hb dL_law_756 (by decide) (fun _ => ?_) (fun q => absurd rfl q)
  exact k M2 H2 lH2 i2 hPH2 hSH2
set_option maxHeartbeats 4000000 in
set_option maxRecDepth 100000 in
theorem lwc_count (K : lw_K p l e s m below meth c b L xs Dm cy bb) {M : xv_M} (hi : INV M) {H : Heap} {locs : List Loc} {ls : Array Slot} {i : Nat} (hiL : i + 2 < L) (hP : va_P Dm vwCl (xv_W bb cy M) H) (hS : va_S (fun q => bb < q) s.heap H locs) (hl : lv_has ls 4 (lw_L b bb i)) {Q : State → Prop} (k : ∀ (M2 : xv_M) (H2 : Heap) (locs2 : List Loc), INV M2 → va_P Dm vwCl (xv_W bb cy M2) H2 → va_S (fun q => bb < q) s.heap H2 locs2 → W p l e room_1 s m #[Value.ref b] below meth c H2 locs2 194 15622 Q (F0 m 784 ls [])) : W p l e room_1 s m #[Value.ref b] below meth c H locs 194 15622 Q (F0 m 761 ls []) := by
  have h0 := lv_at hl 0 rfl
  have h1 := lv_at hl 1 rfl
  have h2 := lv_at hl 2 rfl
  have h3 := lv_at hl 3 rfl
  obtain ⟨hx, hb, hml, hown, hts, hG, hbb, hX, hbl, hL⟩ := id K
  obtain ⟨z, M1, M2, o1, e1, e2, i2⟩ := ok_count BC_ok hi (t := (xs (i + 1)).toInt) (lw_iR _)
  have o0 := hi.ok
  refine lv_aload_n hx hb dL_law_761 rfl h1 ?_
  refine lw_ld K hS h0 h3 (k := 1) rfl (by omega) dL_law_762 dL_law_763 dL_law_764 dL_law_765 dL_law_766 ?_
  refine lw_callV K (ci := 11) (r := 1) (q := (z, M1)) (av := [xi ((xs (i + 1)).toInt)]) (st := []) hP hS hl.1 dL_law_767 rfl (by decide) (by rw [xk_1 o0]) (S_X11_count l 1 ((xs (i + 1)).toInt) M (z, M1) e1) (cwV 1 hts gL_law_X11_count rfl rfl rfl (by decide +kernel) ⟨Nat.le_of_ble_eq_true rfl, Nat.le_of_ble_eq_true rfl⟩) rfl (Nat.le_of_ble_eq_true rfl) rfl (fun H1 lH1 hPH1 hSH1 => ?_)
  refine lv_aload_n hx hb dL_law_770 rfl h2 ?_
  refine lw_ld K hSH1 h0 h3 (k := 1) rfl (by omega) dL_law_771 dL_law_772 dL_law_773 dL_law_774 dL_law_775 ?_
  refine lw_callV K (ci := 12) (r := 188) (q := (z, M2)) (av := [xi ((xs (i + 1)).toInt)]) (st := [Value.int (Int32.ofInt z)]) hPH1 hSH1 hl.1 dL_law_776 rfl (by decide) (by rw [xk_188 o1]) (S_X12_count l 188 ((xs (i + 1)).toInt) M1 (z, M2) e2) (cwV 1 hts gL_law_X12_count rfl rfl rfl (by decide +kernel) ⟨Nat.le_of_ble_eq_true rfl, Nat.le_of_ble_eq_true rfl⟩) rfl (Nat.le_of_ble_eq_true rfl) rfl (fun H2 lH2 hPH2 hSH2 => ?_)
  refine lv_icmp_eq (tgt := 784) hx hb dL_law_779 (by decide) (fun _ => ?_) (fun q => absurd rfl q)
  exact k M2 H2 lH2 i2 hPH2 hSH2
end LWS
