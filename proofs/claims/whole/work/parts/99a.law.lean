/-! ## the law's cases: each call of both -/
theorem lw_iR (x : Int32) : iR x.toInt := by
  have h1 := Int32.le_toInt x
  have h2 := Int32.toInt_lt x
  exact ⟨by omega, by omega⟩
theorem lw_i2c (x : Int32) : ∃ k : Nat, k ≤ 65535 ∧ (x.toUInt32 % 65536).toInt32 = Int32.ofInt (k : Int) := by
  have h1 : (x.toUInt32 % 65536).toNat = x.toUInt32.toNat % 65536 := UInt32.toNat_mod _ _
  refine ⟨(x.toUInt32 % 65536).toNat, by omega, ?_⟩
  rw [xb_ofI]
  apply Int32.toBitVec_inj.mp
  apply BitVec.eq_of_toNat_eq
  show (x.toUInt32 % 65536).toNat = (BitVec.ofNat 32 (x.toUInt32 % 65536).toNat).toNat
  rw [BitVec.toNat_ofNat]
  omega
/-- what holds of the law's run all the way -/
def lw_K (p : Program) (l : Launch) (e : Env) (s : State) (m : MethodId) (below : List Frame) (meth : Method) (c : Code) (b L : Nat) (xs : Nat → Int32) (Dm : va_G) (cy : Nat → ClassId) (bb : Nat) : Prop :=
  p.tables.exec = Jvm.exec ∧ c.code = cL_law ∧ c.maxLocals = 4 ∧ s.vm.findClass RL = some m.cls ∧ (∀ w ∈ wsL_law, w.before #[Value.ref b] s = true) ∧ xv_G Dm cy s ∧ bb + 1 = s.heap.size ∧ va_X b L xs s s.heap ∧ b < s.heap.size ∧ L ≤ 1536
/-- the law's locals -/
def lw_L (b bb i : Nat) : List (Nat × Value) := [(0, .ref b), (1, .ref (bb + 1)), (2, .ref (bb + 188)), (3, .int (Int32.ofInt (i : Int)))]
section LWS
variable {p : Program} {l : Launch} {e : Env} {s : State} {m : MethodId} {below : List Frame} {meth : Method} {c : Code} {b L bb : Nat} {xs : Nat → Int32} {Dm : va_G} {cy : Nat → ClassId}
theorem lw_ld (K : lw_K p l e s m below meth c b L xs Dm cy bb) {H : Heap} {locs : List Loc} {ls : Array Slot} {ce sl i pc : Nat} {Q : State → Prop} {st : List Value} {k : Nat} {kI : Int} (hS : va_S (fun q => bb < q) s.heap H locs) (h0 : ls[0]? = some (.val (.ref b))) (h3 : ls[3]? = some (.val (.int (Int32.ofInt (i : Int))))) (hkI : kI = (k : Int)) (hk : i + k < L)
    (d0 : decode cL_law pc = .ok (.aload_n 0, 1)) (d1 : decode cL_law (pc + 1) = .ok (.iload_n 3, 1)) (d2 : decode cL_law (pc + 2) = .ok (.iconst kI, 1)) (d3 : decode cL_law (pc + 3) = .ok (.iadd, 1)) (d4 : decode cL_law (pc + 4) = .ok (.iaload, 1))
    (kk : W p l e room_1 s m #[Value.ref b] below meth c H locs ce sl Q (F0 m (pc + 5) ls (.int (Int32.ofInt (xs (i + k)).toInt) :: st))) : W p l e room_1 s m #[Value.ref b] below meth c H locs ce sl Q (F0 m pc ls st) := by
  obtain ⟨hx, hb, hml, hown, hts, hG, hbb, hX, hbl, hL⟩ := K
  refine lv_aload_n hx hb d0 rfl h0 ?_
  refine lv_iload_n hx hb d1 rfl h3 ?_
  refine lv_iconst (v := Int32.ofInt (k : Int)) hx hb d2 (by rw [hkI]) ?_
  refine lv_iadd hx hb d3 ?_
  have e9 : Int32.ofInt (i : Int) + Int32.ofInt (k : Int) = Int32.ofInt ((i + k : Nat) : Int) := by
    rw [xv_add, show (i : Int) + (k : Int) = ((i + k : Nat) : Int) by omega]
  rw [e9]
  obtain ⟨hin, ht⟩ := xv_ix (x := ((i + k : Nat) : Int)) (n := L) (by omega) (by omega) (by omega)
  refine va_sld hx hb hX hbl (A := fun q => bb < q) (by show ¬ bb < b; omega) hS hin d4 ?_
  rw [ht, Int.toNat_natCast]
  rw [Int32.ofInt_toInt] at kk
  exact kk
theorem lw_bool {H : Heap} {locs : List Loc} {ls : Array Slot} {ce sl pc : Nat} {Q : State → Prop} {st : List Value} {x : Int32} {z : Int} (hx : p.tables.exec = Jvm.exec) (hb : c.code = cL_law) (d0 : decode cL_law pc = .ok (.ifCond .eq 7, 3)) (d1 : decode cL_law (pc + 3) = .ok (.iconst 1, 1)) (d2 : decode cL_law (pc + 4) = .ok (.goto 4, 3)) (d3 : decode cL_law (pc + 7) = .ok (.iconst 0, 1)) (hz : z = (if x = 0 then 0 else 1))
    (kk : W p l e room_1 s m #[Value.ref b] below meth c H locs ce sl Q (F0 m (pc + 8) ls (.int (Int32.ofInt z) :: st))) : W p l e room_1 s m #[Value.ref b] below meth c H locs ce sl Q (F0 m pc ls (.int x :: st)) := by
  refine lv_if_eq (tgt := pc + 7) hx hb d0 (by omega) (fun q => ?_) (fun q => ?_)
  · refine lv_iconst (v := Int32.ofInt z) hx hb d3 (by rw [hz, if_pos q]) ?_
    exact kk
  · refine lv_iconst (v := Int32.ofInt z) hx hb d1 (by rw [hz, if_neg q]) ?_
    refine lv_goto (tgt := pc + 8) hx hb d2 (by omega) ?_
    exact kk
theorem lw_callV (K : lw_K p l e s m below meth c b L xs Dm cy bb) {H : Heap} {locs : List Loc} {ls : Array Slot} {pc : Nat} {Q : State → Prop} {st stk : List Value} {M : xv_M} {y : MethodName} {bytes : ByteArray} {maxL n index : Nat} {ret : Option FieldType} {ws : List Cond} {rm : Room} {av : List xv_v} {C : String} {ci r N : Nat} {TT : u_T} {q : Int × xv_M} (hP : va_P Dm vwCl (xv_W bb cy M) H) (hS : va_S (fun q => bb < q) s.heap H locs) (hsz : ls.size = 4) (hd : decode cL_law pc = .ok (.invokevirtual index, 3)) (hc : vwCl[ci]? = some (C, TT, N)) (hci : ci < 13) (hkd : (xv_kd M r).1 = ci) (hM : xv_Met l y ws rm 0 0 false (xr r :: av) M (xv_qI false q)) (cw : CallW room_1 s #[Value.ref b] RL C index y bytes maxL ret ws rm 0 0 n) (hn : av.length = n) (hrm : (st.map fun v => v.category).sum ≤ 8) (hst : stk = (av.map (xv_val bb)).reverse ++ .ref (bb + r) :: st)
    (k : ∀ (H1 : Heap) (locs1 : List Loc), va_P Dm vwCl (xv_W bb cy q.2) H1 → va_S (fun q => bb < q) s.heap H1 locs1 → W p l e room_1 s m #[Value.ref b] below meth c H1 locs1 194 15622 Q (F0 m (pc + 3) ls (.int (Int32.ofInt q.1) :: st))) : W p l e room_1 s m #[Value.ref b] below meth c H locs 194 15622 Q (F0 m pc ls stk) := by
  subst hst
  obtain ⟨hx, hb, hml, hown, hts, hG, hbb, hX, hbl, hL⟩ := K
  obtain ⟨h0, he⟩ := xv_obj (b := bb) (cy := cy) hkd hci
  have hbs : bb < s.heap.size := by omega
  have hA : ∀ q, s.heap.size ≤ q → bb < q := fun q h => Nat.lt_of_lt_of_le hbs h
  have hpre2 : ∀ U : State, U.heap = H → s.WarmedH U.vm → xv_pre false (xr r :: av) M Dm cy bb ((Value.ref (bb + r) :: av.map (xv_val bb)).toArray) U := fun U hU hW => by
    have h9 : xv_pre false (xr r :: av) M Dm cy bb (((xr r :: av).map (xv_val bb)).toArray) U := ⟨rfl, hG.moved hW, ⟨by rw [hU]; exact hP, fun z => by cases z⟩, by rw [hU]; exact Nat.lt_of_lt_of_le hbs hS.1⟩
    rw [List.map_cons] at h9
    rw [show xv_val bb (xr r) = .ref (bb + r) from xv_r_s h0] at h9
    exact h9
  have hrun := va_runV (e := e) (below := below) (meth := meth) (locs := locs) (cells := 194) (slots := 15622) (g := F0 m pc ls ((av.map (xv_val bb)).reverse ++ .ref (bb + r) :: st)) (As := av.map (xv_val bb)) (rest := st) (b := bb + r) ⟨hx, hb, hml, hown, hts⟩ (hM Dm cy bb) cw ⟨xv_blind, va_recv hG.1 hP hc he, hpre2⟩ rfl (by rw [List.length_map]; exact hn) hsz rfl (lv_room hrm) hd ⟨Nat.le_of_ble_eq_true rfl, Nat.le_of_ble_eq_true rfl⟩
  refine va_calli hrun hS (fun _ _ h => h) (fun _ h => h) (fun z u t H1 locs1 ht hvm hw hB hz1 hk1 hS1 => ?_)
  subst hw
  exact k H1 locs1 (by rw [← ht]; exact hB.1) hS1
set_option maxHeartbeats 4000000 in
set_option maxRecDepth 100000 in
theorem lwc_add (K : lw_K p l e s m below meth c b L xs Dm cy bb) {M : xv_M} (hi : INV M) {H : Heap} {locs : List Loc} {ls : Array Slot} {i : Nat} (hiL : i + 2 < L) (hP : va_P Dm vwCl (xv_W bb cy M) H) (hS : va_S (fun q => bb < q) s.heap H locs) (hl : lv_has ls 4 (lw_L b bb i)) {Q : State → Prop} (k : ∀ (M2 : xv_M) (H2 : Heap) (locs2 : List Loc), INV M2 → va_P Dm vwCl (xv_W bb cy M2) H2 → va_S (fun q => bb < q) s.heap H2 locs2 → W p l e room_1 s m #[Value.ref b] below meth c H2 locs2 194 15622 Q (F0 m 784 ls [])) : W p l e room_1 s m #[Value.ref b] below meth c H locs 194 15622 Q (F0 m 144 ls []) := by
  have h0 := lv_at hl 0 rfl
  have h1 := lv_at hl 1 rfl
  have h2 := lv_at hl 2 rfl
  have h3 := lv_at hl 3 rfl
  obtain ⟨hx, hb, hml, hown, hts, hG, hbb, hX, hbl, hL⟩ := id K
  obtain ⟨z, M1, M2, o1, e1, e2, i2⟩ := ok_add BC_ok hi (l := (xs (i + 1)).toInt) (r := (xs (i + 2)).toInt) (lw_iR _) (lw_iR _)
  have o0 := hi.ok
  refine lv_aload_n hx hb dL_law_144 rfl h1 ?_
  refine lw_ld K hS h0 h3 (k := 1) rfl (by omega) dL_law_145 dL_law_146 dL_law_147 dL_law_148 dL_law_149 ?_
  refine lw_ld K hS h0 h3 (k := 2) rfl (by omega) dL_law_150 dL_law_151 dL_law_152 dL_law_153 dL_law_154 ?_
  refine lw_callV K (ci := 11) (r := 1) (q := (z, M1)) (av := [xi ((xs (i + 1)).toInt), xi ((xs (i + 2)).toInt)]) (st := []) hP hS hl.1 dL_law_155 rfl (by decide) (by rw [xk_1 o0]) (S_X11_add l 1 ((xs (i + 1)).toInt) ((xs (i + 2)).toInt) M (z, M1) e1) (cwV 2 hts gL_law_X11_add rfl rfl rfl (by decide +kernel) ⟨Nat.le_of_ble_eq_true rfl, Nat.le_of_ble_eq_true rfl⟩) rfl (by decide) rfl (fun H1 lH1 hPH1 hSH1 => ?_)
  refine lv_aload_n hx hb dL_law_158 rfl h2 ?_
  refine lw_ld K hSH1 h0 h3 (k := 1) rfl (by omega) dL_law_159 dL_law_160 dL_law_161 dL_law_162 dL_law_163 ?_
  refine lw_ld K hSH1 h0 h3 (k := 2) rfl (by omega) dL_law_164 dL_law_165 dL_law_166 dL_law_167 dL_law_168 ?_
  refine lw_callV K (ci := 12) (r := 188) (q := (z, M2)) (av := [xi ((xs (i + 1)).toInt), xi ((xs (i + 2)).toInt)]) (st := [Value.int (Int32.ofInt z)]) hPH1 hSH1 hl.1 dL_law_169 rfl (by decide) (by rw [xk_188 o1]) (S_X12_add l 188 ((xs (i + 1)).toInt) ((xs (i + 2)).toInt) M1 (z, M2) e2) (cwV 2 hts gL_law_X12_add rfl rfl rfl (by decide +kernel) ⟨Nat.le_of_ble_eq_true rfl, Nat.le_of_ble_eq_true rfl⟩) rfl (by decide) rfl (fun H2 lH2 hPH2 hSH2 => ?_)
  refine lv_icmp_eq (tgt := 784) hx hb dL_law_172 (by decide) (fun _ => ?_) (fun q => absurd rfl q)
  exact k M2 H2 lH2 i2 hPH2 hSH2
set_option maxHeartbeats 4000000 in
set_option maxRecDepth 100000 in
theorem lwc_readSpans (K : lw_K p l e s m below meth c b L xs Dm cy bb) {M : xv_M} (hi : INV M) {H : Heap} {locs : List Loc} {ls : Array Slot} {i : Nat} (hiL : i + 2 < L) (hP : va_P Dm vwCl (xv_W bb cy M) H) (hS : va_S (fun q => bb < q) s.heap H locs) (hl : lv_has ls 4 (lw_L b bb i)) {Q : State → Prop} (k : ∀ (M2 : xv_M) (H2 : Heap) (locs2 : List Loc), INV M2 → va_P Dm vwCl (xv_W bb cy M2) H2 → va_S (fun q => bb < q) s.heap H2 locs2 → W p l e room_1 s m #[Value.ref b] below meth c H2 locs2 194 15622 Q (F0 m 784 ls [])) : W p l e room_1 s m #[Value.ref b] below meth c H locs 194 15622 Q (F0 m 177 ls []) := by
  have h0 := lv_at hl 0 rfl
  have h1 := lv_at hl 1 rfl
  have h2 := lv_at hl 2 rfl
  have h3 := lv_at hl 3 rfl
  obtain ⟨hx, hb, hml, hown, hts, hG, hbb, hX, hbl, hL⟩ := id K
  obtain ⟨z, M1, M2, o1, e1, e2, i2⟩ := ok_readSpans BC_ok hi
  have o0 := hi.ok
  refine lv_aload_n hx hb dL_law_177 rfl h1 ?_
  refine lw_callV K (ci := 11) (r := 1) (q := (z, M1)) (av := []) (st := []) hP hS hl.1 dL_law_178 rfl (by decide) (by rw [xk_1 o0]) (S_X11_readSpans l 1 M (z, M1) e1) (cwV 0 hts gL_law_X11_readSpans rfl rfl rfl (by decide +kernel) ⟨Nat.le_of_ble_eq_true rfl, Nat.le_of_ble_eq_true rfl⟩) rfl (by decide) rfl (fun H1 lH1 hPH1 hSH1 => ?_)
  refine lv_aload_n hx hb dL_law_181 rfl h2 ?_
  refine lw_callV K (ci := 12) (r := 188) (q := (z, M2)) (av := []) (st := [Value.int (Int32.ofInt z)]) hPH1 hSH1 hl.1 dL_law_182 rfl (by decide) (by rw [xk_188 o1]) (S_X12_readSpans l 188 M1 (z, M2) e2) (cwV 0 hts gL_law_X12_readSpans rfl rfl rfl (by decide +kernel) ⟨Nat.le_of_ble_eq_true rfl, Nat.le_of_ble_eq_true rfl⟩) rfl (by decide) rfl (fun H2 lH2 hPH2 hSH2 => ?_)
  refine lv_icmp_eq (tgt := 784) hx hb dL_law_185 (by decide) (fun _ => ?_) (fun q => absurd rfl q)
  exact k M2 H2 lH2 i2 hPH2 hSH2
set_option maxHeartbeats 4000000 in
set_option maxRecDepth 100000 in
theorem lwc_remove (K : lw_K p l e s m below meth c b L xs Dm cy bb) {M : xv_M} (hi : INV M) {H : Heap} {locs : List Loc} {ls : Array Slot} {i : Nat} (hiL : i + 2 < L) (hP : va_P Dm vwCl (xv_W bb cy M) H) (hS : va_S (fun q => bb < q) s.heap H locs) (hl : lv_has ls 4 (lw_L b bb i)) {Q : State → Prop} (k : ∀ (M2 : xv_M) (H2 : Heap) (locs2 : List Loc), INV M2 → va_P Dm vwCl (xv_W bb cy M2) H2 → va_S (fun q => bb < q) s.heap H2 locs2 → W p l e room_1 s m #[Value.ref b] below meth c H2 locs2 194 15622 Q (F0 m 784 ls [])) : W p l e room_1 s m #[Value.ref b] below meth c H locs 194 15622 Q (F0 m 190 ls []) := by
  have h0 := lv_at hl 0 rfl
  have h1 := lv_at hl 1 rfl
  have h2 := lv_at hl 2 rfl
  have h3 := lv_at hl 3 rfl
  obtain ⟨hx, hb, hml, hown, hts, hG, hbb, hX, hbl, hL⟩ := id K
  obtain ⟨z, M1, M2, o1, e1, e2, i2⟩ := ok_remove BC_ok hi (x := (xs (i + 1)).toInt) (lw_iR _)
  have o0 := hi.ok
  refine lv_aload_n hx hb dL_law_190 rfl h1 ?_
  refine lw_ld K hS h0 h3 (k := 1) rfl (by omega) dL_law_191 dL_law_192 dL_law_193 dL_law_194 dL_law_195 ?_
  refine lw_callV K (ci := 11) (r := 1) (q := (z, M1)) (av := [xi ((xs (i + 1)).toInt)]) (st := []) hP hS hl.1 dL_law_196 rfl (by decide) (by rw [xk_1 o0]) (S_X11_remove l 1 ((xs (i + 1)).toInt) M (z, M1) e1) (cwV 1 hts gL_law_X11_remove rfl rfl rfl (by decide +kernel) ⟨Nat.le_of_ble_eq_true rfl, Nat.le_of_ble_eq_true rfl⟩) rfl (by decide) rfl (fun H1 lH1 hPH1 hSH1 => ?_)
  refine lv_aload_n hx hb dL_law_199 rfl h2 ?_
  refine lw_ld K hSH1 h0 h3 (k := 1) rfl (by omega) dL_law_200 dL_law_201 dL_law_202 dL_law_203 dL_law_204 ?_
  refine lw_callV K (ci := 12) (r := 188) (q := (z, M2)) (av := [xi ((xs (i + 1)).toInt)]) (st := [Value.int (Int32.ofInt z)]) hPH1 hSH1 hl.1 dL_law_205 rfl (by decide) (by rw [xk_188 o1]) (S_X12_remove l 188 ((xs (i + 1)).toInt) M1 (z, M2) e2) (cwV 1 hts gL_law_X12_remove rfl rfl rfl (by decide +kernel) ⟨Nat.le_of_ble_eq_true rfl, Nat.le_of_ble_eq_true rfl⟩) rfl (by decide) rfl (fun H2 lH2 hPH2 hSH2 => ?_)
  refine lv_icmp_eq (tgt := 784) hx hb dL_law_208 (by decide) (fun _ => ?_) (fun q => absurd rfl q)
  exact k M2 H2 lH2 i2 hPH2 hSH2
set_option maxHeartbeats 4000000 in
set_option maxRecDepth 100000 in
theorem lwc_move (K : lw_K p l e s m below meth c b L xs Dm cy bb) {M : xv_M} (hi : INV M) {H : Heap} {locs : List Loc} {ls : Array Slot} {i : Nat} (hiL : i + 2 < L) (hP : va_P Dm vwCl (xv_W bb cy M) H) (hS : va_S (fun q => bb < q) s.heap H locs) (hl : lv_has ls 4 (lw_L b bb i)) {Q : State → Prop} (k : ∀ (M2 : xv_M) (H2 : Heap) (locs2 : List Loc), INV M2 → va_P Dm vwCl (xv_W bb cy M2) H2 → va_S (fun q => bb < q) s.heap H2 locs2 → W p l e room_1 s m #[Value.ref b] below meth c H2 locs2 194 15622 Q (F0 m 784 ls [])) : W p l e room_1 s m #[Value.ref b] below meth c H locs 194 15622 Q (F0 m 213 ls []) := by
  have h0 := lv_at hl 0 rfl
  have h1 := lv_at hl 1 rfl
  have h2 := lv_at hl 2 rfl
  have h3 := lv_at hl 3 rfl
  obtain ⟨hx, hb, hml, hown, hts, hG, hbb, hX, hbl, hL⟩ := id K
  obtain ⟨z, M1, M2, o1, e1, e2, i2⟩ := ok_move BC_ok hi (x := (xs (i + 1)).toInt) (d := (xs (i + 2)).toInt) (lw_iR _) (lw_iR _)
  have o0 := hi.ok
  refine lv_aload_n hx hb dL_law_213 rfl h1 ?_
  refine lw_ld K hS h0 h3 (k := 1) rfl (by omega) dL_law_214 dL_law_215 dL_law_216 dL_law_217 dL_law_218 ?_
  refine lw_ld K hS h0 h3 (k := 2) rfl (by omega) dL_law_219 dL_law_220 dL_law_221 dL_law_222 dL_law_223 ?_
  refine lw_callV K (ci := 11) (r := 1) (q := (z, M1)) (av := [xi ((xs (i + 1)).toInt), xi ((xs (i + 2)).toInt)]) (st := []) hP hS hl.1 dL_law_224 rfl (by decide) (by rw [xk_1 o0]) (S_X11_move l 1 ((xs (i + 1)).toInt) ((xs (i + 2)).toInt) M (z, M1) e1) (cwV 2 hts gL_law_X11_move rfl rfl rfl (by decide +kernel) ⟨Nat.le_of_ble_eq_true rfl, Nat.le_of_ble_eq_true rfl⟩) rfl (by decide) rfl (fun H1 lH1 hPH1 hSH1 => ?_)
  refine lv_aload_n hx hb dL_law_227 rfl h2 ?_
  refine lw_ld K hSH1 h0 h3 (k := 1) rfl (by omega) dL_law_228 dL_law_229 dL_law_230 dL_law_231 dL_law_232 ?_
  refine lw_ld K hSH1 h0 h3 (k := 2) rfl (by omega) dL_law_233 dL_law_234 dL_law_235 dL_law_236 dL_law_237 ?_
  refine lw_callV K (ci := 12) (r := 188) (q := (z, M2)) (av := [xi ((xs (i + 1)).toInt), xi ((xs (i + 2)).toInt)]) (st := [Value.int (Int32.ofInt z)]) hPH1 hSH1 hl.1 dL_law_238 rfl (by decide) (by rw [xk_188 o1]) (S_X12_move l 188 ((xs (i + 1)).toInt) ((xs (i + 2)).toInt) M1 (z, M2) e2) (cwV 2 hts gL_law_X12_move rfl rfl rfl (by decide +kernel) ⟨Nat.le_of_ble_eq_true rfl, Nat.le_of_ble_eq_true rfl⟩) rfl (by decide) rfl (fun H2 lH2 hPH2 hSH2 => ?_)
  refine lv_icmp_eq (tgt := 784) hx hb dL_law_241 (by decide) (fun _ => ?_) (fun q => absurd rfl q)
  exact k M2 H2 lH2 i2 hPH2 hSH2
set_option maxHeartbeats 4000000 in
set_option maxRecDepth 100000 in
theorem lwc_come (K : lw_K p l e s m below meth c b L xs Dm cy bb) {M : xv_M} (hi : INV M) {H : Heap} {locs : List Loc} {ls : Array Slot} {i : Nat} (hiL : i + 2 < L) (hP : va_P Dm vwCl (xv_W bb cy M) H) (hS : va_S (fun q => bb < q) s.heap H locs) (hl : lv_has ls 4 (lw_L b bb i)) {Q : State → Prop} (k : ∀ (M2 : xv_M) (H2 : Heap) (locs2 : List Loc), INV M2 → va_P Dm vwCl (xv_W bb cy M2) H2 → va_S (fun q => bb < q) s.heap H2 locs2 → W p l e room_1 s m #[Value.ref b] below meth c H2 locs2 194 15622 Q (F0 m 784 ls [])) : W p l e room_1 s m #[Value.ref b] below meth c H locs 194 15622 Q (F0 m 246 ls []) := by
  have h0 := lv_at hl 0 rfl
  have h1 := lv_at hl 1 rfl
  have h2 := lv_at hl 2 rfl
  have h3 := lv_at hl 3 rfl
  obtain ⟨hx, hb, hml, hown, hts, hG, hbb, hX, hbl, hL⟩ := id K
  obtain ⟨z, M1, M2, o1, e1, e2, i2⟩ := ok_come BC_ok hi (p := (xs (i + 1)).toInt) (v := (xs (i + 2)).toInt) (lw_iR _) (lw_iR _)
  have o0 := hi.ok
  refine lv_aload_n hx hb dL_law_246 rfl h1 ?_
  refine lw_ld K hS h0 h3 (k := 1) rfl (by omega) dL_law_247 dL_law_248 dL_law_249 dL_law_250 dL_law_251 ?_
  refine lw_ld K hS h0 h3 (k := 2) rfl (by omega) dL_law_252 dL_law_253 dL_law_254 dL_law_255 dL_law_256 ?_
  refine lw_callV K (ci := 11) (r := 1) (q := (z, M1)) (av := [xi ((xs (i + 1)).toInt), xi ((xs (i + 2)).toInt)]) (st := []) hP hS hl.1 dL_law_257 rfl (by decide) (by rw [xk_1 o0]) (S_X11_come l 1 ((xs (i + 1)).toInt) ((xs (i + 2)).toInt) M (z, M1) e1) (cwV 2 hts gL_law_X11_come rfl rfl rfl (by decide +kernel) ⟨Nat.le_of_ble_eq_true rfl, Nat.le_of_ble_eq_true rfl⟩) rfl (by decide) rfl (fun H1 lH1 hPH1 hSH1 => ?_)
  refine lv_aload_n hx hb dL_law_260 rfl h2 ?_
  refine lw_ld K hSH1 h0 h3 (k := 1) rfl (by omega) dL_law_261 dL_law_262 dL_law_263 dL_law_264 dL_law_265 ?_
  refine lw_ld K hSH1 h0 h3 (k := 2) rfl (by omega) dL_law_266 dL_law_267 dL_law_268 dL_law_269 dL_law_270 ?_
  refine lw_callV K (ci := 12) (r := 188) (q := (z, M2)) (av := [xi ((xs (i + 1)).toInt), xi ((xs (i + 2)).toInt)]) (st := [Value.int (Int32.ofInt z)]) hPH1 hSH1 hl.1 dL_law_271 rfl (by decide) (by rw [xk_188 o1]) (S_X12_come l 188 ((xs (i + 1)).toInt) ((xs (i + 2)).toInt) M1 (z, M2) e2) (cwV 2 hts gL_law_X12_come rfl rfl rfl (by decide +kernel) ⟨Nat.le_of_ble_eq_true rfl, Nat.le_of_ble_eq_true rfl⟩) rfl (by decide) rfl (fun H2 lH2 hPH2 hSH2 => ?_)
  refine lv_icmp_eq (tgt := 784) hx hb dL_law_274 (by decide) (fun _ => ?_) (fun q => absurd rfl q)
  exact k M2 H2 lH2 i2 hPH2 hSH2
set_option maxHeartbeats 4000000 in
set_option maxRecDepth 100000 in
theorem lwc_put (K : lw_K p l e s m below meth c b L xs Dm cy bb) {M : xv_M} (hi : INV M) {H : Heap} {locs : List Loc} {ls : Array Slot} {i : Nat} (hiL : i + 2 < L) (hP : va_P Dm vwCl (xv_W bb cy M) H) (hS : va_S (fun q => bb < q) s.heap H locs) (hl : lv_has ls 4 (lw_L b bb i)) {Q : State → Prop} (k : ∀ (M2 : xv_M) (H2 : Heap) (locs2 : List Loc), INV M2 → va_P Dm vwCl (xv_W bb cy M2) H2 → va_S (fun q => bb < q) s.heap H2 locs2 → W p l e room_1 s m #[Value.ref b] below meth c H2 locs2 194 15622 Q (F0 m 784 ls [])) : W p l e room_1 s m #[Value.ref b] below meth c H locs 194 15622 Q (F0 m 279 ls []) := by
  have h0 := lv_at hl 0 rfl
  have h1 := lv_at hl 1 rfl
  have h2 := lv_at hl 2 rfl
  have h3 := lv_at hl 3 rfl
  obtain ⟨hx, hb, hml, hown, hts, hG, hbb, hX, hbl, hL⟩ := id K
  obtain ⟨z, M1, M2, o1, e1, e2, i2⟩ := ok_put BC_ok hi (x := (xs (i + 1)).toInt) (p := (xs (i + 2)).toInt) (lw_iR _) (lw_iR _)
  have o0 := hi.ok
  refine lv_aload_n hx hb dL_law_279 rfl h1 ?_
  refine lw_ld K hS h0 h3 (k := 1) rfl (by omega) dL_law_280 dL_law_281 dL_law_282 dL_law_283 dL_law_284 ?_
  refine lw_ld K hS h0 h3 (k := 2) rfl (by omega) dL_law_285 dL_law_286 dL_law_287 dL_law_288 dL_law_289 ?_
  refine lw_callV K (ci := 11) (r := 1) (q := (z, M1)) (av := [xi ((xs (i + 1)).toInt), xi ((xs (i + 2)).toInt)]) (st := []) hP hS hl.1 dL_law_290 rfl (by decide) (by rw [xk_1 o0]) (S_X11_put l 1 ((xs (i + 1)).toInt) ((xs (i + 2)).toInt) M (z, M1) e1) (cwV 2 hts gL_law_X11_put rfl rfl rfl (by decide +kernel) ⟨Nat.le_of_ble_eq_true rfl, Nat.le_of_ble_eq_true rfl⟩) rfl (by decide) rfl (fun H1 lH1 hPH1 hSH1 => ?_)
  refine lv_aload_n hx hb dL_law_293 rfl h2 ?_
  refine lw_ld K hSH1 h0 h3 (k := 1) rfl (by omega) dL_law_294 dL_law_295 dL_law_296 dL_law_297 dL_law_298 ?_
  refine lw_ld K hSH1 h0 h3 (k := 2) rfl (by omega) dL_law_299 dL_law_300 dL_law_301 dL_law_302 dL_law_303 ?_
  refine lw_callV K (ci := 12) (r := 188) (q := (z, M2)) (av := [xi ((xs (i + 1)).toInt), xi ((xs (i + 2)).toInt)]) (st := [Value.int (Int32.ofInt z)]) hPH1 hSH1 hl.1 dL_law_304 rfl (by decide) (by rw [xk_188 o1]) (S_X12_put l 188 ((xs (i + 1)).toInt) ((xs (i + 2)).toInt) M1 (z, M2) e2) (cwV 2 hts gL_law_X12_put rfl rfl rfl (by decide +kernel) ⟨Nat.le_of_ble_eq_true rfl, Nat.le_of_ble_eq_true rfl⟩) rfl (by decide) rfl (fun H2 lH2 hPH2 hSH2 => ?_)
  refine lv_icmp_eq (tgt := 784) hx hb dL_law_307 (by decide) (fun _ => ?_) (fun q => absurd rfl q)
  exact k M2 H2 lH2 i2 hPH2 hSH2
set_option maxHeartbeats 4000000 in
set_option maxRecDepth 100000 in
theorem lwc_speed (K : lw_K p l e s m below meth c b L xs Dm cy bb) {M : xv_M} (hi : INV M) {H : Heap} {locs : List Loc} {ls : Array Slot} {i : Nat} (hiL : i + 2 < L) (hP : va_P Dm vwCl (xv_W bb cy M) H) (hS : va_S (fun q => bb < q) s.heap H locs) (hl : lv_has ls 4 (lw_L b bb i)) {Q : State → Prop} (k : ∀ (M2 : xv_M) (H2 : Heap) (locs2 : List Loc), INV M2 → va_P Dm vwCl (xv_W bb cy M2) H2 → va_S (fun q => bb < q) s.heap H2 locs2 → W p l e room_1 s m #[Value.ref b] below meth c H2 locs2 194 15622 Q (F0 m 784 ls [])) : W p l e room_1 s m #[Value.ref b] below meth c H locs 194 15622 Q (F0 m 312 ls []) := by
  have h0 := lv_at hl 0 rfl
  have h1 := lv_at hl 1 rfl
  have h2 := lv_at hl 2 rfl
  have h3 := lv_at hl 3 rfl
  obtain ⟨hx, hb, hml, hown, hts, hG, hbb, hX, hbl, hL⟩ := id K
  obtain ⟨z, M1, M2, o1, e1, e2, i2⟩ := ok_speed hi (x := (xs (i + 1)).toInt) (v := (xs (i + 2)).toInt) (lw_iR _) (lw_iR _)
  have o0 := hi.ok
  refine lv_aload_n hx hb dL_law_312 rfl h1 ?_
  refine lw_ld K hS h0 h3 (k := 1) rfl (by omega) dL_law_313 dL_law_314 dL_law_315 dL_law_316 dL_law_317 ?_
  refine lw_ld K hS h0 h3 (k := 2) rfl (by omega) dL_law_318 dL_law_319 dL_law_320 dL_law_321 dL_law_322 ?_
  refine lw_callV K (ci := 11) (r := 1) (q := (z, M1)) (av := [xi ((xs (i + 1)).toInt), xi ((xs (i + 2)).toInt)]) (st := []) hP hS hl.1 dL_law_323 rfl (by decide) (by rw [xk_1 o0]) (S_X11_speed l 1 ((xs (i + 1)).toInt) ((xs (i + 2)).toInt) M (z, M1) e1) (cwV 2 hts gL_law_X11_speed rfl rfl rfl (by decide +kernel) ⟨Nat.le_of_ble_eq_true rfl, Nat.le_of_ble_eq_true rfl⟩) rfl (by decide) rfl (fun H1 lH1 hPH1 hSH1 => ?_)
  refine lv_aload_n hx hb dL_law_326 rfl h2 ?_
  refine lw_ld K hSH1 h0 h3 (k := 1) rfl (by omega) dL_law_327 dL_law_328 dL_law_329 dL_law_330 dL_law_331 ?_
  refine lw_ld K hSH1 h0 h3 (k := 2) rfl (by omega) dL_law_332 dL_law_333 dL_law_334 dL_law_335 dL_law_336 ?_
  refine lw_callV K (ci := 12) (r := 188) (q := (z, M2)) (av := [xi ((xs (i + 1)).toInt), xi ((xs (i + 2)).toInt)]) (st := [Value.int (Int32.ofInt z)]) hPH1 hSH1 hl.1 dL_law_337 rfl (by decide) (by rw [xk_188 o1]) (S_X12_speed l 188 ((xs (i + 1)).toInt) ((xs (i + 2)).toInt) M1 (z, M2) e2) (cwV 2 hts gL_law_X12_speed rfl rfl rfl (by decide +kernel) ⟨Nat.le_of_ble_eq_true rfl, Nat.le_of_ble_eq_true rfl⟩) rfl (by decide) rfl (fun H2 lH2 hPH2 hSH2 => ?_)
  refine lv_icmp_eq (tgt := 784) hx hb dL_law_340 (by decide) (fun _ => ?_) (fun q => absurd rfl q)
  exact k M2 H2 lH2 i2 hPH2 hSH2
set_option maxHeartbeats 4000000 in
set_option maxRecDepth 100000 in
theorem lwc_pass (K : lw_K p l e s m below meth c b L xs Dm cy bb) {M : xv_M} (hi : INV M) {H : Heap} {locs : List Loc} {ls : Array Slot} {i : Nat} (hiL : i + 2 < L) (hP : va_P Dm vwCl (xv_W bb cy M) H) (hS : va_S (fun q => bb < q) s.heap H locs) (hl : lv_has ls 4 (lw_L b bb i)) {Q : State → Prop} (k : ∀ (M2 : xv_M) (H2 : Heap) (locs2 : List Loc), INV M2 → va_P Dm vwCl (xv_W bb cy M2) H2 → va_S (fun q => bb < q) s.heap H2 locs2 → W p l e room_1 s m #[Value.ref b] below meth c H2 locs2 194 15622 Q (F0 m 784 ls [])) : W p l e room_1 s m #[Value.ref b] below meth c H locs 194 15622 Q (F0 m 345 ls []) := by
  have h0 := lv_at hl 0 rfl
  have h1 := lv_at hl 1 rfl
  have h2 := lv_at hl 2 rfl
  have h3 := lv_at hl 3 rfl
  obtain ⟨hx, hb, hml, hown, hts, hG, hbb, hX, hbl, hL⟩ := id K
  obtain ⟨z, M1, M2, o1, e1, e2, i2⟩ := ok_pass BC_ok hi (n := (xs (i + 1)).toInt) (lw_iR _)
  have o0 := hi.ok
  refine lv_aload_n hx hb dL_law_345 rfl h1 ?_
  refine lw_ld K hS h0 h3 (k := 1) rfl (by omega) dL_law_346 dL_law_347 dL_law_348 dL_law_349 dL_law_350 ?_
  refine lw_callV K (ci := 11) (r := 1) (q := (z, M1)) (av := [xi ((xs (i + 1)).toInt)]) (st := []) hP hS hl.1 dL_law_351 rfl (by decide) (by rw [xk_1 o0]) (S_X11_pass l 1 ((xs (i + 1)).toInt) M (z, M1) e1) (cwV 1 hts gL_law_X11_pass rfl rfl rfl (by decide +kernel) ⟨Nat.le_of_ble_eq_true rfl, Nat.le_of_ble_eq_true rfl⟩) rfl (by decide) rfl (fun H1 lH1 hPH1 hSH1 => ?_)
  refine lv_aload_n hx hb dL_law_354 rfl h2 ?_
  refine lw_ld K hSH1 h0 h3 (k := 1) rfl (by omega) dL_law_355 dL_law_356 dL_law_357 dL_law_358 dL_law_359 ?_
  refine lw_callV K (ci := 12) (r := 188) (q := (z, M2)) (av := [xi ((xs (i + 1)).toInt)]) (st := [Value.int (Int32.ofInt z)]) hPH1 hSH1 hl.1 dL_law_360 rfl (by decide) (by rw [xk_188 o1]) (S_X12_pass l 188 ((xs (i + 1)).toInt) M1 (z, M2) e2) (cwV 1 hts gL_law_X12_pass rfl rfl rfl (by decide +kernel) ⟨Nat.le_of_ble_eq_true rfl, Nat.le_of_ble_eq_true rfl⟩) rfl (by decide) rfl (fun H2 lH2 hPH2 hSH2 => ?_)
  refine lv_icmp_eq (tgt := 784) hx hb dL_law_363 (by decide) (fun _ => ?_) (fun q => absurd rfl q)
  exact k M2 H2 lH2 i2 hPH2 hSH2
set_option maxHeartbeats 4000000 in
set_option maxRecDepth 100000 in
theorem lwc_type (K : lw_K p l e s m below meth c b L xs Dm cy bb) {M : xv_M} (hi : INV M) {H : Heap} {locs : List Loc} {ls : Array Slot} {i : Nat} (hiL : i + 2 < L) (hP : va_P Dm vwCl (xv_W bb cy M) H) (hS : va_S (fun q => bb < q) s.heap H locs) (hl : lv_has ls 4 (lw_L b bb i)) {Q : State → Prop} (k : ∀ (M2 : xv_M) (H2 : Heap) (locs2 : List Loc), INV M2 → va_P Dm vwCl (xv_W bb cy M2) H2 → va_S (fun q => bb < q) s.heap H2 locs2 → W p l e room_1 s m #[Value.ref b] below meth c H2 locs2 194 15622 Q (F0 m 784 ls [])) : W p l e room_1 s m #[Value.ref b] below meth c H locs 194 15622 Q (F0 m 368 ls []) := by
  have h0 := lv_at hl 0 rfl
  have h1 := lv_at hl 1 rfl
  have h2 := lv_at hl 2 rfl
  have h3 := lv_at hl 3 rfl
  obtain ⟨hx, hb, hml, hown, hts, hG, hbb, hX, hbl, hL⟩ := id K
  obtain ⟨cw, hcw, ecw⟩ := lw_i2c (xs (i + 1))
  obtain ⟨z, M1, M2, o1, e1, e2, i2⟩ := ok_type hi (c := (cw : Int)) (by omega)
  have o0 := hi.ok
  refine lv_aload_n hx hb dL_law_368 rfl h1 ?_
  refine lw_ld K hS h0 h3 (k := 1) rfl (by omega) dL_law_369 dL_law_370 dL_law_371 dL_law_372 dL_law_373 ?_
  refine lv_i2c (v := Int32.ofInt (cw : Int)) hx hb dL_law_374 (by rw [Int32.ofInt_toInt]; exact ecw) ?_
  refine lw_callV K (ci := 11) (r := 1) (q := (z, M1)) (av := [xi (cw : Int)]) (st := []) hP hS hl.1 dL_law_375 rfl (by decide) (by rw [xk_1 o0]) (S_X11_type l 1 (cw : Int) M (z, M1) e1) (cwV 1 hts gL_law_X11_type rfl rfl rfl (by decide +kernel) ⟨Nat.le_of_ble_eq_true rfl, Nat.le_of_ble_eq_true rfl⟩) rfl (by decide) rfl (fun H1 lH1 hPH1 hSH1 => ?_)
  refine lv_aload_n hx hb dL_law_378 rfl h2 ?_
  refine lw_ld K hSH1 h0 h3 (k := 1) rfl (by omega) dL_law_379 dL_law_380 dL_law_381 dL_law_382 dL_law_383 ?_
  refine lv_i2c (v := Int32.ofInt (cw : Int)) hx hb dL_law_384 (by rw [Int32.ofInt_toInt]; exact ecw) ?_
  refine lw_callV K (ci := 12) (r := 188) (q := (z, M2)) (av := [xi (cw : Int)]) (st := [Value.int (Int32.ofInt z)]) hPH1 hSH1 hl.1 dL_law_385 rfl (by decide) (by rw [xk_188 o1]) (S_X12_type l 188 (cw : Int) M1 (z, M2) e2) (cwV 1 hts gL_law_X12_type rfl rfl rfl (by decide +kernel) ⟨Nat.le_of_ble_eq_true rfl, Nat.le_of_ble_eq_true rfl⟩) rfl (by decide) rfl (fun H2 lH2 hPH2 hSH2 => ?_)
  refine lv_icmp_eq (tgt := 784) hx hb dL_law_388 (by decide) (fun _ => ?_) (fun q => absurd rfl q)
  exact k M2 H2 lH2 i2 hPH2 hSH2
set_option maxHeartbeats 4000000 in
set_option maxRecDepth 100000 in
theorem lwc_clearText (K : lw_K p l e s m below meth c b L xs Dm cy bb) {M : xv_M} (hi : INV M) {H : Heap} {locs : List Loc} {ls : Array Slot} {i : Nat} (hiL : i + 2 < L) (hP : va_P Dm vwCl (xv_W bb cy M) H) (hS : va_S (fun q => bb < q) s.heap H locs) (hl : lv_has ls 4 (lw_L b bb i)) {Q : State → Prop} (k : ∀ (M2 : xv_M) (H2 : Heap) (locs2 : List Loc), INV M2 → va_P Dm vwCl (xv_W bb cy M2) H2 → va_S (fun q => bb < q) s.heap H2 locs2 → W p l e room_1 s m #[Value.ref b] below meth c H2 locs2 194 15622 Q (F0 m 784 ls [])) : W p l e room_1 s m #[Value.ref b] below meth c H locs 194 15622 Q (F0 m 393 ls []) := by
  have h0 := lv_at hl 0 rfl
  have h1 := lv_at hl 1 rfl
  have h2 := lv_at hl 2 rfl
  have h3 := lv_at hl 3 rfl
  obtain ⟨hx, hb, hml, hown, hts, hG, hbb, hX, hbl, hL⟩ := id K
  obtain ⟨z, M1, M2, o1, e1, e2, i2⟩ := ok_clearText hi
  have o0 := hi.ok
  refine lv_aload_n hx hb dL_law_393 rfl h1 ?_
  refine lw_callV K (ci := 11) (r := 1) (q := (z, M1)) (av := []) (st := []) hP hS hl.1 dL_law_394 rfl (by decide) (by rw [xk_1 o0]) (S_X11_clearText l 1 M (z, M1) e1) (cwV 0 hts gL_law_X11_clearText rfl rfl rfl (by decide +kernel) ⟨Nat.le_of_ble_eq_true rfl, Nat.le_of_ble_eq_true rfl⟩) rfl (by decide) rfl (fun H1 lH1 hPH1 hSH1 => ?_)
  refine lv_aload_n hx hb dL_law_397 rfl h2 ?_
  refine lw_callV K (ci := 12) (r := 188) (q := (z, M2)) (av := []) (st := [Value.int (Int32.ofInt z)]) hPH1 hSH1 hl.1 dL_law_398 rfl (by decide) (by rw [xk_188 o1]) (S_X12_clearText l 188 M1 (z, M2) e2) (cwV 0 hts gL_law_X12_clearText rfl rfl rfl (by decide +kernel) ⟨Nat.le_of_ble_eq_true rfl, Nat.le_of_ble_eq_true rfl⟩) rfl (by decide) rfl (fun H2 lH2 hPH2 hSH2 => ?_)
  refine lv_icmp_eq (tgt := 784) hx hb dL_law_401 (by decide) (fun _ => ?_) (fun q => absurd rfl q)
  exact k M2 H2 lH2 i2 hPH2 hSH2
set_option maxHeartbeats 4000000 in
set_option maxRecDepth 100000 in
theorem lwc_undo (K : lw_K p l e s m below meth c b L xs Dm cy bb) {M : xv_M} (hi : INV M) {H : Heap} {locs : List Loc} {ls : Array Slot} {i : Nat} (hiL : i + 2 < L) (hP : va_P Dm vwCl (xv_W bb cy M) H) (hS : va_S (fun q => bb < q) s.heap H locs) (hl : lv_has ls 4 (lw_L b bb i)) {Q : State → Prop} (k : ∀ (M2 : xv_M) (H2 : Heap) (locs2 : List Loc), INV M2 → va_P Dm vwCl (xv_W bb cy M2) H2 → va_S (fun q => bb < q) s.heap H2 locs2 → W p l e room_1 s m #[Value.ref b] below meth c H2 locs2 194 15622 Q (F0 m 784 ls [])) : W p l e room_1 s m #[Value.ref b] below meth c H locs 194 15622 Q (F0 m 406 ls []) := by
  have h0 := lv_at hl 0 rfl
  have h1 := lv_at hl 1 rfl
  have h2 := lv_at hl 2 rfl
  have h3 := lv_at hl 3 rfl
  obtain ⟨hx, hb, hml, hown, hts, hG, hbb, hX, hbl, hL⟩ := id K
  obtain ⟨z, M1, M2, o1, e1, e2, i2⟩ := ok_undo hi
  have o0 := hi.ok
  refine lv_aload_n hx hb dL_law_406 rfl h1 ?_
  refine lw_callV K (ci := 11) (r := 1) (q := (z, M1)) (av := []) (st := []) hP hS hl.1 dL_law_407 rfl (by decide) (by rw [xk_1 o0]) (S_X11_undo l 1 M (z, M1) e1) (cwV 0 hts gL_law_X11_undo rfl rfl rfl (by decide +kernel) ⟨Nat.le_of_ble_eq_true rfl, Nat.le_of_ble_eq_true rfl⟩) rfl (by decide) rfl (fun H1 lH1 hPH1 hSH1 => ?_)
  refine lv_aload_n hx hb dL_law_410 rfl h2 ?_
  refine lw_callV K (ci := 12) (r := 188) (q := (z, M2)) (av := []) (st := [Value.int (Int32.ofInt z)]) hPH1 hSH1 hl.1 dL_law_411 rfl (by decide) (by rw [xk_188 o1]) (S_X12_undo l 188 M1 (z, M2) e2) (cwV 0 hts gL_law_X12_undo rfl rfl rfl (by decide +kernel) ⟨Nat.le_of_ble_eq_true rfl, Nat.le_of_ble_eq_true rfl⟩) rfl (by decide) rfl (fun H2 lH2 hPH2 hSH2 => ?_)
  refine lv_icmp_eq (tgt := 784) hx hb dL_law_414 (by decide) (fun _ => ?_) (fun q => absurd rfl q)
  exact k M2 H2 lH2 i2 hPH2 hSH2
set_option maxHeartbeats 4000000 in
set_option maxRecDepth 100000 in
theorem lwc_keep (K : lw_K p l e s m below meth c b L xs Dm cy bb) {M : xv_M} (hi : INV M) {H : Heap} {locs : List Loc} {ls : Array Slot} {i : Nat} (hiL : i + 2 < L) (hP : va_P Dm vwCl (xv_W bb cy M) H) (hS : va_S (fun q => bb < q) s.heap H locs) (hl : lv_has ls 4 (lw_L b bb i)) {Q : State → Prop} (k : ∀ (M2 : xv_M) (H2 : Heap) (locs2 : List Loc), INV M2 → va_P Dm vwCl (xv_W bb cy M2) H2 → va_S (fun q => bb < q) s.heap H2 locs2 → W p l e room_1 s m #[Value.ref b] below meth c H2 locs2 194 15622 Q (F0 m 784 ls [])) : W p l e room_1 s m #[Value.ref b] below meth c H locs 194 15622 Q (F0 m 419 ls []) := by
  have h0 := lv_at hl 0 rfl
  have h1 := lv_at hl 1 rfl
  have h2 := lv_at hl 2 rfl
  have h3 := lv_at hl 3 rfl
  obtain ⟨hx, hb, hml, hown, hts, hG, hbb, hX, hbl, hL⟩ := id K
  obtain ⟨z, M1, M2, o1, e1, e2, i2⟩ := ok_keep BC_ok hi
  have o0 := hi.ok
  refine lv_aload_n hx hb dL_law_419 rfl h1 ?_
  refine lw_callV K (ci := 11) (r := 1) (q := (z, M1)) (av := []) (st := []) hP hS hl.1 dL_law_420 rfl (by decide) (by rw [xk_1 o0]) (S_X11_keep l 1 M (z, M1) e1) (cwV 0 hts gL_law_X11_keep rfl rfl rfl (by decide +kernel) ⟨Nat.le_of_ble_eq_true rfl, Nat.le_of_ble_eq_true rfl⟩) rfl (by decide) rfl (fun H1 lH1 hPH1 hSH1 => ?_)
  refine lv_aload_n hx hb dL_law_423 rfl h2 ?_
  refine lw_callV K (ci := 12) (r := 188) (q := (z, M2)) (av := []) (st := [Value.int (Int32.ofInt z)]) hPH1 hSH1 hl.1 dL_law_424 rfl (by decide) (by rw [xk_188 o1]) (S_X12_keep l 188 M1 (z, M2) e2) (cwV 0 hts gL_law_X12_keep rfl rfl rfl (by decide +kernel) ⟨Nat.le_of_ble_eq_true rfl, Nat.le_of_ble_eq_true rfl⟩) rfl (by decide) rfl (fun H2 lH2 hPH2 hSH2 => ?_)
  refine lv_icmp_eq (tgt := 784) hx hb dL_law_427 (by decide) (fun _ => ?_) (fun q => absurd rfl q)
  exact k M2 H2 lH2 i2 hPH2 hSH2
set_option maxHeartbeats 4000000 in
set_option maxRecDepth 100000 in
theorem lwc_restore (K : lw_K p l e s m below meth c b L xs Dm cy bb) {M : xv_M} (hi : INV M) {H : Heap} {locs : List Loc} {ls : Array Slot} {i : Nat} (hiL : i + 2 < L) (hP : va_P Dm vwCl (xv_W bb cy M) H) (hS : va_S (fun q => bb < q) s.heap H locs) (hl : lv_has ls 4 (lw_L b bb i)) {Q : State → Prop} (k : ∀ (M2 : xv_M) (H2 : Heap) (locs2 : List Loc), INV M2 → va_P Dm vwCl (xv_W bb cy M2) H2 → va_S (fun q => bb < q) s.heap H2 locs2 → W p l e room_1 s m #[Value.ref b] below meth c H2 locs2 194 15622 Q (F0 m 784 ls [])) : W p l e room_1 s m #[Value.ref b] below meth c H locs 194 15622 Q (F0 m 432 ls []) := by
  have h0 := lv_at hl 0 rfl
  have h1 := lv_at hl 1 rfl
  have h2 := lv_at hl 2 rfl
  have h3 := lv_at hl 3 rfl
  obtain ⟨hx, hb, hml, hown, hts, hG, hbb, hX, hbl, hL⟩ := id K
  obtain ⟨z, M1, M2, o1, e1, e2, i2⟩ := ok_restore BC_ok hi
  have o0 := hi.ok
  refine lv_aload_n hx hb dL_law_432 rfl h1 ?_
  refine lw_callV K (ci := 11) (r := 1) (q := (z, M1)) (av := []) (st := []) hP hS hl.1 dL_law_433 rfl (by decide) (by rw [xk_1 o0]) (S_X11_restore l 1 M (z, M1) e1) (cwV 0 hts gL_law_X11_restore rfl rfl rfl (by decide +kernel) ⟨Nat.le_of_ble_eq_true rfl, Nat.le_of_ble_eq_true rfl⟩) rfl (by decide) rfl (fun H1 lH1 hPH1 hSH1 => ?_)
  refine lv_aload_n hx hb dL_law_436 rfl h2 ?_
  refine lw_callV K (ci := 12) (r := 188) (q := (z, M2)) (av := []) (st := [Value.int (Int32.ofInt z)]) hPH1 hSH1 hl.1 dL_law_437 rfl (by decide) (by rw [xk_188 o1]) (S_X12_restore l 188 M1 (z, M2) e2) (cwV 0 hts gL_law_X12_restore rfl rfl rfl (by decide +kernel) ⟨Nat.le_of_ble_eq_true rfl, Nat.le_of_ble_eq_true rfl⟩) rfl (by decide) rfl (fun H2 lH2 hPH2 hSH2 => ?_)
  refine lv_icmp_eq (tgt := 784) hx hb dL_law_440 (by decide) (fun _ => ?_) (fun q => absurd rfl q)
  exact k M2 H2 lH2 i2 hPH2 hSH2
set_option maxHeartbeats 4000000 in
set_option maxRecDepth 100000 in
theorem lwc_span (K : lw_K p l e s m below meth c b L xs Dm cy bb) {M : xv_M} (hi : INV M) {H : Heap} {locs : List Loc} {ls : Array Slot} {i : Nat} (hiL : i + 2 < L) (hP : va_P Dm vwCl (xv_W bb cy M) H) (hS : va_S (fun q => bb < q) s.heap H locs) (hl : lv_has ls 4 (lw_L b bb i)) {Q : State → Prop} (k : ∀ (M2 : xv_M) (H2 : Heap) (locs2 : List Loc), INV M2 → va_P Dm vwCl (xv_W bb cy M2) H2 → va_S (fun q => bb < q) s.heap H2 locs2 → W p l e room_1 s m #[Value.ref b] below meth c H2 locs2 194 15622 Q (F0 m 784 ls [])) : W p l e room_1 s m #[Value.ref b] below meth c H locs 194 15622 Q (F0 m 445 ls []) := by
  have h0 := lv_at hl 0 rfl
  have h1 := lv_at hl 1 rfl
  have h2 := lv_at hl 2 rfl
  have h3 := lv_at hl 3 rfl
  obtain ⟨hx, hb, hml, hown, hts, hG, hbb, hX, hbl, hL⟩ := id K
  obtain ⟨z, M1, M2, o1, e1, e2, i2⟩ := ok_span hi (x := (xs (i + 1)).toInt) (t := (xs (i + 2)).toInt) (lw_iR _) (lw_iR _)
  have o0 := hi.ok
  refine lv_aload_n hx hb dL_law_445 rfl h1 ?_
  refine lw_ld K hS h0 h3 (k := 1) rfl (by omega) dL_law_446 dL_law_447 dL_law_448 dL_law_449 dL_law_450 ?_
  refine lw_ld K hS h0 h3 (k := 2) rfl (by omega) dL_law_451 dL_law_452 dL_law_453 dL_law_454 dL_law_455 ?_
  refine lw_callV K (ci := 11) (r := 1) (q := (z, M1)) (av := [xi ((xs (i + 1)).toInt), xi ((xs (i + 2)).toInt)]) (st := []) hP hS hl.1 dL_law_456 rfl (by decide) (by rw [xk_1 o0]) (S_X11_span l 1 ((xs (i + 1)).toInt) ((xs (i + 2)).toInt) M (z, M1) e1) (cwV 2 hts gL_law_X11_span rfl rfl rfl (by decide +kernel) ⟨Nat.le_of_ble_eq_true rfl, Nat.le_of_ble_eq_true rfl⟩) rfl (by decide) rfl (fun H1 lH1 hPH1 hSH1 => ?_)
  refine lv_aload_n hx hb dL_law_459 rfl h2 ?_
  refine lw_ld K hSH1 h0 h3 (k := 1) rfl (by omega) dL_law_460 dL_law_461 dL_law_462 dL_law_463 dL_law_464 ?_
  refine lw_ld K hSH1 h0 h3 (k := 2) rfl (by omega) dL_law_465 dL_law_466 dL_law_467 dL_law_468 dL_law_469 ?_
  refine lw_callV K (ci := 12) (r := 188) (q := (z, M2)) (av := [xi ((xs (i + 1)).toInt), xi ((xs (i + 2)).toInt)]) (st := [Value.int (Int32.ofInt z)]) hPH1 hSH1 hl.1 dL_law_470 rfl (by decide) (by rw [xk_188 o1]) (S_X12_span l 188 ((xs (i + 1)).toInt) ((xs (i + 2)).toInt) M1 (z, M2) e2) (cwV 2 hts gL_law_X12_span rfl rfl rfl (by decide +kernel) ⟨Nat.le_of_ble_eq_true rfl, Nat.le_of_ble_eq_true rfl⟩) rfl (by decide) rfl (fun H2 lH2 hPH2 hSH2 => ?_)
  refine lv_icmp_eq (tgt := 784) hx hb dL_law_473 (by decide) (fun _ => ?_) (fun q => absurd rfl q)
  exact k M2 H2 lH2 i2 hPH2 hSH2
set_option maxHeartbeats 4000000 in
set_option maxRecDepth 100000 in
theorem lwc_walker (K : lw_K p l e s m below meth c b L xs Dm cy bb) {M : xv_M} (hi : INV M) {H : Heap} {locs : List Loc} {ls : Array Slot} {i : Nat} (hiL : i + 2 < L) (hP : va_P Dm vwCl (xv_W bb cy M) H) (hS : va_S (fun q => bb < q) s.heap H locs) (hl : lv_has ls 4 (lw_L b bb i)) {Q : State → Prop} (k : ∀ (M2 : xv_M) (H2 : Heap) (locs2 : List Loc), INV M2 → va_P Dm vwCl (xv_W bb cy M2) H2 → va_S (fun q => bb < q) s.heap H2 locs2 → W p l e room_1 s m #[Value.ref b] below meth c H2 locs2 194 15622 Q (F0 m 784 ls [])) : W p l e room_1 s m #[Value.ref b] below meth c H locs 194 15622 Q (F0 m 478 ls []) := by
  have h0 := lv_at hl 0 rfl
  have h1 := lv_at hl 1 rfl
  have h2 := lv_at hl 2 rfl
  have h3 := lv_at hl 3 rfl
  obtain ⟨hx, hb, hml, hown, hts, hG, hbb, hX, hbl, hL⟩ := id K
  obtain ⟨z, M1, M2, o1, e1, e2, i2⟩ := ok_walker BC_ok hi (x := (xs (i + 1)).toInt) (t := (xs (i + 2)).toInt) (lw_iR _) (lw_iR _)
  have o0 := hi.ok
  refine lv_aload_n hx hb dL_law_478 rfl h1 ?_
  refine lw_ld K hS h0 h3 (k := 1) rfl (by omega) dL_law_479 dL_law_480 dL_law_481 dL_law_482 dL_law_483 ?_
  refine lw_ld K hS h0 h3 (k := 2) rfl (by omega) dL_law_484 dL_law_485 dL_law_486 dL_law_487 dL_law_488 ?_
  refine lw_callV K (ci := 11) (r := 1) (q := (z, M1)) (av := [xi ((xs (i + 1)).toInt), xi ((xs (i + 2)).toInt)]) (st := []) hP hS hl.1 dL_law_489 rfl (by decide) (by rw [xk_1 o0]) (S_X11_walker l 1 ((xs (i + 1)).toInt) ((xs (i + 2)).toInt) M (z, M1) e1) (cwV 2 hts gL_law_X11_walker rfl rfl rfl (by decide +kernel) ⟨Nat.le_of_ble_eq_true rfl, Nat.le_of_ble_eq_true rfl⟩) rfl (by decide) rfl (fun H1 lH1 hPH1 hSH1 => ?_)
  refine lv_aload_n hx hb dL_law_492 rfl h2 ?_
  refine lw_ld K hSH1 h0 h3 (k := 1) rfl (by omega) dL_law_493 dL_law_494 dL_law_495 dL_law_496 dL_law_497 ?_
  refine lw_ld K hSH1 h0 h3 (k := 2) rfl (by omega) dL_law_498 dL_law_499 dL_law_500 dL_law_501 dL_law_502 ?_
  refine lw_callV K (ci := 12) (r := 188) (q := (z, M2)) (av := [xi ((xs (i + 1)).toInt), xi ((xs (i + 2)).toInt)]) (st := [Value.int (Int32.ofInt z)]) hPH1 hSH1 hl.1 dL_law_503 rfl (by decide) (by rw [xk_188 o1]) (S_X12_walker l 188 ((xs (i + 1)).toInt) ((xs (i + 2)).toInt) M1 (z, M2) e2) (cwV 2 hts gL_law_X12_walker rfl rfl rfl (by decide +kernel) ⟨Nat.le_of_ble_eq_true rfl, Nat.le_of_ble_eq_true rfl⟩) rfl (by decide) rfl (fun H2 lH2 hPH2 hSH2 => ?_)
  refine lv_icmp_eq (tgt := 784) hx hb dL_law_506 (by decide) (fun _ => ?_) (fun q => absurd rfl q)
  exact k M2 H2 lH2 i2 hPH2 hSH2
set_option maxHeartbeats 4000000 in
set_option maxRecDepth 100000 in
theorem lwc_inside (K : lw_K p l e s m below meth c b L xs Dm cy bb) {M : xv_M} (hi : INV M) {H : Heap} {locs : List Loc} {ls : Array Slot} {i : Nat} (hiL : i + 2 < L) (hP : va_P Dm vwCl (xv_W bb cy M) H) (hS : va_S (fun q => bb < q) s.heap H locs) (hl : lv_has ls 4 (lw_L b bb i)) {Q : State → Prop} (k : ∀ (M2 : xv_M) (H2 : Heap) (locs2 : List Loc), INV M2 → va_P Dm vwCl (xv_W bb cy M2) H2 → va_S (fun q => bb < q) s.heap H2 locs2 → W p l e room_1 s m #[Value.ref b] below meth c H2 locs2 194 15622 Q (F0 m 784 ls [])) : W p l e room_1 s m #[Value.ref b] below meth c H locs 194 15622 Q (F0 m 511 ls []) := by
  have h0 := lv_at hl 0 rfl
  have h1 := lv_at hl 1 rfl
  have h2 := lv_at hl 2 rfl
  have h3 := lv_at hl 3 rfl
  obtain ⟨hx, hb, hml, hown, hts, hG, hbb, hX, hbl, hL⟩ := id K
  obtain ⟨z, M1, M2, o1, e1, e2, i2⟩ := ok_inside hi (x := (xs (i + 1)).toInt) (l := (xs (i + 2)).toInt) (lw_iR _) (lw_iR _)
  have o0 := hi.ok
  refine lv_aload_n hx hb dL_law_511 rfl h1 ?_
  refine lw_ld K hS h0 h3 (k := 1) rfl (by omega) dL_law_512 dL_law_513 dL_law_514 dL_law_515 dL_law_516 ?_
  refine lw_ld K hS h0 h3 (k := 2) rfl (by omega) dL_law_517 dL_law_518 dL_law_519 dL_law_520 dL_law_521 ?_
  refine lw_callV K (ci := 11) (r := 1) (q := (z, M1)) (av := [xi ((xs (i + 1)).toInt), xi ((xs (i + 2)).toInt)]) (st := []) hP hS hl.1 dL_law_522 rfl (by decide) (by rw [xk_1 o0]) (S_X11_inside l 1 ((xs (i + 1)).toInt) ((xs (i + 2)).toInt) M (z, M1) e1) (cwV 2 hts gL_law_X11_inside rfl rfl rfl (by decide +kernel) ⟨Nat.le_of_ble_eq_true rfl, Nat.le_of_ble_eq_true rfl⟩) rfl (by decide) rfl (fun H1 lH1 hPH1 hSH1 => ?_)
  refine lv_aload_n hx hb dL_law_525 rfl h2 ?_
  refine lw_ld K hSH1 h0 h3 (k := 1) rfl (by omega) dL_law_526 dL_law_527 dL_law_528 dL_law_529 dL_law_530 ?_
  refine lw_ld K hSH1 h0 h3 (k := 2) rfl (by omega) dL_law_531 dL_law_532 dL_law_533 dL_law_534 dL_law_535 ?_
  refine lw_callV K (ci := 12) (r := 188) (q := (z, M2)) (av := [xi ((xs (i + 1)).toInt), xi ((xs (i + 2)).toInt)]) (st := [Value.int (Int32.ofInt z)]) hPH1 hSH1 hl.1 dL_law_536 rfl (by decide) (by rw [xk_188 o1]) (S_X12_inside l 188 ((xs (i + 1)).toInt) ((xs (i + 2)).toInt) M1 (z, M2) e2) (cwV 2 hts gL_law_X12_inside rfl rfl rfl (by decide +kernel) ⟨Nat.le_of_ble_eq_true rfl, Nat.le_of_ble_eq_true rfl⟩) rfl (by decide) rfl (fun H2 lH2 hPH2 hSH2 => ?_)
  refine lv_icmp_eq (tgt := 784) hx hb dL_law_539 (by decide) (fun _ => ?_) (fun q => absurd rfl q)
  exact k M2 H2 lH2 i2 hPH2 hSH2
set_option maxHeartbeats 4000000 in
set_option maxRecDepth 100000 in
theorem lwc_ask (K : lw_K p l e s m below meth c b L xs Dm cy bb) {M : xv_M} (hi : INV M) {H : Heap} {locs : List Loc} {ls : Array Slot} {i : Nat} (hiL : i + 2 < L) (hP : va_P Dm vwCl (xv_W bb cy M) H) (hS : va_S (fun q => bb < q) s.heap H locs) (hl : lv_has ls 4 (lw_L b bb i)) {Q : State → Prop} (k : ∀ (M2 : xv_M) (H2 : Heap) (locs2 : List Loc), INV M2 → va_P Dm vwCl (xv_W bb cy M2) H2 → va_S (fun q => bb < q) s.heap H2 locs2 → W p l e room_1 s m #[Value.ref b] below meth c H2 locs2 194 15622 Q (F0 m 784 ls [])) : W p l e room_1 s m #[Value.ref b] below meth c H locs 194 15622 Q (F0 m 544 ls []) := by
  have h0 := lv_at hl 0 rfl
  have h1 := lv_at hl 1 rfl
  have h2 := lv_at hl 2 rfl
  have h3 := lv_at hl 3 rfl
  obtain ⟨hx, hb, hml, hown, hts, hG, hbb, hX, hbl, hL⟩ := id K
  obtain ⟨z, M1, M2, o1, e1, e2, i2⟩ := ok_ask BC_ok hi (x := (xs (i + 1)).toInt) (t := (xs (i + 2)).toInt) (lw_iR _) (lw_iR _)
  have o0 := hi.ok
  refine lv_aload_n hx hb dL_law_544 rfl h1 ?_
  refine lw_ld K hS h0 h3 (k := 1) rfl (by omega) dL_law_545 dL_law_546 dL_law_547 dL_law_548 dL_law_549 ?_
  refine lw_ld K hS h0 h3 (k := 2) rfl (by omega) dL_law_550 dL_law_551 dL_law_552 dL_law_553 dL_law_554 ?_
  refine lw_callV K (ci := 11) (r := 1) (q := (z, M1)) (av := [xi ((xs (i + 1)).toInt), xi ((xs (i + 2)).toInt)]) (st := []) hP hS hl.1 dL_law_555 rfl (by decide) (by rw [xk_1 o0]) (S_X11_ask l 1 ((xs (i + 1)).toInt) ((xs (i + 2)).toInt) M (z, M1) e1) (cwV 2 hts gL_law_X11_ask rfl rfl rfl (by decide +kernel) ⟨Nat.le_of_ble_eq_true rfl, Nat.le_of_ble_eq_true rfl⟩) rfl (by decide) rfl (fun H1 lH1 hPH1 hSH1 => ?_)
  refine lv_aload_n hx hb dL_law_558 rfl h2 ?_
  refine lw_ld K hSH1 h0 h3 (k := 1) rfl (by omega) dL_law_559 dL_law_560 dL_law_561 dL_law_562 dL_law_563 ?_
  refine lw_ld K hSH1 h0 h3 (k := 2) rfl (by omega) dL_law_564 dL_law_565 dL_law_566 dL_law_567 dL_law_568 ?_
  refine lw_callV K (ci := 12) (r := 188) (q := (z, M2)) (av := [xi ((xs (i + 1)).toInt), xi ((xs (i + 2)).toInt)]) (st := [Value.int (Int32.ofInt z)]) hPH1 hSH1 hl.1 dL_law_569 rfl (by decide) (by rw [xk_188 o1]) (S_X12_ask l 188 ((xs (i + 1)).toInt) ((xs (i + 2)).toInt) M1 (z, M2) e2) (cwV 2 hts gL_law_X12_ask rfl rfl rfl (by decide +kernel) ⟨Nat.le_of_ble_eq_true rfl, Nat.le_of_ble_eq_true rfl⟩) rfl (by decide) rfl (fun H2 lH2 hPH2 hSH2 => ?_)
  refine lv_icmp_eq (tgt := 784) hx hb dL_law_572 (by decide) (fun _ => ?_) (fun q => absurd rfl q)
  exact k M2 H2 lH2 i2 hPH2 hSH2
set_option maxHeartbeats 4000000 in
set_option maxRecDepth 100000 in
theorem lwc_free (K : lw_K p l e s m below meth c b L xs Dm cy bb) {M : xv_M} (hi : INV M) {H : Heap} {locs : List Loc} {ls : Array Slot} {i : Nat} (hiL : i + 2 < L) (hP : va_P Dm vwCl (xv_W bb cy M) H) (hS : va_S (fun q => bb < q) s.heap H locs) (hl : lv_has ls 4 (lw_L b bb i)) {Q : State → Prop} (k : ∀ (M2 : xv_M) (H2 : Heap) (locs2 : List Loc), INV M2 → va_P Dm vwCl (xv_W bb cy M2) H2 → va_S (fun q => bb < q) s.heap H2 locs2 → W p l e room_1 s m #[Value.ref b] below meth c H2 locs2 194 15622 Q (F0 m 784 ls [])) : W p l e room_1 s m #[Value.ref b] below meth c H locs 194 15622 Q (F0 m 577 ls []) := by
  have h0 := lv_at hl 0 rfl
  have h1 := lv_at hl 1 rfl
  have h2 := lv_at hl 2 rfl
  have h3 := lv_at hl 3 rfl
  obtain ⟨hx, hb, hml, hown, hts, hG, hbb, hX, hbl, hL⟩ := id K
  obtain ⟨zb, ezb⟩ : ∃ zb : Int, zb = (if xs (i + 2) = 0 then 0 else 1) := ⟨_, rfl⟩
  have hzb : zb = 0 ∨ zb = 1 := by rw [ezb]; split <;> simp
  obtain ⟨z, M1, M2, o1, e1, e2, i2⟩ := ok_free hi (x := (xs (i + 1)).toInt) (t := zb) (lw_iR _) (by rcases hzb with h | h <;> rw [h] <;> decide)
  have o0 := hi.ok
  refine lv_aload_n hx hb dL_law_577 rfl h1 ?_
  refine lw_ld K hS h0 h3 (k := 1) rfl (by omega) dL_law_578 dL_law_579 dL_law_580 dL_law_581 dL_law_582 ?_
  refine lw_ld K hS h0 h3 (k := 2) rfl (by omega) dL_law_583 dL_law_584 dL_law_585 dL_law_586 dL_law_587 ?_
  refine lw_bool (z := zb) hx hb dL_law_588 dL_law_591 dL_law_592 dL_law_595 (by rw [Int32.ofInt_toInt, ezb]) ?_
  refine lw_callV K (ci := 11) (r := 1) (q := (z, M1)) (av := [xi ((xs (i + 1)).toInt), xi zb]) (st := []) hP hS hl.1 dL_law_596 rfl (by decide) (by rw [xk_1 o0]) (S_X11_free l 1 ((xs (i + 1)).toInt) zb M (z, M1) e1) (cwV 2 hts gL_law_X11_free rfl rfl rfl (by decide +kernel) ⟨Nat.le_of_ble_eq_true rfl, Nat.le_of_ble_eq_true rfl⟩) rfl (by decide) rfl (fun H1 lH1 hPH1 hSH1 => ?_)
  refine lv_aload_n hx hb dL_law_599 rfl h2 ?_
  refine lw_ld K hSH1 h0 h3 (k := 1) rfl (by omega) dL_law_600 dL_law_601 dL_law_602 dL_law_603 dL_law_604 ?_
  refine lw_ld K hSH1 h0 h3 (k := 2) rfl (by omega) dL_law_605 dL_law_606 dL_law_607 dL_law_608 dL_law_609 ?_
  refine lw_bool (z := zb) hx hb dL_law_610 dL_law_613 dL_law_614 dL_law_617 (by rw [Int32.ofInt_toInt, ezb]) ?_
  refine lw_callV K (ci := 12) (r := 188) (q := (z, M2)) (av := [xi ((xs (i + 1)).toInt), xi zb]) (st := [Value.int (Int32.ofInt z)]) hPH1 hSH1 hl.1 dL_law_618 rfl (by decide) (by rw [xk_188 o1]) (S_X12_free l 188 ((xs (i + 1)).toInt) zb M1 (z, M2) e2) (cwV 2 hts gL_law_X12_free rfl rfl rfl (by decide +kernel) ⟨Nat.le_of_ble_eq_true rfl, Nat.le_of_ble_eq_true rfl⟩) rfl (by decide) rfl (fun H2 lH2 hPH2 hSH2 => ?_)
  refine lv_icmp_eq (tgt := 784) hx hb dL_law_621 (by decide) (fun _ => ?_) (fun q => absurd rfl q)
  exact k M2 H2 lH2 i2 hPH2 hSH2
set_option maxHeartbeats 4000000 in
set_option maxRecDepth 100000 in
theorem lwc_most (K : lw_K p l e s m below meth c b L xs Dm cy bb) {M : xv_M} (hi : INV M) {H : Heap} {locs : List Loc} {ls : Array Slot} {i : Nat} (hiL : i + 2 < L) (hP : va_P Dm vwCl (xv_W bb cy M) H) (hS : va_S (fun q => bb < q) s.heap H locs) (hl : lv_has ls 4 (lw_L b bb i)) {Q : State → Prop} (k : ∀ (M2 : xv_M) (H2 : Heap) (locs2 : List Loc), INV M2 → va_P Dm vwCl (xv_W bb cy M2) H2 → va_S (fun q => bb < q) s.heap H2 locs2 → W p l e room_1 s m #[Value.ref b] below meth c H2 locs2 194 15622 Q (F0 m 784 ls [])) : W p l e room_1 s m #[Value.ref b] below meth c H locs 194 15622 Q (F0 m 626 ls []) := by
  have h0 := lv_at hl 0 rfl
  have h1 := lv_at hl 1 rfl
  have h2 := lv_at hl 2 rfl
  have h3 := lv_at hl 3 rfl
  obtain ⟨hx, hb, hml, hown, hts, hG, hbb, hX, hbl, hL⟩ := id K
  obtain ⟨z, M1, M2, o1, e1, e2, i2⟩ := ok_most BC_ok hi (t := (xs (i + 1)).toInt) (lw_iR _)
  have o0 := hi.ok
  refine lv_aload_n hx hb dL_law_626 rfl h1 ?_
  refine lw_ld K hS h0 h3 (k := 1) rfl (by omega) dL_law_627 dL_law_628 dL_law_629 dL_law_630 dL_law_631 ?_
  refine lw_callV K (ci := 11) (r := 1) (q := (z, M1)) (av := [xi ((xs (i + 1)).toInt)]) (st := []) hP hS hl.1 dL_law_632 rfl (by decide) (by rw [xk_1 o0]) (S_X11_most l 1 ((xs (i + 1)).toInt) M (z, M1) e1) (cwV 1 hts gL_law_X11_most rfl rfl rfl (by decide +kernel) ⟨Nat.le_of_ble_eq_true rfl, Nat.le_of_ble_eq_true rfl⟩) rfl (by decide) rfl (fun H1 lH1 hPH1 hSH1 => ?_)
  refine lv_aload_n hx hb dL_law_635 rfl h2 ?_
  refine lw_ld K hSH1 h0 h3 (k := 1) rfl (by omega) dL_law_636 dL_law_637 dL_law_638 dL_law_639 dL_law_640 ?_
  refine lw_callV K (ci := 12) (r := 188) (q := (z, M2)) (av := [xi ((xs (i + 1)).toInt)]) (st := [Value.int (Int32.ofInt z)]) hPH1 hSH1 hl.1 dL_law_641 rfl (by decide) (by rw [xk_188 o1]) (S_X12_most l 188 ((xs (i + 1)).toInt) M1 (z, M2) e2) (cwV 1 hts gL_law_X12_most rfl rfl rfl (by decide +kernel) ⟨Nat.le_of_ble_eq_true rfl, Nat.le_of_ble_eq_true rfl⟩) rfl (by decide) rfl (fun H2 lH2 hPH2 hSH2 => ?_)
  refine lv_icmp_eq (tgt := 784) hx hb dL_law_644 (by decide) (fun _ => ?_) (fun q => absurd rfl q)
  exact k M2 H2 lH2 i2 hPH2 hSH2
set_option maxHeartbeats 4000000 in
set_option maxRecDepth 100000 in
theorem lwc_changesIn (K : lw_K p l e s m below meth c b L xs Dm cy bb) {M : xv_M} (hi : INV M) {H : Heap} {locs : List Loc} {ls : Array Slot} {i : Nat} (hiL : i + 2 < L) (hP : va_P Dm vwCl (xv_W bb cy M) H) (hS : va_S (fun q => bb < q) s.heap H locs) (hl : lv_has ls 4 (lw_L b bb i)) {Q : State → Prop} (k : ∀ (M2 : xv_M) (H2 : Heap) (locs2 : List Loc), INV M2 → va_P Dm vwCl (xv_W bb cy M2) H2 → va_S (fun q => bb < q) s.heap H2 locs2 → W p l e room_1 s m #[Value.ref b] below meth c H2 locs2 194 15622 Q (F0 m 784 ls [])) : W p l e room_1 s m #[Value.ref b] below meth c H locs 194 15622 Q (F0 m 649 ls []) := by
  have h0 := lv_at hl 0 rfl
  have h1 := lv_at hl 1 rfl
  have h2 := lv_at hl 2 rfl
  have h3 := lv_at hl 3 rfl
  obtain ⟨hx, hb, hml, hown, hts, hG, hbb, hX, hbl, hL⟩ := id K
  obtain ⟨z, M1, M2, o1, e1, e2, i2⟩ := ok_changesIn hi (x := (xs (i + 1)).toInt) (lw_iR _)
  have o0 := hi.ok
  refine lv_aload_n hx hb dL_law_649 rfl h1 ?_
  refine lw_ld K hS h0 h3 (k := 1) rfl (by omega) dL_law_650 dL_law_651 dL_law_652 dL_law_653 dL_law_654 ?_
  refine lw_callV K (ci := 11) (r := 1) (q := (z, M1)) (av := [xi ((xs (i + 1)).toInt)]) (st := []) hP hS hl.1 dL_law_655 rfl (by decide) (by rw [xk_1 o0]) (S_X11_changesIn l 1 ((xs (i + 1)).toInt) M (z, M1) e1) (cwV 1 hts gL_law_X11_changesIn rfl rfl rfl (by decide +kernel) ⟨Nat.le_of_ble_eq_true rfl, Nat.le_of_ble_eq_true rfl⟩) rfl (by decide) rfl (fun H1 lH1 hPH1 hSH1 => ?_)
  refine lv_aload_n hx hb dL_law_658 rfl h2 ?_
  refine lw_ld K hSH1 h0 h3 (k := 1) rfl (by omega) dL_law_659 dL_law_660 dL_law_661 dL_law_662 dL_law_663 ?_
  refine lw_callV K (ci := 12) (r := 188) (q := (z, M2)) (av := [xi ((xs (i + 1)).toInt)]) (st := [Value.int (Int32.ofInt z)]) hPH1 hSH1 hl.1 dL_law_664 rfl (by decide) (by rw [xk_188 o1]) (S_X12_changesIn l 188 ((xs (i + 1)).toInt) M1 (z, M2) e2) (cwV 1 hts gL_law_X12_changesIn rfl rfl rfl (by decide +kernel) ⟨Nat.le_of_ble_eq_true rfl, Nat.le_of_ble_eq_true rfl⟩) rfl (by decide) rfl (fun H2 lH2 hPH2 hSH2 => ?_)
  refine lv_icmp_eq (tgt := 784) hx hb dL_law_667 (by decide) (fun _ => ?_) (fun q => absurd rfl q)
  exact k M2 H2 lH2 i2 hPH2 hSH2
set_option maxHeartbeats 4000000 in
set_option maxRecDepth 100000 in
theorem lwc_meetIn (K : lw_K p l e s m below meth c b L xs Dm cy bb) {M : xv_M} (hi : INV M) {H : Heap} {locs : List Loc} {ls : Array Slot} {i : Nat} (hiL : i + 2 < L) (hP : va_P Dm vwCl (xv_W bb cy M) H) (hS : va_S (fun q => bb < q) s.heap H locs) (hl : lv_has ls 4 (lw_L b bb i)) {Q : State → Prop} (k : ∀ (M2 : xv_M) (H2 : Heap) (locs2 : List Loc), INV M2 → va_P Dm vwCl (xv_W bb cy M2) H2 → va_S (fun q => bb < q) s.heap H2 locs2 → W p l e room_1 s m #[Value.ref b] below meth c H2 locs2 194 15622 Q (F0 m 784 ls [])) : W p l e room_1 s m #[Value.ref b] below meth c H locs 194 15622 Q (F0 m 672 ls []) := by
  have h0 := lv_at hl 0 rfl
  have h1 := lv_at hl 1 rfl
  have h2 := lv_at hl 2 rfl
  have h3 := lv_at hl 3 rfl
  obtain ⟨hx, hb, hml, hown, hts, hG, hbb, hX, hbl, hL⟩ := id K
  obtain ⟨z, M1, M2, o1, e1, e2, i2⟩ := ok_meetIn hi (x := (xs (i + 1)).toInt) (y := (xs (i + 2)).toInt) (lw_iR _) (lw_iR _)
  have o0 := hi.ok
  refine lv_aload_n hx hb dL_law_672 rfl h1 ?_
  refine lw_ld K hS h0 h3 (k := 1) rfl (by omega) dL_law_673 dL_law_674 dL_law_675 dL_law_676 dL_law_677 ?_
  refine lw_ld K hS h0 h3 (k := 2) rfl (by omega) dL_law_678 dL_law_679 dL_law_680 dL_law_681 dL_law_682 ?_
  refine lw_callV K (ci := 11) (r := 1) (q := (z, M1)) (av := [xi ((xs (i + 1)).toInt), xi ((xs (i + 2)).toInt)]) (st := []) hP hS hl.1 dL_law_683 rfl (by decide) (by rw [xk_1 o0]) (S_X11_meetIn l 1 ((xs (i + 1)).toInt) ((xs (i + 2)).toInt) M (z, M1) e1) (cwV 2 hts gL_law_X11_meetIn rfl rfl rfl (by decide +kernel) ⟨Nat.le_of_ble_eq_true rfl, Nat.le_of_ble_eq_true rfl⟩) rfl (by decide) rfl (fun H1 lH1 hPH1 hSH1 => ?_)
  refine lv_aload_n hx hb dL_law_686 rfl h2 ?_
  refine lw_ld K hSH1 h0 h3 (k := 1) rfl (by omega) dL_law_687 dL_law_688 dL_law_689 dL_law_690 dL_law_691 ?_
  refine lw_ld K hSH1 h0 h3 (k := 2) rfl (by omega) dL_law_692 dL_law_693 dL_law_694 dL_law_695 dL_law_696 ?_
  refine lw_callV K (ci := 12) (r := 188) (q := (z, M2)) (av := [xi ((xs (i + 1)).toInt), xi ((xs (i + 2)).toInt)]) (st := [Value.int (Int32.ofInt z)]) hPH1 hSH1 hl.1 dL_law_697 rfl (by decide) (by rw [xk_188 o1]) (S_X12_meetIn l 188 ((xs (i + 1)).toInt) ((xs (i + 2)).toInt) M1 (z, M2) e2) (cwV 2 hts gL_law_X12_meetIn rfl rfl rfl (by decide +kernel) ⟨Nat.le_of_ble_eq_true rfl, Nat.le_of_ble_eq_true rfl⟩) rfl (by decide) rfl (fun H2 lH2 hPH2 hSH2 => ?_)
  refine lv_icmp_eq (tgt := 784) hx hb dL_law_700 (by decide) (fun _ => ?_) (fun q => absurd rfl q)
  exact k M2 H2 lH2 i2 hPH2 hSH2
set_option maxHeartbeats 4000000 in
set_option maxRecDepth 100000 in
theorem lwc_index (K : lw_K p l e s m below meth c b L xs Dm cy bb) {M : xv_M} (hi : INV M) {H : Heap} {locs : List Loc} {ls : Array Slot} {i : Nat} (hiL : i + 2 < L) (hP : va_P Dm vwCl (xv_W bb cy M) H) (hS : va_S (fun q => bb < q) s.heap H locs) (hl : lv_has ls 4 (lw_L b bb i)) {Q : State → Prop} (k : ∀ (M2 : xv_M) (H2 : Heap) (locs2 : List Loc), INV M2 → va_P Dm vwCl (xv_W bb cy M2) H2 → va_S (fun q => bb < q) s.heap H2 locs2 → W p l e room_1 s m #[Value.ref b] below meth c H2 locs2 194 15622 Q (F0 m 784 ls [])) : W p l e room_1 s m #[Value.ref b] below meth c H locs 194 15622 Q (F0 m 705 ls []) := by
  have h0 := lv_at hl 0 rfl
  have h1 := lv_at hl 1 rfl
  have h2 := lv_at hl 2 rfl
  have h3 := lv_at hl 3 rfl
  obtain ⟨hx, hb, hml, hown, hts, hG, hbb, hX, hbl, hL⟩ := id K
  obtain ⟨z, M1, M2, o1, e1, e2, i2⟩ := ok_index BC_ok hi (t := (xs (i + 1)).toInt) (lw_iR _)
  have o0 := hi.ok
  refine lv_aload_n hx hb dL_law_705 rfl h1 ?_
  refine lw_ld K hS h0 h3 (k := 1) rfl (by omega) dL_law_706 dL_law_707 dL_law_708 dL_law_709 dL_law_710 ?_
  refine lw_callV K (ci := 11) (r := 1) (q := (z, M1)) (av := [xi ((xs (i + 1)).toInt)]) (st := []) hP hS hl.1 dL_law_711 rfl (by decide) (by rw [xk_1 o0]) (S_X11_index l 1 ((xs (i + 1)).toInt) M (z, M1) e1) (cwV 1 hts gL_law_X11_index rfl rfl rfl (by decide +kernel) ⟨Nat.le_of_ble_eq_true rfl, Nat.le_of_ble_eq_true rfl⟩) rfl (by decide) rfl (fun H1 lH1 hPH1 hSH1 => ?_)
  refine lv_aload_n hx hb dL_law_714 rfl h2 ?_
  refine lw_ld K hSH1 h0 h3 (k := 1) rfl (by omega) dL_law_715 dL_law_716 dL_law_717 dL_law_718 dL_law_719 ?_
  refine lw_callV K (ci := 12) (r := 188) (q := (z, M2)) (av := [xi ((xs (i + 1)).toInt)]) (st := [Value.int (Int32.ofInt z)]) hPH1 hSH1 hl.1 dL_law_720 rfl (by decide) (by rw [xk_188 o1]) (S_X12_index l 188 ((xs (i + 1)).toInt) M1 (z, M2) e2) (cwV 1 hts gL_law_X12_index rfl rfl rfl (by decide +kernel) ⟨Nat.le_of_ble_eq_true rfl, Nat.le_of_ble_eq_true rfl⟩) rfl (by decide) rfl (fun H2 lH2 hPH2 hSH2 => ?_)
  refine lv_icmp_eq (tgt := 784) hx hb dL_law_723 (by decide) (fun _ => ?_) (fun q => absurd rfl q)
  exact k M2 H2 lH2 i2 hPH2 hSH2
set_option maxHeartbeats 4000000 in
set_option maxRecDepth 100000 in
theorem lwc_event (K : lw_K p l e s m below meth c b L xs Dm cy bb) {M : xv_M} (hi : INV M) {H : Heap} {locs : List Loc} {ls : Array Slot} {i : Nat} (hiL : i + 2 < L) (hP : va_P Dm vwCl (xv_W bb cy M) H) (hS : va_S (fun q => bb < q) s.heap H locs) (hl : lv_has ls 4 (lw_L b bb i)) {Q : State → Prop} (k : ∀ (M2 : xv_M) (H2 : Heap) (locs2 : List Loc), INV M2 → va_P Dm vwCl (xv_W bb cy M2) H2 → va_S (fun q => bb < q) s.heap H2 locs2 → W p l e room_1 s m #[Value.ref b] below meth c H2 locs2 194 15622 Q (F0 m 784 ls [])) : W p l e room_1 s m #[Value.ref b] below meth c H locs 194 15622 Q (F0 m 728 ls []) := by
  have h0 := lv_at hl 0 rfl
  have h1 := lv_at hl 1 rfl
  have h2 := lv_at hl 2 rfl
  have h3 := lv_at hl 3 rfl
  obtain ⟨hx, hb, hml, hown, hts, hG, hbb, hX, hbl, hL⟩ := id K
  obtain ⟨z, M1, M2, o1, e1, e2, i2⟩ := ok_event hi (b := (xs (i + 1)).toInt) (t := (xs (i + 2)).toInt) (lw_iR _) (lw_iR _)
  have o0 := hi.ok
  refine lv_aload_n hx hb dL_law_728 rfl h1 ?_
  refine lw_ld K hS h0 h3 (k := 1) rfl (by omega) dL_law_729 dL_law_730 dL_law_731 dL_law_732 dL_law_733 ?_
  refine lw_ld K hS h0 h3 (k := 2) rfl (by omega) dL_law_734 dL_law_735 dL_law_736 dL_law_737 dL_law_738 ?_
  refine lw_callV K (ci := 11) (r := 1) (q := (z, M1)) (av := [xi ((xs (i + 1)).toInt), xi ((xs (i + 2)).toInt)]) (st := []) hP hS hl.1 dL_law_739 rfl (by decide) (by rw [xk_1 o0]) (S_X11_event l 1 ((xs (i + 1)).toInt) ((xs (i + 2)).toInt) M (z, M1) e1) (cwV 2 hts gL_law_X11_event rfl rfl rfl (by decide +kernel) ⟨Nat.le_of_ble_eq_true rfl, Nat.le_of_ble_eq_true rfl⟩) rfl (by decide) rfl (fun H1 lH1 hPH1 hSH1 => ?_)
  refine lv_aload_n hx hb dL_law_742 rfl h2 ?_
  refine lw_ld K hSH1 h0 h3 (k := 1) rfl (by omega) dL_law_743 dL_law_744 dL_law_745 dL_law_746 dL_law_747 ?_
  refine lw_ld K hSH1 h0 h3 (k := 2) rfl (by omega) dL_law_748 dL_law_749 dL_law_750 dL_law_751 dL_law_752 ?_
  refine lw_callV K (ci := 12) (r := 188) (q := (z, M2)) (av := [xi ((xs (i + 1)).toInt), xi ((xs (i + 2)).toInt)]) (st := [Value.int (Int32.ofInt z)]) hPH1 hSH1 hl.1 dL_law_753 rfl (by decide) (by rw [xk_188 o1]) (S_X12_event l 188 ((xs (i + 1)).toInt) ((xs (i + 2)).toInt) M1 (z, M2) e2) (cwV 2 hts gL_law_X12_event rfl rfl rfl (by decide +kernel) ⟨Nat.le_of_ble_eq_true rfl, Nat.le_of_ble_eq_true rfl⟩) rfl (by decide) rfl (fun H2 lH2 hPH2 hSH2 => ?_)
  refine lv_icmp_eq (tgt := 784) hx hb dL_law_756 (by decide) (fun _ => ?_) (fun q => absurd rfl q)
  exact k M2 H2 lH2 i2 hPH2 hSH2
set_option maxHeartbeats 4000000 in
set_option maxRecDepth 100000 in
theorem lwc_count (K : lw_K p l e s m below meth c b L xs Dm cy bb) {M : xv_M} (hi : INV M) {H : Heap} {locs : List Loc} {ls : Array Slot} {i : Nat} (hiL : i + 2 < L) (hP : va_P Dm vwCl (xv_W bb cy M) H) (hS : va_S (fun q => bb < q) s.heap H locs) (hl : lv_has ls 4 (lw_L b bb i)) {Q : State → Prop} (k : ∀ (M2 : xv_M) (H2 : Heap) (locs2 : List Loc), INV M2 → va_P Dm vwCl (xv_W bb cy M2) H2 → va_S (fun q => bb < q) s.heap H2 locs2 → W p l e room_1 s m #[Value.ref b] below meth c H2 locs2 194 15622 Q (F0 m 784 ls [])) : W p l e room_1 s m #[Value.ref b] below meth c H locs 194 15622 Q (F0 m 761 ls []) := by
  have h0 := lv_at hl 0 rfl
  have h1 := lv_at hl 1 rfl
  have h2 := lv_at hl 2 rfl
  have h3 := lv_at hl 3 rfl
  obtain ⟨hx, hb, hml, hown, hts, hG, hbb, hX, hbl, hL⟩ := id K
  obtain ⟨z, M1, M2, o1, e1, e2, i2⟩ := ok_count BC_ok hi (t := (xs (i + 1)).toInt) (lw_iR _)
  have o0 := hi.ok
  refine lv_aload_n hx hb dL_law_761 rfl h1 ?_
  refine lw_ld K hS h0 h3 (k := 1) rfl (by omega) dL_law_762 dL_law_763 dL_law_764 dL_law_765 dL_law_766 ?_
  refine lw_callV K (ci := 11) (r := 1) (q := (z, M1)) (av := [xi ((xs (i + 1)).toInt)]) (st := []) hP hS hl.1 dL_law_767 rfl (by decide) (by rw [xk_1 o0]) (S_X11_count l 1 ((xs (i + 1)).toInt) M (z, M1) e1) (cwV 1 hts gL_law_X11_count rfl rfl rfl (by decide +kernel) ⟨Nat.le_of_ble_eq_true rfl, Nat.le_of_ble_eq_true rfl⟩) rfl (by decide) rfl (fun H1 lH1 hPH1 hSH1 => ?_)
  refine lv_aload_n hx hb dL_law_770 rfl h2 ?_
  refine lw_ld K hSH1 h0 h3 (k := 1) rfl (by omega) dL_law_771 dL_law_772 dL_law_773 dL_law_774 dL_law_775 ?_
  refine lw_callV K (ci := 12) (r := 188) (q := (z, M2)) (av := [xi ((xs (i + 1)).toInt)]) (st := [Value.int (Int32.ofInt z)]) hPH1 hSH1 hl.1 dL_law_776 rfl (by decide) (by rw [xk_188 o1]) (S_X12_count l 188 ((xs (i + 1)).toInt) M1 (z, M2) e2) (cwV 1 hts gL_law_X12_count rfl rfl rfl (by decide +kernel) ⟨Nat.le_of_ble_eq_true rfl, Nat.le_of_ble_eq_true rfl⟩) rfl (by decide) rfl (fun H2 lH2 hPH2 hSH2 => ?_)
  refine lv_icmp_eq (tgt := 784) hx hb dL_law_779 (by decide) (fun _ => ?_) (fun q => absurd rfl q)
  exact k M2 H2 lH2 i2 hPH2 hSH2
end LWS
/-! THE CLAIM OUT OF ONE WALK OF THE LAW'S BODY. Your part is whole_start (and what it stands on); all else here is the same for every law, but numbers. -/
def R_law : String := "MiddleSpansLaw"
def lw_P (b : Addr) (xs : List Int32) (args : Array Value) (s : State) : Prop := args = #[.ref b] ∧ s.IntsAt b xs ∧ xs.length ≤ 1536 ∧ (Jvm.Cond.and given_1 narrow_1).before args s = true
def lw_Q (_ : Array Value) (s : State) (o : Outcome) (t : State) : Prop := o = .returned (some (.int 1)) ∧ Framed s o t [] 600000 7302250
def lw_Z (below : List Frame) (a : Array Value) (s : State) : State → Prop := fun t => ∃ o, t.status = .running ∧ Ended t below o ∧ lw_Q a s o t
/-- the law's own end, with 1 on the stack, nothing written that was there before, its room as the claim has it -/
theorem lw_ret {p : Program} {l : Launch} {e : Env} {s : State} {m : MethodId} {below : List Frame} {meth : Method} {c : Code} {b : Nat} (hx : p.tables.exec = Jvm.exec) (hb : c.code = code) (hr : meth.sig.returnType = ret) (hlocks : meth.locks = false) {pc : Nat} {H : Heap} {ls : Array Slot} (hdg : decode code pc = .ok (.ireturn, 1)) : W p l e room_1 s m #[Value.ref b] below meth c H [] 600000 7302250 (lw_Z below #[Value.ref b] s) (F0 m pc ls [.int 1]) := by
  intro T hT X
  obtain ⟨fs, hret, hrun, hended, hW, hframe⟩ := X.leave (v := some (.int 1)) (hlocks := hlocks) (fun h => by rw [hr] at h; cases h)
  have hmeth' : T.vm.method? m = some meth := X.method'
  refine ⟨T.setFrames fs, ?_, .returned (some (.int 1)), hrun, hended, rfl, ⟨_, rfl⟩, hW, hframe⟩
  jvm_step X.here [X.here.top, hx, hb, hdg, hmeth', hr, ret, narrow_b1]
  (try refine ⟨rfl, ?_⟩); (try refine ⟨rfl, ?_⟩)
  first | (intro acts; rw [hret _ acts rfl rfl rfl]) | rw [hret _ _ rfl rfl rfl]
  exact Steps.refl _
/-- what holds at the law's entry: the machine, the code, the tables' words (any of lw_tbl by 'hts w (by decide +kernel)'), the script of L ints xs at the cell b, what the Statement gives of the start (any of its parts by flat_of_before) -/
def lw_At (p : Program) (s : State) (m : MethodId) (meth : Method) (c : Code) (b L : Nat) (xs : Nat → Int32) : Prop :=
  p.tables.exec = Jvm.exec ∧ c.code = code ∧ meth.sig.returnType = ret ∧ c.maxLocals = 4 ∧ s.vm.findClass R_law = some m.cls ∧ (∀ w ∈ lw_tbl, w.before #[Value.ref b] s = true) ∧ va_X b L xs s s.heap ∧ b < s.heap.size ∧ meth.locks = false ∧ (Jvm.Cond.and given_1 narrow_1).before #[Value.ref b] s = true
/-! ## the start: what the tables say, the two objects, the loop -/
theorem lw_nest : ∀ q ∈ xv_nest, Cond.methodLinkNest q.1 q.2.1 q.2.2.1 q.2.2.2 ∈ tables_1 := List.forall_mem_cons.mpr ⟨List.mem_of_getElem? (i := 28) (by decide +kernel), List.forall_mem_cons.mpr ⟨List.mem_of_getElem? (i := 34) (by decide +kernel), List.forall_mem_cons.mpr ⟨List.mem_of_getElem? (i := 40) (by decide +kernel), List.forall_mem_cons.mpr ⟨List.mem_of_getElem? (i := 88) (by decide +kernel), List.forall_mem_cons.mpr ⟨List.mem_of_getElem? (i := 141) (by decide +kernel), List.forall_mem_cons.mpr ⟨List.mem_of_getElem? (i := 192) (by decide +kernel), List.forall_mem_cons.mpr ⟨List.mem_of_getElem? (i := 202) (by decide +kernel), List.forall_mem_cons.mpr ⟨List.mem_of_getElem? (i := 208) (by decide +kernel), List.forall_mem_cons.mpr ⟨List.mem_of_getElem? (i := 266) (by decide +kernel), List.forall_mem_cons.mpr ⟨List.mem_of_getElem? (i := 276) (by decide +kernel), List.forall_mem_cons.mpr ⟨List.mem_of_getElem? (i := 279) (by decide +kernel), List.forall_mem_cons.mpr ⟨List.mem_of_getElem? (i := 295) (by decide +kernel), List.forall_mem_cons.mpr ⟨List.mem_of_getElem? (i := 402) (by decide +kernel), List.forall_mem_cons.mpr ⟨List.mem_of_getElem? (i := 409) (by decide +kernel), List.forall_mem_cons.mpr ⟨List.mem_of_getElem? (i := 454) (by decide +kernel), List.forall_mem_cons.mpr ⟨List.mem_of_getElem? (i := 586) (by decide +kernel), List.forall_mem_cons.mpr ⟨List.mem_of_getElem? (i := 589) (by decide +kernel), List.forall_mem_cons.mpr ⟨List.mem_of_getElem? (i := 592) (by decide +kernel), List.forall_mem_cons.mpr ⟨List.mem_of_getElem? (i := 650) (by decide +kernel), List.forall_mem_cons.mpr ⟨List.mem_of_getElem? (i := 744) (by decide +kernel), List.forall_mem_cons.mpr ⟨List.mem_of_getElem? (i := 745) (by decide +kernel), fun _ h => absurd h List.not_mem_nil⟩⟩⟩⟩⟩⟩⟩⟩⟩⟩⟩⟩⟩⟩⟩⟩⟩⟩⟩⟩⟩
theorem lw_t {w : Cond} (h : w ∈ tables_1) : w ∈ lw_tbl := List.mem_append_right _ h
theorem lw_arr {s : State} {A : Array Value} {ty : FieldType} (h : (Cond.arrayClass ty).before A s = true) : ∃ cA, ArrOfT s cA ty ∧ s.vm.findClass ("[" ++ ty.toString) = some cA := by
  obtain ⟨cA, kA, comp, hf, hk, hkind⟩ := Cond.arrayClass_spec h
  exact ⟨cA, fun N z => ⟨(fun k h => by cases h), kA, hk, comp, hkind⟩, hf⟩
theorem lw_G {s : State} {A : Array Value} (hts : ∀ w ∈ lw_tbl, w.before A s = true) : ∃ (Dm : va_G) (cy : Nat → ClassId), xv_G Dm cy s := by
  obtain ⟨kX0, iX0, hkX0⟩ := u_known (C := RX0) (T := TX0) (N := 1) (n := 1) hts inX0 (hts _ (lw_t (List.mem_of_getElem? (i := 191) (by decide +kernel))))
  obtain ⟨kX1, iX1, hkX1⟩ := u_known (C := RX1) (T := TX1) (N := 2) (n := 2) hts inX1 (hts _ (lw_t (List.mem_of_getElem? (i := 259) (by decide +kernel))))
  obtain ⟨kX2, iX2, hkX2⟩ := u_known (C := RX2) (T := TX2) (N := 3) (n := 3) hts inX2 (hts _ (lw_t (List.mem_of_getElem? (i := 27) (by decide +kernel))))
  obtain ⟨kX3, iX3, hkX3⟩ := u_known (C := RX3) (T := TX3) (N := 6) (n := 6) hts inX3 (hts _ (lw_t (List.mem_of_getElem? (i := 140) (by decide +kernel))))
  obtain ⟨kX4, iX4, hkX4⟩ := u_known (C := RX4) (T := TX4) (N := 6) (n := 6) hts inX4 (hts _ (lw_t (List.mem_of_getElem? (i := 294) (by decide +kernel))))
  obtain ⟨kX5, iX5, hkX5⟩ := u_known (C := RX5) (T := TX5) (N := 8) (n := 8) hts inX5 (hts _ (lw_t (List.mem_of_getElem? (i := 39) (by decide +kernel))))
  obtain ⟨kX6, iX6, hkX6⟩ := u_known (C := RX6) (T := TX6) (N := 4) (n := 4) hts inX6 (hts _ (lw_t (List.mem_of_getElem? (i := 33) (by decide +kernel))))
  obtain ⟨kX7, iX7, hkX7⟩ := u_known (C := RX7) (T := TX7) (N := 2) (n := 2) hts inX7 (hts _ (lw_t (List.mem_of_getElem? (i := 278) (by decide +kernel))))
  obtain ⟨kX8, iX8, hkX8⟩ := u_known (C := RX8) (T := TX8) (N := 5) (n := 5) hts inX8 (hts _ (lw_t (List.mem_of_getElem? (i := 201) (by decide +kernel))))
  obtain ⟨kX9, iX9, hkX9⟩ := u_known (C := RX9) (T := TX9) (N := 9) (n := 9) hts inX9 (hts _ (lw_t (List.mem_of_getElem? (i := 87) (by decide +kernel))))
  obtain ⟨kX10, iX10, hkX10⟩ := u_known (C := RX10) (T := TX10) (N := 4) (n := 4) hts inX10 (hts _ (lw_t (List.mem_of_getElem? (i := 207) (by decide +kernel))))
  obtain ⟨kX11, iX11, hkX11⟩ := u_known (C := RX11) (T := TX11) (N := 6) (n := 6) hts inX11 (hts _ (lw_t (List.mem_of_getElem? (i := 19) (by decide +kernel))))
  obtain ⟨kX12, iX12, hkX12⟩ := u_known (C := RX12) (T := TX12) (N := 18) (n := 18) hts inX12 (hts _ (lw_t (List.mem_of_getElem? (i := 808) (by decide +kernel))))
  obtain ⟨aC, haC, hfC⟩ := lw_arr (ty := .char) (hts _ (lw_t (List.mem_of_getElem? (i := 292) (by decide +kernel))))
  obtain ⟨aI, haI, hfI⟩ := lw_arr (ty := .int) (hts _ (lw_t (List.mem_of_getElem? (i := 85) (by decide +kernel))))
  obtain ⟨aJ, haJ, hfJ⟩ := lw_arr (ty := .long) (hts _ (lw_t (List.mem_of_getElem? (i := 138) (by decide +kernel))))
  obtain ⟨aZ, haZ, hfZ⟩ := lw_arr (ty := .boolean) (hts _ (lw_t (List.mem_of_getElem? (i := 323) (by decide +kernel))))
  have hover : (Cond.arrayOver (.object "MiddleSpans$State")).before A s = true := hts _ (lw_t (List.mem_of_getElem? (i := 265) (by decide +kernel)))
  obtain ⟨cmS, aS, kS, hcmS, -, hkS, hkdS, hnS⟩ := Cond.arrayOver_spec hover
  have hover2 : (Cond.arrayOver (.array .int)).before A s = true := hts _ (lw_t (List.mem_of_getElem? (i := 93) (by decide +kernel)))
  obtain ⟨cmA, aA, kA, hcmA, -, hkA, hkdA, hnA⟩ := arrayOverA_spec hover2
  refine ⟨(fun k => if k = 0 then kX0 else if k = 1 then kX1 else if k = 2 then kX2 else if k = 3 then kX3 else if k = 4 then kX4 else if k = 5 then kX5 else if k = 6 then kX6 else if k = 7 then kX7 else if k = 8 then kX8 else if k = 9 then kX9 else if k = 10 then kX10 else if k = 11 then kX11 else kX12, fun k => if k = 0 then iX0 else if k = 1 then iX1 else if k = 2 then iX2 else if k = 3 then iX3 else if k = 4 then iX4 else if k = 5 then iX5 else if k = 6 then iX6 else if k = 7 then iX7 else if k = 8 then iX8 else if k = 9 then iX9 else if k = 10 then iX10 else if k = 11 then iX11 else iX12), fun k => if k = 13 then aC else if k = 14 then aI else if k = 15 then aJ else if k = 16 then aZ else if k = 17 then aS else aA, ⟨fun k q hq => ?_, fun k q hq => ?_⟩, fun q hq => va_Nw.of rfl (hts _ (lw_t (lw_nest q hq))), va_AO.of hover, over_moved (Vm.Alike.refl _) hover2⟩
  · match k, hq with
    | 0, hq => cases hq; exact hkX0
    | 1, hq => cases hq; exact hkX1
    | 2, hq => cases hq; exact hkX2
    | 3, hq => cases hq; exact hkX3
    | 4, hq => cases hq; exact hkX4
    | 5, hq => cases hq; exact hkX5
    | 6, hq => cases hq; exact hkX6
    | 7, hq => cases hq; exact hkX7
    | 8, hq => cases hq; exact hkX8
    | 9, hq => cases hq; exact hkX9
    | 10, hq => cases hq; exact hkX10
    | 11, hq => cases hq; exact hkX11
    | 12, hq => cases hq; exact hkX12
    | k + 13, hq => simp [vwCl] at hq
  · match k, hq with
    | 0, hq => cases hq; exact ⟨haC, hfC⟩
    | 1, hq => cases hq; exact ⟨haI, hfI⟩
    | 2, hq => cases hq; exact ⟨haJ, hfJ⟩
    | 3, hq => cases hq; exact ⟨haZ, hfZ⟩
    | 4, hq => cases hq; exact ⟨fun N z => ⟨(fun k h => by cases h), kS, hkS, cmS, hkdS⟩, kS, cmS, hkS, hkdS, hcmS, hnS⟩
    | 5, hq => cases hq; exact ⟨fun N z => ⟨(fun k h => by cases h), kA, hkA, cmA, hkdA⟩, hnA⟩
    | k + 6, hq => simp [xv_tys] at hq
theorem lw_and (x : Int32) : ∃ n : Nat, n ≤ 31 ∧ x &&& (31 : Int32) = Int32.ofInt (n : Int) := by
  have h1 : (x &&& (31 : Int32)).toBitVec.toNat = x.toBitVec.toNat &&& 31 := by
    rw [Int32.toBitVec_and, BitVec.toNat_and]
    rfl
  have h2 : x.toBitVec.toNat &&& 31 ≤ 31 := Nat.and_le_right
  refine ⟨(x &&& (31 : Int32)).toBitVec.toNat, by omega, ?_⟩
  rw [xb_ofI]
  apply Int32.toBitVec_inj.mp
  apply BitVec.eq_of_toNat_eq
  show (x &&& (31 : Int32)).toBitVec.toNat = (BitVec.ofNat 32 (x &&& (31 : Int32)).toBitVec.toNat).toNat
  rw [BitVec.toNat_ofNat]
  omega
section LWT
variable {p : Program} {l : Launch} {e : Env} {s : State} {m : MethodId} {below : List Frame} {meth : Method} {c : Code} {b L bb : Nat} {xs : Nat → Int32} {Dm : va_G} {cy : Nat → ClassId}
theorem lw_new (K : lw_K p l e s m below meth c b L xs Dm cy bb) {H : Heap} {locs : List Loc} {ls : Array Slot} {ce sl pc : Nat} {Q : State → Prop} {st : List Value} {M : xv_M} {ci index N : Nat} {C : String} {TT : u_T} {ty0 : Nat → FieldType} (hP : va_P Dm vwCl (xv_W bb cy M) H) (hs : H.size = bb + 1 + M.1.length) (hS : va_S (fun q => bb < q) s.heap H locs) (hd : decode cL_law pc = .ok (.new index, 3)) (hc : vwCl[ci]? = some (C, TT, N)) (hN : N = xv_N ci) (hci : ci < 13) (hin : ∀ w ∈ u_ws C TT N, w ∈ wsL_law) (hty : ∀ k, k < N → parseFieldDescriptor (TT k).2.2.1 = some (ty0 k)) (hdv : ∀ j, j < N → defaultValue (ty0 j) = xv_sv 0 (xv_ty ci j) 0 0 0)
    (hcl : (Cond.classLink RL index C).before #[Value.ref b] s = true) (hinst : (Cond.instantiable C N).before #[Value.ref b] s = true) (hini : (Cond.initialized C).before #[Value.ref b] s = true) (hcells : ce + 1 ≤ 600000) (hslots : sl + N ≤ 7302250) (k : ∀ H1 : Heap, va_P Dm vwCl (xv_W bb cy (xv_new M (ci, 0))) H1 → H1.size = bb + 1 + (xv_new M (ci, 0)).1.length → va_S (fun q => bb < q) s.heap H1 locs → W p l e room_1 s m #[Value.ref b] below meth c H1 locs (ce + 1) (sl + N) Q (F0 m (pc + 3) ls (.ref (bb + (M.1.length + 1)) :: st))) : W p l e room_1 s m #[Value.ref b] below meth c H locs ce sl Q (F0 m pc ls st) := by
  obtain ⟨hx, hb, hml, hown, hts, hG, hbb, hX, hbl, hL⟩ := K
  have hKn := hG.1.1 ci _ hc
  refine W.newcK hx hb hown hcl hinst hini rfl hd hcells hslots hKn.2.1 rfl fun H1 kC hkC e1 z1 o1 => ?_
  have hk : ∀ (k : Nat) (x : Nat × va_E), (xv_W bb cy M)[k]? = some x → H1[x.1]? = H[x.1]? := fun k x hx => o1 x.1 ((hP k x hx).lt)
  have h2 := k H1 ?_ (by rw [z1, hs]; simp [xv_new]; omega) ⟨Nat.le_trans hS.1 (by omega), fun x h1 h2 => (o1 x (Nat.lt_of_lt_of_le h1 hS.1)).trans (hS.2.1 x h1 h2), hS.2.2⟩
  · have e8 : bb + (M.1.length + 1) = H.size := by omega
    rw [e8] at h2
    exact h2
  · show va_P Dm vwCl (xv_W bb cy (xv_new M (ci, 0))) H1
    rw [xv_W_new]
    refine (hP.kept hk).app (fun k x hx => ?_)
    have hzz : k < 1 := (List.getElem?_eq_some_iff.mp hx).1
    rw [show k = 0 by omega] at hx
    cases hx
    unfold xv_E
    rw [if_pos hci]
    refine ⟨_, hc, ?_⟩
    have h5 := u_born ty0 hts hin hKn hkC (by rw [hs] at e1; exact e1) hty
    refine t_OB.to h5 (fun j hj => ?_)
    rw [hdv j hj]
    unfold vp_V
    rw [List.getD_eq_getElem?_getD, xv_fs_get (by rw [← hN]; exact hj)]
    show _ = xv_sv bb (xv_ty ci j) 0 0 0
    rfl
theorem lw_callI (K : lw_K p l e s m below meth c b L xs Dm cy bb) {H : Heap} {locs : List Loc} {ls : Array Slot} {ce sl pc mc ms : Nat} {Q : State → Prop} {st : List Value} {M : xv_M} {y : MethodName} {bytes : ByteArray} {maxL index : Nat} {ws : List Cond} {rm : Room} {r : Nat} {q : Unit × xv_M} (hP : va_P Dm vwCl (xv_W bb cy M) H) (hs : H.size = bb + 1 + M.1.length) (hS : va_S (fun q => bb < q) s.heap H locs) (hsz : ls.size = 4) (hd : decode cL_law pc = .ok (.invokespecial index, 3)) (h0 : r ≠ 0) (hM : xv_Met l y ws rm mc ms true [xr r] M (xv_qV true q)) (cw : CallB room_1 s #[Value.ref b] RL index y bytes maxL none ws rm mc ms 0 ∧ y.name = "<init>" ∧ (Cond.instanceMethod y).before #[Value.ref b] s = true) (hrm : (st.map fun v => v.category).sum ≤ 8) (hf : ce + mc ≤ 600000 ∧ sl + ms ≤ 7302250)
    (k : ∀ (H1 : Heap) (locs1 : List Loc), va_P Dm vwCl (xv_W bb cy q.2) H1 → H1.size = bb + 1 + q.2.1.length → va_S (fun q => bb < q) s.heap H1 locs1 → W p l e room_1 s m #[Value.ref b] below meth c H1 locs1 (ce + mc) (sl + ms) Q (F0 m (pc + 3) ls st)) : W p l e room_1 s m #[Value.ref b] below meth c H locs ce sl Q (F0 m pc ls (.ref (bb + r) :: st)) := by
  obtain ⟨hx, hb, hml, hown, hts, hG, hbb, hX, hbl, hL⟩ := K
  have hbs : bb < s.heap.size := by omega
  have hpre2 : ∀ U : State, U.heap = H → s.WarmedH U.vm → xv_pre true [xr r] M Dm cy bb ((Value.ref (bb + r) :: ([] : List Value)).toArray) U := fun U hU hW => by
    have h9 : xv_pre true [xr r] M Dm cy bb ((([xr r] : List xv_v).map (xv_val bb)).toArray) U := ⟨rfl, hG.moved hW, ⟨by rw [hU]; exact hP, fun _ => by rw [hU]; exact hs⟩, by rw [hU]; exact Nat.lt_of_lt_of_le hbs hS.1⟩
    rw [List.map_cons] at h9
    rw [show xv_val bb (xr r) = .ref (bb + r) from xv_r_s h0] at h9
    exact h9
  have hrun := va_runI (e := e) (below := below) (meth := meth) (locs := locs) (cells := ce) (slots := sl) (g := F0 m pc ls (.ref (bb + r) :: st)) (As := []) (rest := st) (b := bb + r) ⟨hx, hb, hml, hown, hts⟩ (hM Dm cy bb) cw ⟨xv_blind, hpre2⟩ rfl rfl hsz rfl (lv_room hrm) hd hf
  refine va_callv hrun hS (fun _ _ h => h) (fun _ h => h) (fun u t H1 locs1 ht hvm hw hB hz1 hk1 hS1 => ?_)
  exact k H1 locs1 (by rw [← ht]; exact hB.1) (by rw [← ht]; exact hB.2 rfl) hS1
set_option maxHeartbeats 4000000 in
set_option maxRecDepth 100000 in
theorem lw_loop (K : lw_K p l e s m below meth c b L xs Dm cy bb) (hr : meth.sig.returnType = ret) (hlocks : meth.locks = false) : ∀ (n i : Nat), L ≤ i + n → i ≤ 1536 → ∀ (M : xv_M), INV M → ∀ (H : Heap) (locs : List Loc), va_P Dm vwCl (xv_W bb cy M) H → va_S (fun q => bb < q) s.heap H locs → ∀ ls : Array Slot, lv_has ls 4 (lw_L b bb i) → W p l e room_1 s m #[Value.ref b] below meth c H locs 194 15622 (lw_Z below #[Value.ref b] s) (F0 m 18 ls []) := by
  intro n
  induction n with
  | zero =>
    intro i hn hi M hI H locs hP hS ls hl
    have h0 := lv_at hl 0 rfl
    have h3 := lv_at hl 3 rfl
    obtain ⟨hx, hb, hml, hown, hts, hG, hbb, hX, hbl, hL⟩ := id K
    refine lv_iload_n hx hb dL_law_18 rfl h3 ?_
    refine lv_aload_n hx hb dL_law_19 rfl h0 ?_
    refine va_slen hx hb hX hbl (A := fun q => bb < q) (by show ¬ bb < b; omega) hS dL_law_20 ?_
    refine lv_iconst (v := Int32.ofInt 3) hx hb dL_law_21 rfl ?_
    refine lv_isub hx hb dL_law_22 ?_
    rw [show Int32.ofNat L - Int32.ofInt 3 = Int32.ofInt ((L : Int) - 3) by rw [← xv_sub]; rw [show Int32.ofInt (L : Int) = Int32.ofNat L from xb_ofI L]]
    have hlt := xv_lt (x := (L : Int) - 3) (y := (i : Int)) ⟨by omega, by omega⟩ ⟨by omega, by omega⟩
    refine lv_icmp_gt (tgt := 790) hx hb dL_law_23 (by decide) (fun q => ?_) (fun q => ?_)
    · refine lv_iconst (v := 1) hx hb dL_law_790 (by decide) ?_
      refine va_forget (fun q hq => by have := hS.2.2 q hq; show s.heap.size ≤ q.base; have h9 : bb < q.base := this; omega) ?_
      refine W.widen (k := 600000) (n := 7302250) (Nat.le_of_ble_eq_true rfl) (Nat.le_of_ble_eq_true rfl) ?_
      exact lw_ret hx hb hr hlocks dL_law_791
    · exact absurd (hlt.mpr (by omega)) q
  | succ n ih =>
    intro i hn hi M hI H locs hP hS ls hl
    have h0 := lv_at hl 0 rfl
    have h3 := lv_at hl 3 rfl
    obtain ⟨hx, hb, hml, hown, hts, hG, hbb, hX, hbl, hL⟩ := id K
    refine lv_iload_n hx hb dL_law_18 rfl h3 ?_
    refine lv_aload_n hx hb dL_law_19 rfl h0 ?_
    refine va_slen hx hb hX hbl (A := fun q => bb < q) (by show ¬ bb < b; omega) hS dL_law_20 ?_
    refine lv_iconst (v := Int32.ofInt 3) hx hb dL_law_21 rfl ?_
    refine lv_isub hx hb dL_law_22 ?_
    rw [show Int32.ofNat L - Int32.ofInt 3 = Int32.ofInt ((L : Int) - 3) by rw [← xv_sub]; rw [show Int32.ofInt (L : Int) = Int32.ofNat L from xb_ofI L]]
    have hlt := xv_lt (x := (L : Int) - 3) (y := (i : Int)) ⟨by omega, by omega⟩ ⟨by omega, by omega⟩
    refine lv_icmp_gt (tgt := 790) hx hb dL_law_23 (by decide) (fun q => ?_) (fun q => ?_)
    · refine lv_iconst (v := 1) hx hb dL_law_790 (by decide) ?_
      refine va_forget (fun q hq => by have := hS.2.2 q hq; show s.heap.size ≤ q.base; have h9 : bb < q.base := this; omega) ?_
      refine W.widen (k := 600000) (n := 7302250) (Nat.le_of_ble_eq_true rfl) (Nat.le_of_ble_eq_true rfl) ?_
      exact lw_ret hx hb hr hlocks dL_law_791
    · have hiL : i + 2 < L := by
        have := fun z => q (hlt.mpr z)
        omega
      have kont : ∀ (M2 : xv_M) (H2 : Heap) (locs2 : List Loc), INV M2 → va_P Dm vwCl (xv_W bb cy M2) H2 → va_S (fun q => bb < q) s.heap H2 locs2 → W p l e room_1 s m #[Value.ref b] below meth c H2 locs2 194 15622 (lw_Z below #[Value.ref b] s) (F0 m 784 ls []) := by
        intro M2 H2 locs2 i2 hP2 hS2
        refine lv_iinc (v := Int32.ofInt ((i + 3 : Nat) : Int)) (lv' := [(3, .int (Int32.ofInt ((i + 3 : Nat) : Int))), (0, .ref b), (1, .ref (bb + 1)), (2, .ref (bb + 188))]) hx hb dL_law_784 hl (k := 3) rfl (by rw [xv_add, show (i : Int) + 3 = ((i + 3 : Nat) : Int) by omega]) (by decide) rfl (fun ls2 hl2 => ?_)
        refine lv_goto (tgt := 18) hx hb dL_law_787 (by decide) ?_
        exact ih (i + 3) (by omega) (by omega) M2 i2 H2 locs2 hP2 hS2 ls2 (lv_sub hl2 [1, 2, 3, 0] rfl)
      refine lv_aload_n hx hb dL_law_26 rfl h0 ?_
      refine lv_iload_n hx hb dL_law_27 rfl h3 ?_
      obtain ⟨hin, ht⟩ := xv_ix (x := (i : Int)) (n := L) (by omega) (by omega) (by omega)
      refine va_sld hx hb hX hbl (A := fun q => bb < q) (by show ¬ bb < b; omega) hS hin dL_law_28 ?_
      refine lv_bipush (v := 31) hx hb dL_law_29 (by decide) ?_
      refine lv_iand hx hb dL_law_31 ?_
      obtain ⟨w, hw31, ew⟩ := lw_and (xs (Int32.ofInt (i : Int)).toNatClampNeg)
      rw [ew]
      by_cases hw : 24 ≤ w
      · have e0 : (Int32.ofInt (w : Int)).toInt = (w : Int) := xv_toInt ⟨by omega, by omega⟩
        refine lv_tableOut (tgt := 784) hx hb dL_law_32 (by rw [e0]; omega) (by decide) ?_
        exact kont M H locs hI hP hS
      · have hc24 : w = 0 ∨ w = 1 ∨ w = 2 ∨ w = 3 ∨ w = 4 ∨ w = 5 ∨ w = 6 ∨ w = 7 ∨ w = 8 ∨ w = 9 ∨ w = 10 ∨ w = 11 ∨ w = 12 ∨ w = 13 ∨ w = 14 ∨ w = 15 ∨ w = 16 ∨ w = 17 ∨ w = 18 ∨ w = 19 ∨ w = 20 ∨ w = 21 ∨ w = 22 ∨ w = 23 := by omega
        rcases hc24 with rfl | rfl | rfl | rfl | rfl | rfl | rfl | rfl | rfl | rfl | rfl | rfl | rfl | rfl | rfl | rfl | rfl | rfl | rfl | rfl | rfl | rfl | rfl | rfl
        · refine lv_tableIn (tgt := 144) (off := 112) hx hb dL_law_32 (by decide) (by decide) (by decide +kernel) (by decide) ?_
          exact lwc_add K hI hiL hP hS hl kont
        · refine lv_tableIn (tgt := 177) (off := 145) hx hb dL_law_32 (by decide) (by decide) (by decide +kernel) (by decide) ?_
          exact lwc_readSpans K hI hiL hP hS hl kont
        · refine lv_tableIn (tgt := 190) (off := 158) hx hb dL_law_32 (by decide) (by decide) (by decide +kernel) (by decide) ?_
          exact lwc_remove K hI hiL hP hS hl kont
        · refine lv_tableIn (tgt := 213) (off := 181) hx hb dL_law_32 (by decide) (by decide) (by decide +kernel) (by decide) ?_
          exact lwc_move K hI hiL hP hS hl kont
        · refine lv_tableIn (tgt := 246) (off := 214) hx hb dL_law_32 (by decide) (by decide) (by decide +kernel) (by decide) ?_
          exact lwc_come K hI hiL hP hS hl kont
        · refine lv_tableIn (tgt := 279) (off := 247) hx hb dL_law_32 (by decide) (by decide) (by decide +kernel) (by decide) ?_
          exact lwc_put K hI hiL hP hS hl kont
        · refine lv_tableIn (tgt := 312) (off := 280) hx hb dL_law_32 (by decide) (by decide) (by decide +kernel) (by decide) ?_
          exact lwc_speed K hI hiL hP hS hl kont
        · refine lv_tableIn (tgt := 345) (off := 313) hx hb dL_law_32 (by decide) (by decide) (by decide +kernel) (by decide) ?_
          exact lwc_pass K hI hiL hP hS hl kont
        · refine lv_tableIn (tgt := 368) (off := 336) hx hb dL_law_32 (by decide) (by decide) (by decide +kernel) (by decide) ?_
          exact lwc_type K hI hiL hP hS hl kont
        · refine lv_tableIn (tgt := 393) (off := 361) hx hb dL_law_32 (by decide) (by decide) (by decide +kernel) (by decide) ?_
          exact lwc_clearText K hI hiL hP hS hl kont
        · refine lv_tableIn (tgt := 406) (off := 374) hx hb dL_law_32 (by decide) (by decide) (by decide +kernel) (by decide) ?_
          exact lwc_undo K hI hiL hP hS hl kont
        · refine lv_tableIn (tgt := 419) (off := 387) hx hb dL_law_32 (by decide) (by decide) (by decide +kernel) (by decide) ?_
          exact lwc_keep K hI hiL hP hS hl kont
        · refine lv_tableIn (tgt := 432) (off := 400) hx hb dL_law_32 (by decide) (by decide) (by decide +kernel) (by decide) ?_
          exact lwc_restore K hI hiL hP hS hl kont
        · refine lv_tableIn (tgt := 445) (off := 413) hx hb dL_law_32 (by decide) (by decide) (by decide +kernel) (by decide) ?_
          exact lwc_span K hI hiL hP hS hl kont
        · refine lv_tableIn (tgt := 478) (off := 446) hx hb dL_law_32 (by decide) (by decide) (by decide +kernel) (by decide) ?_
          exact lwc_walker K hI hiL hP hS hl kont
        · refine lv_tableIn (tgt := 511) (off := 479) hx hb dL_law_32 (by decide) (by decide) (by decide +kernel) (by decide) ?_
          exact lwc_inside K hI hiL hP hS hl kont
        · refine lv_tableIn (tgt := 544) (off := 512) hx hb dL_law_32 (by decide) (by decide) (by decide +kernel) (by decide) ?_
          exact lwc_ask K hI hiL hP hS hl kont
        · refine lv_tableIn (tgt := 577) (off := 545) hx hb dL_law_32 (by decide) (by decide) (by decide +kernel) (by decide) ?_
          exact lwc_free K hI hiL hP hS hl kont
        · refine lv_tableIn (tgt := 626) (off := 594) hx hb dL_law_32 (by decide) (by decide) (by decide +kernel) (by decide) ?_
          exact lwc_most K hI hiL hP hS hl kont
        · refine lv_tableIn (tgt := 649) (off := 617) hx hb dL_law_32 (by decide) (by decide) (by decide +kernel) (by decide) ?_
          exact lwc_changesIn K hI hiL hP hS hl kont
        · refine lv_tableIn (tgt := 672) (off := 640) hx hb dL_law_32 (by decide) (by decide) (by decide +kernel) (by decide) ?_
          exact lwc_meetIn K hI hiL hP hS hl kont
        · refine lv_tableIn (tgt := 705) (off := 673) hx hb dL_law_32 (by decide) (by decide) (by decide +kernel) (by decide) ?_
          exact lwc_index K hI hiL hP hS hl kont
        · refine lv_tableIn (tgt := 728) (off := 696) hx hb dL_law_32 (by decide) (by decide) (by decide +kernel) (by decide) ?_
          exact lwc_event K hI hiL hP hS hl kont
        · refine lv_tableIn (tgt := 761) (off := 729) hx hb dL_law_32 (by decide) (by decide) (by decide +kernel) (by decide) ?_
          exact lwc_count K hI hiL hP hS hl kont
end LWT
set_option maxHeartbeats 4000000 in
set_option maxRecDepth 100000 in
/-- the law, from its entry -/
theorem whole_start {p : Program} {e : Env} {s : State} {m : MethodId} {below : List Frame} {meth : Method} {c : Code} (l : Launch) (hflags : l.flags = flags0) {b L : Nat} {xs : Nat → Int32} (hL : L ≤ 1536) (C0 : lw_At p s m meth c b L xs) : W p l e room_1 s m #[Value.ref b] below meth c s.heap [] 0 0 (lw_Z below #[Value.ref b] s) (entryFrame m ([Value.ref b] : List Value).toArray 4) := by
  obtain ⟨hx, hb, hr, hml, hown, hts0, hX, hbl, hlocks, hgv⟩ := id C0
  obtain ⟨Dm, cy, hG⟩ := lw_G hts0
  obtain ⟨bb, hbb⟩ : ∃ bb, bb + 1 = s.heap.size := ⟨s.heap.size - 1, by omega⟩
  have hts : ∀ w ∈ wsL_law, w.before #[Value.ref b] s = true := fun w hw => hts0 w (wsL_law_in w hw)
  have K : lw_K p l e s m below meth c b L xs Dm cy bb := ⟨hx, hb, hml, hown, hts, hG, hbb, hX, hbl, hL⟩
  have hl := lv_entry ([.ref b]) (n := 4) (Nat.le_of_ble_eq_true rfl)
  rw [lg_entry_eq]
  generalize (lg_sl ([.ref b]) ++ List.replicate (4 - (lg_sl ([.ref b])).length) Slot.unset).toArray = ls at hl ⊢
  have hl : lv_has ls 4 [(0, .ref b)] := hl
  have hP0 : va_P Dm vwCl (xv_W bb cy (([], fun _ _ => 0, fun _ _ => 0, fun _ _ => 0) : xv_M)) s.heap := fun k q h => by simp [xv_W] at h
  refine lw_new K (ci := 11) (N := 6) hP0 (by show s.heap.size = bb + 1 + 0; omega) va_S.rf dL_law_0 rfl rfl (by decide) inlX11 tyX11_ok xv_dv11 (hts _ (by decide +kernel)) (hts _ (by decide +kernel)) (hts _ (by decide +kernel)) (Nat.le_of_ble_eq_true rfl) (Nat.le_of_ble_eq_true rfl) (fun H1 hP1 hz1 hS1 => ?_)
  refine lv_dup hx hb dL_law_3 rfl ?_
  refine lw_callI K (M := xl_A0) (r := 1) (q := ((), xl_A1)) (mc := 186) (ms := 8316) hP1 hz1 hS1 hl.1 dL_law_4 (by decide) (S_X11_init l 1 xl_A0 ((), xl_A1) xl_init11) (cwI 0 hts gL_law_X11_init rfl rfl rfl (hts _ (by decide +kernel)) (hts _ (by decide +kernel)) (hts _ (by decide +kernel)) rfl (by decide +kernel) ⟨Nat.le_of_ble_eq_true rfl, Nat.le_of_ble_eq_true rfl⟩) (by decide) ⟨Nat.le_of_ble_eq_true rfl, Nat.le_of_ble_eq_true rfl⟩ (fun H2 lH2 hP2 hz2 hS2 => ?_)
  refine lv_astore_n (lv' := [(1, .ref (bb + 1)), (0, .ref b)]) hx hb dL_law_7 rfl hl (by decide) rfl (fun ls hl => ?_)
  refine lw_new K (M := xl_A1) (ci := 12) (N := 18) hP2 hz2 hS2 dL_law_8 rfl rfl (by decide) inlX12 tyX12_ok xv_dv12 (hts _ (by decide +kernel)) (hts _ (by decide +kernel)) (hts _ (by decide +kernel)) (Nat.le_of_ble_eq_true rfl) (Nat.le_of_ble_eq_true rfl) (fun H3 hP3 hz3 hS3 => ?_)
  rw [xl_A1_len]
  refine lv_dup hx hb dL_law_11 rfl ?_
  refine lw_callI K (M := xl_A2) (r := 188) (q := ((), xl_A3)) (mc := 6) (ms := 7282) hP3 hz3 hS3 hl.1 dL_law_12 (by decide) (S_X12_init l 188 xl_A2 ((), xl_A3) xl_init12) (cwI 0 hts gL_law_X12_init rfl rfl rfl (hts _ (by decide +kernel)) (hts _ (by decide +kernel)) (hts _ (by decide +kernel)) rfl (by decide +kernel) ⟨Nat.le_of_ble_eq_true rfl, Nat.le_of_ble_eq_true rfl⟩) (by decide) ⟨Nat.le_of_ble_eq_true rfl, Nat.le_of_ble_eq_true rfl⟩ (fun H4 lH4 hP4 hz4 hS4 => ?_)
  refine lv_astore_n (lv' := [(2, .ref (bb + 188)), (1, .ref (bb + 1)), (0, .ref b)]) hx hb dL_law_15 rfl hl (by decide) rfl (fun ls hl => ?_)
  refine lv_iconst (v := Int32.ofInt ((0 : Nat) : Int)) hx hb dL_law_16 rfl ?_
  refine lv_istore_n (lv' := [(3, .int (Int32.ofInt ((0 : Nat) : Int))), (2, .ref (bb + 188)), (1, .ref (bb + 1)), (0, .ref b)]) hx hb dL_law_17 rfl hl (by decide) rfl (fun ls hl => ?_)
  exact lw_loop K hr hlocks L 0 (by omega) (by omega) xl_A3 INV_start H4 lH4 hP4 hS4 ls (lv_sub hl [3, 2, 1, 0] rfl)
set_option maxHeartbeats 4000000 in
theorem lw_walk (l : Launch) (hflags : l.flags = flags0) (b : Addr) (xs : List Int32) : MetFree l x (headSpec (Jvm.Cond.code x code maxLocals ret :: tables_1) room_1) (lw_P b xs) (fun _ _ _ _ _ => True) lw_Q := by
  refine MetFree.of_bodyS (code := code) (maxLocals := maxLocals) (ret := ret) (by decide) ?_ ?_
  · intro args s m h hn
    obtain ⟨meth, c, h1, h2, h3, h4, h5, h6, -, -⟩ := Cond.code_spec hn (atoms_spec (ws := Jvm.Cond.code x code maxLocals ret :: tables_1) h _ List.mem_cons_self)
    exact ⟨meth, c, h1, h2, h3, h4, h5, h6⟩
  · intro p e s m args below meth c s₁ B hml0 hP _
    obtain ⟨rfl, hx, hbd, hgv⟩ := hP
    obtain ⟨scr, harrAt, hlist, hof, hsmall⟩ := hx
    obtain ⟨hcb, hkn, -, -⟩ := State.arrayAt?_spec harrAt
    have hown : s.vm.findClass R_law = some m.cls := findClass_of_methodNamed B.named
    have hts0 : ∀ c ∈ (Jvm.Cond.code x code maxLocals ret :: tables_1), c.before #[Value.ref b] s = true := atoms_spec (ws := Jvm.Cond.code x code maxLocals ret :: tables_1) B.pre
    have hts : ∀ w ∈ lw_tbl, w.before #[Value.ref b] s = true := k2_hts_sels lw_privs (fun w hw => hts0 w (List.mem_cons_of_mem _ hw)) lw_privs_ok
    have hml : c.maxLocals = 4 := B.maxLocals_eq (hts0 _ List.mem_cons_self)
    have X₀ : Stand p l e room_1 s m #[Value.ref b] below meth c s₁ [] 0 0 := Stand.of_body B
    have hh0 : s₁.heap = s.heap := by rw [B.state]; rfl
    have hsz : scr.slots.size = xs.length := by rw [← Array.length_toList, hlist, List.length_map]
    have hval : ∀ j : Nat, j < xs.length → scr.slots[j]? = some (.int (xs.getD j 0)) := fun j hj => by
      rw [← Array.getElem?_toList, hlist]
      simp [hj]
    have hbl : b < s.heap.size := (Array.getElem?_eq_some_iff.mp hcb).1
    have hX : va_X b xs.length (fun j => xs.getD j 0) s s.heap := ⟨scr, hcb, hof, hkn, hsz, hval⟩
    have K : W p l e room_1 s m #[Value.ref b] below meth c s₁.heap [] 0 0 (lw_Z below #[Value.ref b] s) (entryFrame m ([Value.ref b] : List Value).toArray 4) := by
      rw [hh0]
      exact whole_start l hflags hbd ⟨B.exec, B.bytes, B.returns, hml, hown, hts, hX, hbl, B.notSynchronized, hgv⟩
    obtain ⟨t, a1, o, b1, b2, b3⟩ := K s₁ rfl X₀
    exact ⟨t, o, a1, b1, b2, b3⟩
theorem lw_pre_spec {args : Array Value} {s : State} (h : (Jvm.Cond.and given_1 narrow_1).before args s = true) (hr : rest_1_c.before args s = true) : ∃ (b : Addr) (xs : List Int32), lw_P b xs args s := by
  have hs := flat_of_before _ h
  have hq := flat_of_before _ hr
  have hc : (Cond.count 1).before args s = true := hs _ (by decide +kernel)
  have harr : (Cond.arrayOf (.arg 0) .int).before args s = true := hs _ (by decide +kernel)
  have hle : (Cond.le (.length (.arg 0)) (.int 1536)).before args s = true := hs _ (by decide +kernel)
  have hlen : (Cond.isInt (.length (.arg 0))).before args s = true := hq _ (by decide +kernel)
  have hall : (Cond.all (.arg 0) (.isInt (.elem (.arg 0) (.index 0)))).before args s = true := hq _ (by decide +kernel)
  obtain ⟨b, xs, hb, hx⟩ := State.ints_of_pre rfl harr hlen hall
  have hsm : xs.length < 2 ^ 31 := hx.choose_spec.2.2.2
  have hev : (Term.length (.arg 0)).eval args s none [] s = some (.int xs.length.toInt32) := hx.length_eval hb
  have hv := Cond.le_ints hev (show (Term.int 1536).eval args s none [] s = some (.int 1536) from rfl)
  have hd : xs.length.toInt32 ≤ 1536 := by
    simpa [Cond.before, Cond.holds, hv] using hle
  have hN : xs.length ≤ 1536 := (Int32.ofNat_le_ofNat hsm (by decide)).mp (show Int32.ofNat xs.length ≤ Int32.ofNat 1536 from hd)
  exact ⟨b, xs, Cond.one_arg hc (show args[0]? = some (.ref b) from hb), hx, hN, h⟩
theorem lw_comes (l : Launch) (hflags : l.flags = flags0) : Comes l x (Jvm.Cond.code x code maxLocals ret :: tables_1) room_1 (fun tb e args s => Calls_1 tb e args s ∧ rest_1 tb e args s ∧ Pre_1 tb e args s)
    (fun _ _ args s o t => lw_Q args s o t) := by
  intro p e ha hc hk s m args below hf hfit hheap happ hpre
  obtain ⟨b, xs, hP⟩ := lw_pre_spec hpre.2.2 hpre.2.1
  obtain ⟨k, o, h1, h2, h3, hQ⟩ := lw_walk l hflags b xs p e ha hc hk s m args below hf ((Spec.applies_iff_loose hf).mp happ).1 hP trivial
  exact ⟨k, o, h1, h2, h3, hQ⟩
theorem lw_frame {s t : State} {o : Outcome} {args : Array Value} (h : Framed s o t [] 600000 7302250) :
    Framed s o t (fieldLocs frame_1_writes args s ++ arrayLocs frame_1_arrays args s ++ staticLocs frame_1_statics s) 600000 7302250 := h
theorem lw_limb (L : Cond) (hL : ∀ (args : Array Value) (s t : State), L.after args s (.returned (some (.int 1))) t = true) :
    ArmFor flags0 classFile x code maxLocals ret World_1 tables_1 room_1 Calls_1 rest_1 Pre_1
      (fun tb e a s o t => postC L tb e a s o t ∧ Framed s o t (fieldLocs frame_1_writes a s ++ arrayLocs frame_1_arrays a s ++ staticLocs frame_1_statics s) 600000 7302250) := by
  intro l hflags _ _ p e ha hc hk s m args below hf hfit hheap happ hpre
  obtain ⟨k, o, h1, h2, h3, rfl, hF⟩ := lw_comes l hflags p e ha hc hk s m args below hf hfit hheap happ hpre
  exact ⟨k, _, h1, h2, h3, hL args s _, lw_frame hF⟩
theorem i_vc : Claimed_1_1 ∧ Claimed_1_2 := ⟨lw_limb limb_1_1 (fun args s t => by simp [limb_1_1, Cond.after, Cond.holds, Cond.value]), lw_limb limb_1_2 (fun args s t => Cond.after_iff.mpr (by
  first | (rw [show limb_1_2 = Cond.eq .result (.int 1) from rfl, Cond.eq_ints (x := 1) (y := 1) rfl rfl]; simp; done) | (simp [limb_1_2, Cond.value, Term.eval]; done)))⟩
