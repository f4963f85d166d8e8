/-! ## rows that were wanting -/
def xv_fuel : Nat := 10000
section XM
variable {T : Type} {Y : xv_Y} {cc : ByteArray} {Ts : List Cond} {own : String} {ce sl : Nat} {Q : State → Prop} {tg : T} {pc pc' : Nat} {L L' : List (Option xv_v)} {st : List xv_v} {M : xv_M} {d d' d1 d2 : Option T}
theorem xv_ldc2 {index : Nat} {v : Int64} (hY : xv_ok Y cc Ts own) (hd : decode cc pc = .ok (.ldc2_w index, 3)) (hp : pc + 3 = pc') (hw : Cond.constantLong own index v ∈ Ts) (k : xv_D Y ce sl Q tg pc' L (xl v :: st) M d) : xv_D Y ce sl Q tg pc L st M d := by
  subst hp
  obtain ⟨⟨p, l, e, R, s⟩, ⟨m, args, below, meth, c⟩, Dm, cy, b, nL, fl⟩ := Y
  intro hh H locs ls hP hz hS hl
  exact lv_ldc2 hY.1 hY.2.1 hY.2.2.2.1 (hY.2.2.2.2.1 _ hw) hd (k hh H locs ls hP hz hS hl)
theorem xv_ixor {x y : Int} (hY : xv_ok Y cc Ts own) (hd : decode cc pc = .ok (.ixor, 1)) (hp : pc + 1 = pc') (k : xv_D Y ce sl Q tg pc' L (xi (((Int32.ofInt x) ^^^ (Int32.ofInt y)).toInt) :: st) M d) : xv_D Y ce sl Q tg pc L (xi y :: xi x :: st) M d := by
  subst hp
  obtain ⟨⟨p, l, e, R, s⟩, ⟨m, args, below, meth, c⟩, Dm, cy, b, nL, fl⟩ := Y
  intro hh H locs ls hP hz hS hl
  have h := k hh H locs ls hP hz hS hl
  simp only [List.map_cons, xv_val, xv_i, Int32.ofInt_toInt] at h ⊢
  exact lv_ixor hY.1 hY.2.1 hd h
theorem xv_eqd (h : d = d') (k : xv_D Y ce sl Q tg pc L st M d') : xv_D Y ce sl Q tg pc L st M d := h ▸ k
theorem xv_eqT {x y : Int} {c : Prop} [Decidable c] (h : xv_inb x = true ∧ xv_inb y = true) (hc : c) (k : xv_D Y ce sl Q tg pc L st M (xv_cmp x y c d none)) : xv_D Y ce sl Q tg pc L st M d := by
  have e : xv_cmp x y c d none = d := by
    unfold xv_cmp xv_g
    rw [if_pos h, if_pos hc]
  rw [e] at k
  exact k
theorem xv_eqF {x y : Int} {c : Prop} [Decidable c] (h : xv_inb x = true ∧ xv_inb y = true) (hc : ¬ c) (k : xv_D Y ce sl Q tg pc L st M (xv_cmp x y c none d)) : xv_D Y ce sl Q tg pc L st M d := by
  have e : xv_cmp x y c none d = d := by
    unfold xv_cmp xv_g
    rw [if_pos h, if_neg hc]
  rw [e] at k
  exact k
theorem xv_join {α : Type} {a : α → Option T} {g : (α → Option T) → Option T} (pcJ : Nat) (fL : α → List (Option xv_v)) (fS : α → List xv_v) (fM : α → xv_M) (h1 : ∀ x, xv_D Y ce sl Q tg pcJ (fL x) (fS x) (fM x) (a x)) (h2 : ∀ j : α → Option T, (∀ x, xv_D Y ce sl Q tg pcJ (fL x) (fS x) (fM x) (j x)) → xv_D Y ce sl Q tg pc L st M (g j)) : xv_D Y ce sl Q tg pc L st M (xv_let a g) := h2 a h1
end XM
/-! ## a method of a class with rows of its own among the natives, which isn't one of them -/
theorem xv_ofWF {l : Launch} {y : MethodName} {ws ws' : List Cond} {rm : Room} {Pc : Array Value → State → Prop} {Qc : Array Value → State → Outcome → State → Prop} {mc ms : Nat} {free : Addr → Prop} {cc : ByteArray} {maxL : Nat} {ret : Option FieldType}
    (hy : plainFor y = true) (hw : ws = Cond.code y cc maxL ret :: ws')
    (body : ∀ p e s m args below meth c s₁, BodyLoose p l y (headSpec ws rm) cc maxL ret e s m args below meth c s₁ → c.maxLocals = maxL → Pc args s →
      W p l e (headSpec ws rm).room s m args below meth c s.heap [] 0 0 (MQ below Qc args s mc ms free) (entryFrame m args maxL)) : Met l y ws rm Pc Qc mc ms free := by
  refine MetFree.of_bodySF (code := cc) (maxLocals := maxL) (ret := ret) hy ?_ ?_
  · intro args s m h hn
    obtain ⟨meth, c, h1, h2, h3, h4, h5, h6, -, -⟩ := Cond.code_spec hn (atoms_spec (ws := ws) h _ (by rw [hw]; exact List.mem_cons_self))
    exact ⟨meth, c, h1, h2, h3, h4, h5, h6⟩
  · intro p e s m args below meth c s₁ B hml hP _
    have hh0 : s₁.heap = s.heap := by rw [B.state]; rfl
    obtain ⟨t, a1, o, b1, b2, b3⟩ := body p e s m args below meth c s₁ B hml hP s₁ hh0 (Stand.of_body B)
    exact ⟨t, o, a1, b1, b2, ⟨b3.1, b3.2⟩⟩
theorem xv_enterF {T : Type} {l : Launch} {y : MethodName} {ws ws' : List Cond} {rm : Room} {mc ms nL : Nat} {cc : ByteArray} {ret : Option FieldType} {fl : Bool} {av : List xv_v} {M : xv_M} {Qc : va_G → (Nat → ClassId) → Nat → Array Value → State → Outcome → State → Prop} {tg : T} {d : Option T} (hw : ws = Cond.code y cc nL ret :: ws') (hpl : plainFor y = true) (hlen : (av.map xv_c).sum ≤ nL) (hdef : d = some tg)
    (body : ∀ Y : xv_Y, xv_ok Y cc ws y.cls → Y.1.2.1 = l → Y.1.2.2.2.1 = rm → Y.2.2.2.2.2.1 = nL → Y.2.2.2.2.2.2 = fl → Y.2.1.2.2.2.1.sig.returnType = ret → Y.2.1.2.2.2.1.name = y.name → xv_D Y 0 0 (xv_Qe Y mc ms Qc) tg 0 (xv_L0 av nL) [] M d) : xv_Met l y ws rm mc ms fl av M Qc := by
  intro Dm cy b
  refine xv_ofWF (cc := cc) (maxL := nL) (ret := ret) hpl hw ?_
  intro p e s m args below meth c s₁ B hml hv
  obtain ⟨rfl, hG, hPw, hb⟩ := hv
  have hts := atoms_spec (ws := ws) B.pre
  have hown : s.vm.findClass y.cls = some m.cls := findClass_of_methodNamed B.named
  have hlen2 : (lg_sl (av.map (xv_val b))).length ≤ nL := by rw [xv_sl_len]; exact hlen
  rw [lg_entry_eq]
  exact body ⟨⟨p, l, e, rm, s⟩, ⟨m, (av.map (xv_val b)).toArray, below, meth, c⟩, Dm, cy, b, nL, fl⟩ ⟨B.exec, B.bytes, hml, hown, hts, hG, hb, B.notSynchronized⟩ rfl rfl rfl rfl B.returns (name_of_methodNamed B.named B.method).1 hdef s.heap [] _ hPw.1 hPw.2 va_S.rf (xv_entry b av hlen2)
