/-! ## the judgement -/
abbrev xv_Y : Type := (Program × Launch × Env × Room × State) × (MethodId × Array Value × List Frame × Method × Code) × va_G × (Nat → ClassId) × Nat × Nat × Bool
abbrev xv_tys (cy : Nat → ClassId) : List (ClassId × FieldType) := [(cy 13, .char), (cy 14, .int), (cy 15, .long), (cy 16, .boolean), (cy 17, .object "MiddleSpans$State"), (cy 18, .array .int)]
/-- the links between nest mates: which stand in the tables -/
def xv_nest : List (String × Nat × MethodName × String) := [("MiddleSpans", 11, ⟨"MiddleSpans$Line", "<init>", "()V"⟩, "MiddleSpans"), ("MiddleSpans$Line", 11, ⟨"MiddleSpans$State", "<init>", "()V"⟩, "MiddleSpans"), ("MiddleSpans$State", 9, ⟨"MiddleSpans$Spans", "<init>", "()V"⟩, "MiddleSpans"), ("MiddleSpans$State", 18, ⟨"MiddleSpans$Walkers", "<init>", "()V"⟩, "MiddleSpans"), ("MiddleSpans$State", 25, ⟨"MiddleSpans$Log", "<init>", "()V"⟩, "MiddleSpans"), ("MiddleSpans$Line", 20, ⟨"MiddleSpans$Cover", "<init>", "()V"⟩, "MiddleSpans"), ("MiddleSpans$Line", 27, ⟨"MiddleSpans$Tree", "<init>", "()V"⟩, "MiddleSpans"), ("MiddleSpans$Tree", 26, ⟨"MiddleSpans$Way", "<init>", "()V"⟩, "MiddleSpans"), ("MiddleSpans$History", 17, ⟨"MiddleSpans$State", "<init>", "()V"⟩, "MiddleSpans"), ("MiddleSpans", 25, ⟨"MiddleSpans$State", "<init>", "()V"⟩, "MiddleSpans"), ("MiddleSpans", 32, ⟨"MiddleSpans$Text", "<init>", "()V"⟩, "MiddleSpans"), ("MiddleSpans", 39, ⟨"MiddleSpans$Reader", "<init>", "()V"⟩, "MiddleSpans"), ("MiddleSpans$Spans", 42, ⟨"MiddleSpans", "isMember", "(JI)Z"⟩, "MiddleSpans"), ("MiddleSpans$Cover", 42, ⟨"MiddleSpans", "isPlace", "(I)Z"⟩, "MiddleSpans"), ("MiddleSpans$Line", 112, ⟨"MiddleSpans", "isMember", "(JI)Z"⟩, "MiddleSpans"), ("MiddleSpans$Walkers", 43, ⟨"MiddleSpans", "turnsNext", "(II)Z"⟩, "MiddleSpans"), ("MiddleSpans$Walkers", 47, ⟨"MiddleSpans", "nextPlace", "(II)I"⟩, "MiddleSpans"), ("MiddleSpans$Walkers", 51, ⟨"MiddleSpans", "nextSpeed", "(II)I"⟩, "MiddleSpans"), ("MiddleSpans$Walkers", 60, ⟨"MiddleSpans", "isMember", "(JI)Z"⟩, "MiddleSpans"), ("MiddleSpans$Line", 153, ⟨"MiddleSpans", "nextPlace", "(II)I"⟩, "MiddleSpans"), ("MiddleSpans$Line", 156, ⟨"MiddleSpans", "nextSpeed", "(II)I"⟩, "MiddleSpans")]
def xv_G (Dm : va_G) (cy : Nat → ClassId) (U : State) : Prop := va_K Dm vwCl (xv_tys cy) U ∧ (∀ q ∈ xv_nest, va_Nw (.methodLinkNest q.1 q.2.1 q.2.2.1 q.2.2.2) U) ∧ va_AO "MiddleSpans$State" U ∧ (Cond.arrayOver (.array .int)).before #[] U = true
def xv_V (Y : xv_Y) (ce sl : Nat) (Q : State → Prop) (pc : Nat) (L : List (Option xv_v)) (st : List xv_v) (M : xv_M) : Prop :=
  ∀ (H : Heap) (locs : List Loc) (ls : Array Slot), va_P Y.2.2.1 vwCl (xv_W Y.2.2.2.2.1 Y.2.2.2.1 M) H → (Y.2.2.2.2.2.2 = true → H.size = Y.2.2.2.2.1 + 1 + M.1.length) → va_S (fun q => Y.2.2.2.2.1 < q) Y.1.2.2.2.2.heap H locs → xv_H Y.2.2.2.2.1 ls Y.2.2.2.2.2.1 L →
    W Y.1.1 Y.1.2.1 Y.1.2.2.1 Y.1.2.2.2.1 Y.1.2.2.2.2 Y.2.1.1 Y.2.1.2.1 Y.2.1.2.2.1 Y.2.1.2.2.2.1 Y.2.1.2.2.2.2 H locs ce sl Q (F0 Y.2.1.1 pc ls (st.map (xv_val Y.2.2.2.2.1)))
def xv_ok (Y : xv_Y) (cc : ByteArray) (Ts : List Cond) (own : String) : Prop :=
  Y.1.1.tables.exec = Jvm.exec ∧ Y.2.1.2.2.2.2.code = cc ∧ Y.2.1.2.2.2.2.maxLocals = Y.2.2.2.2.2.1 ∧ Y.1.2.2.2.2.vm.findClass own = some Y.2.1.1.cls ∧ (∀ w ∈ Ts, w.before Y.2.1.2.1 Y.1.2.2.2.2 = true) ∧ xv_G Y.2.2.1 Y.2.2.2.1 Y.1.2.2.2.2 ∧ Y.2.2.2.2.1 < Y.1.2.2.2.2.heap.size ∧ Y.2.1.2.2.2.1.locks = false
def xv_D {T : Type} (Y : xv_Y) (ce sl : Nat) (Q : State → Prop) (tg : T) (pc : Nat) (L : List (Option xv_v)) (st : List xv_v) (M : xv_M) (d : Option T) : Prop := d = some tg → xv_V Y ce sl Q pc L st M
/-! what the answers are made of -/
def xv_let {α β : Type} (a : α) (f : α → β) : β := f a
def xv_g {T : Type} (c : Prop) [Decidable c] (d : Option T) : Option T := if c then d else none
def xv_if {T : Type} (c : Prop) [Decidable c] (d1 d2 : Option T) : Option T := if c then d1 else d2
def xv_call {α T : Type} (x : Option (α × xv_M)) (k : α → xv_M → Option T) : Option T := match x with
  | none => none
  | some q => k q.1 q.2
def xv_fix {σ T : Type} (F : (σ → Option T) → σ → Option T) : Nat → σ → Option T
  | 0 => fun _ => none
  | n + 1 => F (xv_fix F n)
def xv_inb (x : Int) : Bool := decide (-2147483648 ≤ x) && decide (x ≤ 2147483647)
theorem xv_inb_in {x : Int} (h : xv_inb x = true) : xv_in x := by
  unfold xv_inb at h
  simp only [Bool.and_eq_true, decide_eq_true_eq] at h
  exact h
theorem xv_g_some {T : Type} {c : Prop} [Decidable c] {d : Option T} {t : T} (h : xv_g c d = some t) : c ∧ d = some t := by
  unfold xv_g at h
  by_cases hc : c
  · rw [if_pos hc] at h; exact ⟨hc, h⟩
  · rw [if_neg hc] at h; cases h
/-- a comparison of two ints, in range -/
def xv_cmp {T : Type} (x y : Int) (c : Prop) [Decidable c] (d1 d2 : Option T) : Option T := xv_g (xv_inb x = true ∧ xv_inb y = true) (if c then d1 else d2)

section XV
variable {T : Type} {Y : xv_Y} {cc : ByteArray} {Ts : List Cond} {own : String} {ce sl : Nat} {Q : State → Prop} {tg : T} {pc pc' : Nat} {L L' : List (Option xv_v)} {st : List xv_v} {M : xv_M} {d d1 d2 : Option T}

theorem xv_iconst {n : Int} (hY : xv_ok Y cc Ts own) (hd : decode cc pc = .ok (.iconst n, 1)) (hp : pc + 1 = pc') (k : xv_D Y ce sl Q tg pc' L (xi n :: st) M d) : xv_D Y ce sl Q tg pc L (st) M d := by
  subst hp
  obtain ⟨⟨p, l, e, R, s⟩, ⟨m, args, below, meth, c⟩, Dm, cy, b, nL, fl⟩ := Y
  intro hh H locs ls hP hz hS hl
  exact lv_iconst hY.1 hY.2.1 hd rfl (k hh H locs ls hP hz hS hl)
theorem xv_bipush {n : Int} (hv : (Int8.ofInt n).toInt32 = Int32.ofInt n) (hY : xv_ok Y cc Ts own) (hd : decode cc pc = .ok (.bipush n, 2)) (hp : pc + 2 = pc') (k : xv_D Y ce sl Q tg pc' L (xi n :: st) M d) : xv_D Y ce sl Q tg pc L (st) M d := by
  subst hp
  obtain ⟨⟨p, l, e, R, s⟩, ⟨m, args, below, meth, c⟩, Dm, cy, b, nL, fl⟩ := Y
  intro hh H locs ls hP hz hS hl
  exact lv_bipush hY.1 hY.2.1 hd hv (k hh H locs ls hP hz hS hl)
theorem xv_sipush {n : Int} (hv : (Int16.ofInt n).toInt32 = Int32.ofInt n) (hY : xv_ok Y cc Ts own) (hd : decode cc pc = .ok (.sipush n, 3)) (hp : pc + 3 = pc') (k : xv_D Y ce sl Q tg pc' L (xi n :: st) M d) : xv_D Y ce sl Q tg pc L (st) M d := by
  subst hp
  obtain ⟨⟨p, l, e, R, s⟩, ⟨m, args, below, meth, c⟩, Dm, cy, b, nL, fl⟩ := Y
  intro hh H locs ls hP hz hS hl
  exact lv_sipush hY.1 hY.2.1 hd hv (k hh H locs ls hP hz hS hl)
theorem xv_lconst {n : Fin 2} {v : Int64} (hv : Int64.ofNat (n : Nat) = v) (hY : xv_ok Y cc Ts own) (hd : decode cc pc = .ok (.lconst n, 1)) (hp : pc + 1 = pc') (k : xv_D Y ce sl Q tg pc' L (xl v :: st) M d) : xv_D Y ce sl Q tg pc L (st) M d := by
  subst hp
  obtain ⟨⟨p, l, e, R, s⟩, ⟨m, args, below, meth, c⟩, Dm, cy, b, nL, fl⟩ := Y
  intro hh H locs ls hP hz hS hl
  exact lv_lconst hY.1 hY.2.1 hd hv (k hh H locs ls hP hz hS hl)
theorem xv_null (hY : xv_ok Y cc Ts own) (hd : decode cc pc = .ok (.aconst_null, 1)) (hp : pc + 1 = pc') (k : xv_D Y ce sl Q tg pc' L (xr 0 :: st) M d) : xv_D Y ce sl Q tg pc L (st) M d := by
  subst hp
  obtain ⟨⟨p, l, e, R, s⟩, ⟨m, args, below, meth, c⟩, Dm, cy, b, nL, fl⟩ := Y
  intro hh H locs ls hP hz hS hl
  exact lv_null hY.1 hY.2.1 hd (k hh H locs ls hP hz hS hl)
theorem xv_iload_n {kf : Fin 4} {i : Nat} {x : Int} (hi : (kf : Nat) = i) (hL : L[i]? = some (some (xi x))) (hY : xv_ok Y cc Ts own) (hd : decode cc pc = .ok (.iload_n kf, 1)) (hp : pc + 1 = pc') (k : xv_D Y ce sl Q tg pc' L (xi x :: st) M d) : xv_D Y ce sl Q tg pc L (st) M d := by
  subst hp
  obtain ⟨⟨p, l, e, R, s⟩, ⟨m, args, below, meth, c⟩, Dm, cy, b, nL, fl⟩ := Y
  intro hh H locs ls hP hz hS hl
  exact lv_iload_n hY.1 hY.2.1 hd hi (hl.2.2 _ _ hL) (k hh H locs ls hP hz hS hl)
theorem xv_iload {i : Nat} {x : Int} (hL : L[i]? = some (some (xi x))) (hY : xv_ok Y cc Ts own) (hd : decode cc pc = .ok (.iload i, 2)) (hp : pc + 2 = pc') (k : xv_D Y ce sl Q tg pc' L (xi x :: st) M d) : xv_D Y ce sl Q tg pc L (st) M d := by
  subst hp
  obtain ⟨⟨p, l, e, R, s⟩, ⟨m, args, below, meth, c⟩, Dm, cy, b, nL, fl⟩ := Y
  intro hh H locs ls hP hz hS hl
  exact lv_iload hY.1 hY.2.1 hd (hl.2.2 _ _ hL) (k hh H locs ls hP hz hS hl)
theorem xv_lload_n {kf : Fin 4} {i : Nat} {x : Int64} (hi : (kf : Nat) = i) (hL : L[i]? = some (some (xl x))) (hY : xv_ok Y cc Ts own) (hd : decode cc pc = .ok (.lload_n kf, 1)) (hp : pc + 1 = pc') (k : xv_D Y ce sl Q tg pc' L (xl x :: st) M d) : xv_D Y ce sl Q tg pc L (st) M d := by
  subst hp
  obtain ⟨⟨p, l, e, R, s⟩, ⟨m, args, below, meth, c⟩, Dm, cy, b, nL, fl⟩ := Y
  intro hh H locs ls hP hz hS hl
  exact lv_lload_n hY.1 hY.2.1 hd hi (hl.2.2 _ _ hL) (k hh H locs ls hP hz hS hl)
theorem xv_lload {i : Nat} {x : Int64} (hL : L[i]? = some (some (xl x))) (hY : xv_ok Y cc Ts own) (hd : decode cc pc = .ok (.lload i, 2)) (hp : pc + 2 = pc') (k : xv_D Y ce sl Q tg pc' L (xl x :: st) M d) : xv_D Y ce sl Q tg pc L (st) M d := by
  subst hp
  obtain ⟨⟨p, l, e, R, s⟩, ⟨m, args, below, meth, c⟩, Dm, cy, b, nL, fl⟩ := Y
  intro hh H locs ls hP hz hS hl
  exact lv_lload hY.1 hY.2.1 hd (hl.2.2 _ _ hL) (k hh H locs ls hP hz hS hl)
theorem xv_aload_n {kf : Fin 4} {i : Nat} {x : Nat} (hi : (kf : Nat) = i) (hL : L[i]? = some (some (xr x))) (hY : xv_ok Y cc Ts own) (hd : decode cc pc = .ok (.aload_n kf, 1)) (hp : pc + 1 = pc') (k : xv_D Y ce sl Q tg pc' L (xr x :: st) M d) : xv_D Y ce sl Q tg pc L (st) M d := by
  subst hp
  obtain ⟨⟨p, l, e, R, s⟩, ⟨m, args, below, meth, c⟩, Dm, cy, b, nL, fl⟩ := Y
  intro hh H locs ls hP hz hS hl
  have h1 := hl.2.2 _ _ hL
  have h2 := k hh H locs ls hP hz hS hl
  simp only [xv_val, List.map_cons] at h1 h2 ⊢
  by_cases h0 : x = 0
  · subst h0
    rw [xv_r_0] at h1 h2
    exact lv_aload_nN hY.1 hY.2.1 hd hi h1 h2
  · rw [xv_r_s h0] at h1 h2
    exact lv_aload_n hY.1 hY.2.1 hd hi h1 h2
theorem xv_aload {i : Nat} {x : Nat} (hL : L[i]? = some (some (xr x))) (hY : xv_ok Y cc Ts own) (hd : decode cc pc = .ok (.aload i, 2)) (hp : pc + 2 = pc') (k : xv_D Y ce sl Q tg pc' L (xr x :: st) M d) : xv_D Y ce sl Q tg pc L (st) M d := by
  subst hp
  obtain ⟨⟨p, l, e, R, s⟩, ⟨m, args, below, meth, c⟩, Dm, cy, b, nL, fl⟩ := Y
  intro hh H locs ls hP hz hS hl
  have h1 := hl.2.2 _ _ hL
  have h2 := k hh H locs ls hP hz hS hl
  simp only [xv_val, List.map_cons] at h1 h2 ⊢
  by_cases h0 : x = 0
  · subst h0
    rw [xv_r_0] at h1 h2
    exact lv_aloadN hY.1 hY.2.1 hd h1 h2
  · rw [xv_r_s h0] at h1 h2
    exact lv_aload hY.1 hY.2.1 hd h1 h2
theorem xv_istore_n {kf : Fin 4} {i : Nat} {x : Int} (hY : xv_ok Y cc Ts own) (hd : decode cc pc = .ok (.istore_n kf, 1)) (hp : pc + 1 = pc') (hi : (kf : Nat) = i) (hn : i < Y.2.2.2.2.2.1) (hc : xv_ok1 L i = true) (hL : (L.set i (some (xi x))) = L') (k : xv_D Y ce sl Q tg pc' L' st M d) : xv_D Y ce sl Q tg pc L (xi x :: st) M d := by
  subst hp
  subst hL
  obtain ⟨⟨p, l, e, R, s⟩, ⟨m, args, below, meth, c⟩, Dm, cy, b, nL, fl⟩ := Y
  intro hh H locs ls hP hz hS hl
  exact lv_istore_n hY.1 hY.2.1 hd hi hl.has hn rfl (fun ls' h' => k hh H locs ls' hP hz hS (xv_H.st1 (x := xi x) hc h'))
theorem xv_istore {i : Nat} {x : Int} (hY : xv_ok Y cc Ts own) (hd : decode cc pc = .ok (.istore i, 2)) (hp : pc + 2 = pc') (hn : i < Y.2.2.2.2.2.1) (hc : xv_ok1 L i = true) (hL : (L.set i (some (xi x))) = L') (k : xv_D Y ce sl Q tg pc' L' st M d) : xv_D Y ce sl Q tg pc L (xi x :: st) M d := by
  subst hp
  subst hL
  obtain ⟨⟨p, l, e, R, s⟩, ⟨m, args, below, meth, c⟩, Dm, cy, b, nL, fl⟩ := Y
  intro hh H locs ls hP hz hS hl
  exact lv_istore hY.1 hY.2.1 hd hl.has hn rfl (fun ls' h' => k hh H locs ls' hP hz hS (xv_H.st1 (x := xi x) hc h'))
theorem xv_lstore_n {kf : Fin 4} {i : Nat} {x : Int64} (hY : xv_ok Y cc Ts own) (hd : decode cc pc = .ok (.lstore_n kf, 1)) (hp : pc + 1 = pc') (hi : (kf : Nat) = i) (hn : i + 1 < Y.2.2.2.2.2.1) (hc : xv_ok1 L i = true) (hL : ((L.set i (some (xl x))).set (i + 1) none) = L') (k : xv_D Y ce sl Q tg pc' L' st M d) : xv_D Y ce sl Q tg pc L (xl x :: st) M d := by
  subst hp
  subst hL
  obtain ⟨⟨p, l, e, R, s⟩, ⟨m, args, below, meth, c⟩, Dm, cy, b, nL, fl⟩ := Y
  intro hh H locs ls hP hz hS hl
  exact lv_lstore_n hY.1 hY.2.1 hd hi hl.has hn rfl (fun ls' h' => k hh H locs ls' hP hz hS (xv_H.st2 (x := xl x) hc h'))
theorem xv_lstore {i : Nat} {x : Int64} (hY : xv_ok Y cc Ts own) (hd : decode cc pc = .ok (.lstore i, 2)) (hp : pc + 2 = pc') (hn : i + 1 < Y.2.2.2.2.2.1) (hc : xv_ok1 L i = true) (hL : ((L.set i (some (xl x))).set (i + 1) none) = L') (k : xv_D Y ce sl Q tg pc' L' st M d) : xv_D Y ce sl Q tg pc L (xl x :: st) M d := by
  subst hp
  subst hL
  obtain ⟨⟨p, l, e, R, s⟩, ⟨m, args, below, meth, c⟩, Dm, cy, b, nL, fl⟩ := Y
  intro hh H locs ls hP hz hS hl
  exact lv_lstore hY.1 hY.2.1 hd hl.has hn rfl (fun ls' h' => k hh H locs ls' hP hz hS (xv_H.st2 (x := xl x) hc h'))
theorem xv_astore_n {kf : Fin 4} {i : Nat} {x : Nat} (hY : xv_ok Y cc Ts own) (hd : decode cc pc = .ok (.astore_n kf, 1)) (hp : pc + 1 = pc') (hi : (kf : Nat) = i) (hn : i < Y.2.2.2.2.2.1) (hc : xv_ok1 L i = true) (hL : (L.set i (some (xr x))) = L') (k : xv_D Y ce sl Q tg pc' L' st M d) : xv_D Y ce sl Q tg pc L (xr x :: st) M d := by
  subst hp
  subst hL
  obtain ⟨⟨p, l, e, R, s⟩, ⟨m, args, below, meth, c⟩, Dm, cy, b, nL, fl⟩ := Y
  intro hh H locs ls hP hz hS hl
  simp only [List.map_cons, xv_val] at k ⊢
  by_cases h0 : x = 0
  · subst h0
    rw [xv_r_0]
    exact lv_astore_nN hY.1 hY.2.1 hd hi hl.has hn rfl (fun ls' h' => k hh H locs ls' hP hz hS (xv_H.st1 (x := xr 0) hc h'))
  · rw [xv_r_s h0]
    exact lv_astore_n hY.1 hY.2.1 hd hi hl.has hn rfl (fun ls' h' => k hh H locs ls' hP hz hS (xv_H.st1 (x := xr x) hc (by show lv_has ls' nL ((i, xv_r b x) :: _); rw [xv_r_s h0]; exact h')))
theorem xv_astore {i : Nat} {x : Nat} (hY : xv_ok Y cc Ts own) (hd : decode cc pc = .ok (.astore i, 2)) (hp : pc + 2 = pc') (hn : i < Y.2.2.2.2.2.1) (hc : xv_ok1 L i = true) (hL : (L.set i (some (xr x))) = L') (k : xv_D Y ce sl Q tg pc' L' st M d) : xv_D Y ce sl Q tg pc L (xr x :: st) M d := by
  subst hp
  subst hL
  obtain ⟨⟨p, l, e, R, s⟩, ⟨m, args, below, meth, c⟩, Dm, cy, b, nL, fl⟩ := Y
  intro hh H locs ls hP hz hS hl
  simp only [List.map_cons, xv_val] at k ⊢
  by_cases h0 : x = 0
  · subst h0
    rw [xv_r_0]
    exact lv_astoreN hY.1 hY.2.1 hd hl.has hn rfl (fun ls' h' => k hh H locs ls' hP hz hS (xv_H.st1 (x := xr 0) hc h'))
  · rw [xv_r_s h0]
    exact lv_astore hY.1 hY.2.1 hd hl.has hn rfl (fun ls' h' => k hh H locs ls' hP hz hS (xv_H.st1 (x := xr x) hc (by show lv_has ls' nL ((i, xv_r b x) :: _); rw [xv_r_s h0]; exact h')))
theorem xv_iinc {i : Nat} {n x : Int} (hY : xv_ok Y cc Ts own) (hd : decode cc pc = .ok (.iinc i n, 3)) (hp : pc + 3 = pc') (hn : i < Y.2.2.2.2.2.1) (hx : L[i]? = some (some (xi x))) (hc : xv_ok1 L i = true) (hL : L.set i (some (xi (x + n))) = L') (k : xv_D Y ce sl Q tg pc' L' st M d) : xv_D Y ce sl Q tg pc L st M d := by
  subst hp
  subst hL
  obtain ⟨⟨p, l, e, R, s⟩, ⟨m, args, below, meth, c⟩, Dm, cy, b, nL, fl⟩ := Y
  intro hh H locs ls hP hz hS hl
  obtain ⟨j, hj⟩ := List.getElem?_of_mem (xv_L_mem (b := b) (q := (i, xv_i x)).mpr ⟨_, hx, rfl⟩)
  exact lv_iinc (v := Int32.ofInt (x + n)) hY.1 hY.2.1 hd hl.has hj (xv_add x n) hn rfl (fun ls' h' => k hh H locs ls' hP hz hS (xv_H.st1 (x := xi (x + n)) hc h'))
theorem xv_iadd {x y : Int} (hY : xv_ok Y cc Ts own) (hd : decode cc pc = .ok (.iadd, 1)) (hp : pc + 1 = pc') (k : xv_D Y ce sl Q tg pc' L (xi (x + y) :: st) M d) : xv_D Y ce sl Q tg pc L (xi y :: xi x :: st) M d := by
  subst hp
  obtain ⟨⟨p, l, e, R, s⟩, ⟨m, args, below, meth, c⟩, Dm, cy, b, nL, fl⟩ := Y
  intro hh H locs ls hP hz hS hl
  have h := k hh H locs ls hP hz hS hl
  simp only [List.map_cons, xv_val, xv_i] at h ⊢
  rw [← xv_add] at h
  exact lv_iadd hY.1 hY.2.1 hd h
theorem xv_isub {x y : Int} (hY : xv_ok Y cc Ts own) (hd : decode cc pc = .ok (.isub, 1)) (hp : pc + 1 = pc') (k : xv_D Y ce sl Q tg pc' L (xi (x - y) :: st) M d) : xv_D Y ce sl Q tg pc L (xi y :: xi x :: st) M d := by
  subst hp
  obtain ⟨⟨p, l, e, R, s⟩, ⟨m, args, below, meth, c⟩, Dm, cy, b, nL, fl⟩ := Y
  intro hh H locs ls hP hz hS hl
  have h := k hh H locs ls hP hz hS hl
  simp only [List.map_cons, xv_val, xv_i] at h ⊢
  rw [← xv_sub] at h
  exact lv_isub hY.1 hY.2.1 hd h
theorem xv_imul {x y : Int} (hY : xv_ok Y cc Ts own) (hd : decode cc pc = .ok (.imul, 1)) (hp : pc + 1 = pc') (k : xv_D Y ce sl Q tg pc' L (xi (x * y) :: st) M d) : xv_D Y ce sl Q tg pc L (xi y :: xi x :: st) M d := by
  subst hp
  obtain ⟨⟨p, l, e, R, s⟩, ⟨m, args, below, meth, c⟩, Dm, cy, b, nL, fl⟩ := Y
  intro hh H locs ls hP hz hS hl
  have h := k hh H locs ls hP hz hS hl
  simp only [List.map_cons, xv_val, xv_i] at h ⊢
  rw [← xv_mul] at h
  exact lv_imul hY.1 hY.2.1 hd h
theorem xv_ineg {x : Int} (hY : xv_ok Y cc Ts own) (hd : decode cc pc = .ok (.ineg, 1)) (hp : pc + 1 = pc') (k : xv_D Y ce sl Q tg pc' L (xi (-x) :: st) M d) : xv_D Y ce sl Q tg pc L (xi x :: st) M d := by
  subst hp
  obtain ⟨⟨p, l, e, R, s⟩, ⟨m, args, below, meth, c⟩, Dm, cy, b, nL, fl⟩ := Y
  intro hh H locs ls hP hz hS hl
  have h := k hh H locs ls hP hz hS hl
  simp only [List.map_cons, xv_val, xv_i] at h ⊢
  rw [← xv_neg] at h
  exact lv_ineg hY.1 hY.2.1 hd h
theorem xv_iand {x y : Int} (hY : xv_ok Y cc Ts own) (hd : decode cc pc = .ok (.iand, 1)) (hp : pc + 1 = pc') (k : xv_D Y ce sl Q tg pc' L (xi (((Int32.ofInt x) &&& (Int32.ofInt y)).toInt) :: st) M d) : xv_D Y ce sl Q tg pc L (xi y :: xi x :: st) M d := by
  subst hp
  obtain ⟨⟨p, l, e, R, s⟩, ⟨m, args, below, meth, c⟩, Dm, cy, b, nL, fl⟩ := Y
  intro hh H locs ls hP hz hS hl
  have h := k hh H locs ls hP hz hS hl
  simp only [List.map_cons, xv_val, xv_i, Int32.ofInt_toInt] at h ⊢
  exact lv_iand hY.1 hY.2.1 hd h
theorem xv_ior {x y : Int} (hY : xv_ok Y cc Ts own) (hd : decode cc pc = .ok (.ior, 1)) (hp : pc + 1 = pc') (k : xv_D Y ce sl Q tg pc' L (xi (((Int32.ofInt x) ||| (Int32.ofInt y)).toInt) :: st) M d) : xv_D Y ce sl Q tg pc L (xi y :: xi x :: st) M d := by
  subst hp
  obtain ⟨⟨p, l, e, R, s⟩, ⟨m, args, below, meth, c⟩, Dm, cy, b, nL, fl⟩ := Y
  intro hh H locs ls hP hz hS hl
  have h := k hh H locs ls hP hz hS hl
  simp only [List.map_cons, xv_val, xv_i, Int32.ofInt_toInt] at h ⊢
  exact lv_ior hY.1 hY.2.1 hd h
theorem xv_idiv {x y : Int} (hY : xv_ok Y cc Ts own) (hd : decode cc pc = .ok (.idiv, 1)) (hp : pc + 1 = pc') (k : xv_D Y ce sl Q tg pc' L (xi ((Int32.ofInt x / Int32.ofInt y).toInt) :: st) M d) : xv_D Y ce sl Q tg pc L (xi y :: xi x :: st) M (xv_g (xv_inb y = true ∧ y ≠ 0) d) := by
  subst hp
  obtain ⟨⟨p, l, e, R, s⟩, ⟨m, args, below, meth, c⟩, Dm, cy, b, nL, fl⟩ := Y
  intro hh H locs ls hP hz hS hl
  obtain ⟨⟨h1, h2⟩, hh⟩ := xv_g_some hh
  have h := k hh H locs ls hP hz hS hl
  simp only [List.map_cons, xv_val, xv_i, Int32.ofInt_toInt] at h ⊢
  exact lv_idiv hY.1 hY.2.1 hd (fun q => h2 ((xv_eq (xv_inb_in h1) xv_in0).mp q)) h
theorem xv_irem {x y : Int} (hY : xv_ok Y cc Ts own) (hd : decode cc pc = .ok (.irem, 1)) (hp : pc + 1 = pc') (k : xv_D Y ce sl Q tg pc' L (xi ((Int32.ofInt x - Int32.ofInt x / Int32.ofInt y * Int32.ofInt y).toInt) :: st) M d) : xv_D Y ce sl Q tg pc L (xi y :: xi x :: st) M (xv_g (xv_inb y = true ∧ y ≠ 0) d) := by
  subst hp
  obtain ⟨⟨p, l, e, R, s⟩, ⟨m, args, below, meth, c⟩, Dm, cy, b, nL, fl⟩ := Y
  intro hh H locs ls hP hz hS hl
  obtain ⟨⟨h1, h2⟩, hh⟩ := xv_g_some hh
  have h := k hh H locs ls hP hz hS hl
  simp only [List.map_cons, xv_val, xv_i, Int32.ofInt_toInt] at h ⊢
  exact lv_irem hY.1 hY.2.1 hd (fun q => h2 ((xv_eq (xv_inb_in h1) xv_in0).mp q)) h
theorem xv_i2c {x : Int} (hY : xv_ok Y cc Ts own) (hd : decode cc pc = .ok (.i2c, 1)) (hp : pc + 1 = pc') (k : xv_D Y ce sl Q tg pc' L (xi (((Int32.ofInt x).toUInt32 % 65536).toInt32.toInt) :: st) M d) : xv_D Y ce sl Q tg pc L (xi x :: st) M d := by
  subst hp
  obtain ⟨⟨p, l, e, R, s⟩, ⟨m, args, below, meth, c⟩, Dm, cy, b, nL, fl⟩ := Y
  intro hh H locs ls hP hz hS hl
  have h := k hh H locs ls hP hz hS hl
  simp only [List.map_cons, xv_val, xv_i, Int32.ofInt_toInt] at h ⊢
  exact lv_i2c hY.1 hY.2.1 hd rfl h
theorem xv_ladd {x y : Int64} (hY : xv_ok Y cc Ts own) (hd : decode cc pc = .ok (.ladd, 1)) (hp : pc + 1 = pc') (k : xv_D Y ce sl Q tg pc' L (xl (x + y) :: st) M d) : xv_D Y ce sl Q tg pc L (xl y :: xl x :: st) M d := by
  subst hp
  obtain ⟨⟨p, l, e, R, s⟩, ⟨m, args, below, meth, c⟩, Dm, cy, b, nL, fl⟩ := Y
  intro hh H locs ls hP hz hS hl
  exact lv_ladd hY.1 hY.2.1 hd (k hh H locs ls hP hz hS hl)
theorem xv_lsub {x y : Int64} (hY : xv_ok Y cc Ts own) (hd : decode cc pc = .ok (.lsub, 1)) (hp : pc + 1 = pc') (k : xv_D Y ce sl Q tg pc' L (xl (x - y) :: st) M d) : xv_D Y ce sl Q tg pc L (xl y :: xl x :: st) M d := by
  subst hp
  obtain ⟨⟨p, l, e, R, s⟩, ⟨m, args, below, meth, c⟩, Dm, cy, b, nL, fl⟩ := Y
  intro hh H locs ls hP hz hS hl
  exact lv_lsub hY.1 hY.2.1 hd (k hh H locs ls hP hz hS hl)
theorem xv_land {x y : Int64} (hY : xv_ok Y cc Ts own) (hd : decode cc pc = .ok (.land, 1)) (hp : pc + 1 = pc') (k : xv_D Y ce sl Q tg pc' L (xl (x &&& y) :: st) M d) : xv_D Y ce sl Q tg pc L (xl y :: xl x :: st) M d := by
  subst hp
  obtain ⟨⟨p, l, e, R, s⟩, ⟨m, args, below, meth, c⟩, Dm, cy, b, nL, fl⟩ := Y
  intro hh H locs ls hP hz hS hl
  exact lv_land hY.1 hY.2.1 hd (k hh H locs ls hP hz hS hl)
theorem xv_lor {x y : Int64} (hY : xv_ok Y cc Ts own) (hd : decode cc pc = .ok (.lor, 1)) (hp : pc + 1 = pc') (k : xv_D Y ce sl Q tg pc' L (xl (x ||| y) :: st) M d) : xv_D Y ce sl Q tg pc L (xl y :: xl x :: st) M d := by
  subst hp
  obtain ⟨⟨p, l, e, R, s⟩, ⟨m, args, below, meth, c⟩, Dm, cy, b, nL, fl⟩ := Y
  intro hh H locs ls hP hz hS hl
  exact lv_lor hY.1 hY.2.1 hd (k hh H locs ls hP hz hS hl)
theorem xv_lxor {x y : Int64} (hY : xv_ok Y cc Ts own) (hd : decode cc pc = .ok (.lxor, 1)) (hp : pc + 1 = pc') (k : xv_D Y ce sl Q tg pc' L (xl (x ^^^ y) :: st) M d) : xv_D Y ce sl Q tg pc L (xl y :: xl x :: st) M d := by
  subst hp
  obtain ⟨⟨p, l, e, R, s⟩, ⟨m, args, below, meth, c⟩, Dm, cy, b, nL, fl⟩ := Y
  intro hh H locs ls hP hz hS hl
  exact lv_lxor hY.1 hY.2.1 hd (k hh H locs ls hP hz hS hl)
theorem xv_lshl {y : Int} {x : Int64} (hY : xv_ok Y cc Ts own) (hd : decode cc pc = .ok (.lshl, 1)) (hp : pc + 1 = pc') (k : xv_D Y ce sl Q tg pc' L (xl (x <<< ((Int32.ofInt y).toInt64 &&& 63)) :: st) M d) : xv_D Y ce sl Q tg pc L (xi y :: xl x :: st) M d := by
  subst hp
  obtain ⟨⟨p, l, e, R, s⟩, ⟨m, args, below, meth, c⟩, Dm, cy, b, nL, fl⟩ := Y
  intro hh H locs ls hP hz hS hl
  exact lv_lshl hY.1 hY.2.1 hd rfl (k hh H locs ls hP hz hS hl)
theorem xv_lushr {y : Int} {x : Int64} (hY : xv_ok Y cc Ts own) (hd : decode cc pc = .ok (.lushr, 1)) (hp : pc + 1 = pc') (k : xv_D Y ce sl Q tg pc' L (xl ((x.toUInt64 >>> ((Int32.ofInt y).toInt64.toUInt64 &&& Int64.toUInt64 63)).toInt64) :: st) M d) : xv_D Y ce sl Q tg pc L (xi y :: xl x :: st) M d := by
  subst hp
  obtain ⟨⟨p, l, e, R, s⟩, ⟨m, args, below, meth, c⟩, Dm, cy, b, nL, fl⟩ := Y
  intro hh H locs ls hP hz hS hl
  exact lv_lushr hY.1 hY.2.1 hd rfl (k hh H locs ls hP hz hS hl)
theorem xv_lcmp {x y : Int64} (hY : xv_ok Y cc Ts own) (hd : decode cc pc = .ok (.lcmp, 1)) (hp : pc + 1 = pc') (k : xv_D Y ce sl Q tg pc' L (xi ((lg_cmp x y).toInt) :: st) M d) : xv_D Y ce sl Q tg pc L (xl y :: xl x :: st) M d := by
  subst hp
  obtain ⟨⟨p, l, e, R, s⟩, ⟨m, args, below, meth, c⟩, Dm, cy, b, nL, fl⟩ := Y
  intro hh H locs ls hP hz hS hl
  have h := k hh H locs ls hP hz hS hl
  simp only [List.map_cons, xv_val, xv_i, Int32.ofInt_toInt] at h ⊢
  exact W.lcmp hY.1 hY.2.1 hd h
theorem xv_l2i {x : Int64} (hY : xv_ok Y cc Ts own) (hd : decode cc pc = .ok (.l2i, 1)) (hp : pc + 1 = pc') (k : xv_D Y ce sl Q tg pc' L (xi (x.toInt32.toInt) :: st) M d) : xv_D Y ce sl Q tg pc L (xl x :: st) M d := by
  subst hp
  obtain ⟨⟨p, l, e, R, s⟩, ⟨m, args, below, meth, c⟩, Dm, cy, b, nL, fl⟩ := Y
  intro hh H locs ls hP hz hS hl
  have h := k hh H locs ls hP hz hS hl
  simp only [List.map_cons, xv_val, xv_i, Int32.ofInt_toInt] at h ⊢
  exact lv_l2i hY.1 hY.2.1 hd rfl h
theorem xv_dup {x : Int} (hY : xv_ok Y cc Ts own) (hd : decode cc pc = .ok (.dup, 1)) (hp : pc + 1 = pc') (k : xv_D Y ce sl Q tg pc' L (xi x :: xi x :: st) M d) : xv_D Y ce sl Q tg pc L (xi x :: st) M d := by
  subst hp
  obtain ⟨⟨p, l, e, R, s⟩, ⟨m, args, below, meth, c⟩, Dm, cy, b, nL, fl⟩ := Y
  intro hh H locs ls hP hz hS hl
  exact lv_dup hY.1 hY.2.1 hd (xv_cat b (xi x)) (k hh H locs ls hP hz hS hl)
theorem xv_dupr {x : Nat} (hY : xv_ok Y cc Ts own) (hd : decode cc pc = .ok (.dup, 1)) (hp : pc + 1 = pc') (k : xv_D Y ce sl Q tg pc' L (xr x :: xr x :: st) M d) : xv_D Y ce sl Q tg pc L (xr x :: st) M d := by
  subst hp
  obtain ⟨⟨p, l, e, R, s⟩, ⟨m, args, below, meth, c⟩, Dm, cy, b, nL, fl⟩ := Y
  intro hh H locs ls hP hz hS hl
  exact lv_dup hY.1 hY.2.1 hd (xv_cat b (xr x)) (k hh H locs ls hP hz hS hl)
theorem xv_dup2 {y : Int} {x : Nat} (hY : xv_ok Y cc Ts own) (hd : decode cc pc = .ok (.dup2, 1)) (hp : pc + 1 = pc') (k : xv_D Y ce sl Q tg pc' L (xi y :: xr x :: xi y :: xr x :: st) M d) : xv_D Y ce sl Q tg pc L (xi y :: xr x :: st) M d := by
  subst hp
  obtain ⟨⟨p, l, e, R, s⟩, ⟨m, args, below, meth, c⟩, Dm, cy, b, nL, fl⟩ := Y
  intro hh H locs ls hP hz hS hl
  exact lv_dup2_11 hY.1 hY.2.1 hd (xv_cat b (xi y)) (xv_cat b (xr x)) (k hh H locs ls hP hz hS hl)
theorem xv_pop {x : Int} (hY : xv_ok Y cc Ts own) (hd : decode cc pc = .ok (.pop, 1)) (hp : pc + 1 = pc') (k : xv_D Y ce sl Q tg pc' L (st) M d) : xv_D Y ce sl Q tg pc L (xi x :: st) M d := by
  subst hp
  obtain ⟨⟨p, l, e, R, s⟩, ⟨m, args, below, meth, c⟩, Dm, cy, b, nL, fl⟩ := Y
  intro hh H locs ls hP hz hS hl
  exact lv_pop hY.1 hY.2.1 hd (xv_cat b (xi x)) (k hh H locs ls hP hz hS hl)
theorem xv_goto {off : Int} (hY : xv_ok Y cc Ts own) (hd : decode cc pc = .ok (.goto off, 3)) (ht : (pc : Int) + off = (pc' : Int)) (k : xv_D Y ce sl Q tg pc' L st M d) : xv_D Y ce sl Q tg pc L st M d := by
  obtain ⟨⟨p, l, e, R, s⟩, ⟨m, args, below, meth, c⟩, Dm, cy, b, nL, fl⟩ := Y
  intro hh H locs ls hP hz hS hl
  exact lv_goto hY.1 hY.2.1 hd ht (k hh H locs ls hP hz hS hl)
theorem xv_icmp_eq {x y : Int} {off : Int} {t : Nat} (hY : xv_ok Y cc Ts own) (hd : decode cc pc = .ok (.if_icmp .eq off, 3)) (ht : (pc : Int) + off = (t : Int)) (hp : pc + 3 = pc') (k1 : xv_D Y ce sl Q tg t L st M d1) (k2 : xv_D Y ce sl Q tg pc' L st M d2) : xv_D Y ce sl Q tg pc L (xi y :: xi x :: st) M (xv_cmp x y (x = y) d1 d2) := by
  subst hp
  obtain ⟨⟨p, l, e, R, s⟩, ⟨m, args, below, meth, c⟩, Dm, cy, b, nL, fl⟩ := Y
  intro hh H locs ls hP hz hS hl
  obtain ⟨⟨h1, h2⟩, hh⟩ := xv_g_some hh
  have hx := xv_inb_in h1
  have hy := xv_inb_in h2
  have hiff := xv_eq hx hy
  refine lv_icmp_eq hY.1 hY.2.1 hd ht (fun q => ?_) (fun q => ?_)
  · rw [if_pos (by first | exact hiff.mp q | exact fun z => q (hiff.mpr z))] at hh
    exact k1 hh H locs ls hP hz hS hl
  · rw [if_neg (by first | exact fun z => q (hiff.mpr z) | exact fun z => z (hiff.mp q))] at hh
    exact k2 hh H locs ls hP hz hS hl
theorem xv_if_eq {x : Int} {off : Int} {t : Nat} (hY : xv_ok Y cc Ts own) (hd : decode cc pc = .ok (.ifCond .eq off, 3)) (ht : (pc : Int) + off = (t : Int)) (hp : pc + 3 = pc') (k1 : xv_D Y ce sl Q tg t L st M d1) (k2 : xv_D Y ce sl Q tg pc' L st M d2) : xv_D Y ce sl Q tg pc L (xi x :: st) M (xv_cmp x 0 (x = 0) d1 d2) := by
  subst hp
  obtain ⟨⟨p, l, e, R, s⟩, ⟨m, args, below, meth, c⟩, Dm, cy, b, nL, fl⟩ := Y
  intro hh H locs ls hP hz hS hl
  obtain ⟨⟨h1, h2⟩, hh⟩ := xv_g_some hh
  have hx := xv_inb_in h1
  have hy := xv_inb_in h2
  have hiff := xv_eq hx hy
  refine lv_if_eq hY.1 hY.2.1 hd ht (fun q => ?_) (fun q => ?_)
  · rw [if_pos (by first | exact hiff.mp q | exact fun z => q (hiff.mpr z))] at hh
    exact k1 hh H locs ls hP hz hS hl
  · rw [if_neg (by first | exact fun z => q (hiff.mpr z) | exact fun z => z (hiff.mp q))] at hh
    exact k2 hh H locs ls hP hz hS hl
theorem xv_icmp_ne {x y : Int} {off : Int} {t : Nat} (hY : xv_ok Y cc Ts own) (hd : decode cc pc = .ok (.if_icmp .ne off, 3)) (ht : (pc : Int) + off = (t : Int)) (hp : pc + 3 = pc') (k1 : xv_D Y ce sl Q tg t L st M d1) (k2 : xv_D Y ce sl Q tg pc' L st M d2) : xv_D Y ce sl Q tg pc L (xi y :: xi x :: st) M (xv_cmp x y (x ≠ y) d1 d2) := by
  subst hp
  obtain ⟨⟨p, l, e, R, s⟩, ⟨m, args, below, meth, c⟩, Dm, cy, b, nL, fl⟩ := Y
  intro hh H locs ls hP hz hS hl
  obtain ⟨⟨h1, h2⟩, hh⟩ := xv_g_some hh
  have hx := xv_inb_in h1
  have hy := xv_inb_in h2
  have hiff := xv_eq hx hy
  refine lv_icmp_ne hY.1 hY.2.1 hd ht (fun q => ?_) (fun q => ?_)
  · rw [if_pos (by first | exact hiff.mp q | exact fun z => q (hiff.mpr z))] at hh
    exact k1 hh H locs ls hP hz hS hl
  · rw [if_neg (by first | exact fun z => q (hiff.mpr z) | exact fun z => z (hiff.mp q))] at hh
    exact k2 hh H locs ls hP hz hS hl
theorem xv_if_ne {x : Int} {off : Int} {t : Nat} (hY : xv_ok Y cc Ts own) (hd : decode cc pc = .ok (.ifCond .ne off, 3)) (ht : (pc : Int) + off = (t : Int)) (hp : pc + 3 = pc') (k1 : xv_D Y ce sl Q tg t L st M d1) (k2 : xv_D Y ce sl Q tg pc' L st M d2) : xv_D Y ce sl Q tg pc L (xi x :: st) M (xv_cmp x 0 (x ≠ 0) d1 d2) := by
  subst hp
  obtain ⟨⟨p, l, e, R, s⟩, ⟨m, args, below, meth, c⟩, Dm, cy, b, nL, fl⟩ := Y
  intro hh H locs ls hP hz hS hl
  obtain ⟨⟨h1, h2⟩, hh⟩ := xv_g_some hh
  have hx := xv_inb_in h1
  have hy := xv_inb_in h2
  have hiff := xv_eq hx hy
  refine lv_if_ne hY.1 hY.2.1 hd ht (fun q => ?_) (fun q => ?_)
  · rw [if_pos (by first | exact hiff.mp q | exact fun z => q (hiff.mpr z))] at hh
    exact k1 hh H locs ls hP hz hS hl
  · rw [if_neg (by first | exact fun z => q (hiff.mpr z) | exact fun z => z (hiff.mp q))] at hh
    exact k2 hh H locs ls hP hz hS hl
theorem xv_icmp_lt {x y : Int} {off : Int} {t : Nat} (hY : xv_ok Y cc Ts own) (hd : decode cc pc = .ok (.if_icmp .lt off, 3)) (ht : (pc : Int) + off = (t : Int)) (hp : pc + 3 = pc') (k1 : xv_D Y ce sl Q tg t L st M d1) (k2 : xv_D Y ce sl Q tg pc' L st M d2) : xv_D Y ce sl Q tg pc L (xi y :: xi x :: st) M (xv_cmp x y (x < y) d1 d2) := by
  subst hp
  obtain ⟨⟨p, l, e, R, s⟩, ⟨m, args, below, meth, c⟩, Dm, cy, b, nL, fl⟩ := Y
  intro hh H locs ls hP hz hS hl
  obtain ⟨⟨h1, h2⟩, hh⟩ := xv_g_some hh
  have hx := xv_inb_in h1
  have hy := xv_inb_in h2
  have hiff := xv_lt hx hy
  refine lv_icmp_lt hY.1 hY.2.1 hd ht (fun q => ?_) (fun q => ?_)
  · rw [if_pos (by first | exact hiff.mp q | exact fun z => q (hiff.mpr z))] at hh
    exact k1 hh H locs ls hP hz hS hl
  · rw [if_neg (by first | exact fun z => q (hiff.mpr z) | exact fun z => z (hiff.mp q))] at hh
    exact k2 hh H locs ls hP hz hS hl
theorem xv_if_lt {x : Int} {off : Int} {t : Nat} (hY : xv_ok Y cc Ts own) (hd : decode cc pc = .ok (.ifCond .lt off, 3)) (ht : (pc : Int) + off = (t : Int)) (hp : pc + 3 = pc') (k1 : xv_D Y ce sl Q tg t L st M d1) (k2 : xv_D Y ce sl Q tg pc' L st M d2) : xv_D Y ce sl Q tg pc L (xi x :: st) M (xv_cmp x 0 (x < 0) d1 d2) := by
  subst hp
  obtain ⟨⟨p, l, e, R, s⟩, ⟨m, args, below, meth, c⟩, Dm, cy, b, nL, fl⟩ := Y
  intro hh H locs ls hP hz hS hl
  obtain ⟨⟨h1, h2⟩, hh⟩ := xv_g_some hh
  have hx := xv_inb_in h1
  have hy := xv_inb_in h2
  have hiff := xv_lt hx hy
  refine lv_if_lt hY.1 hY.2.1 hd ht (fun q => ?_) (fun q => ?_)
  · rw [if_pos (by first | exact hiff.mp q | exact fun z => q (hiff.mpr z))] at hh
    exact k1 hh H locs ls hP hz hS hl
  · rw [if_neg (by first | exact fun z => q (hiff.mpr z) | exact fun z => z (hiff.mp q))] at hh
    exact k2 hh H locs ls hP hz hS hl
theorem xv_icmp_ge {x y : Int} {off : Int} {t : Nat} (hY : xv_ok Y cc Ts own) (hd : decode cc pc = .ok (.if_icmp .ge off, 3)) (ht : (pc : Int) + off = (t : Int)) (hp : pc + 3 = pc') (k1 : xv_D Y ce sl Q tg t L st M d1) (k2 : xv_D Y ce sl Q tg pc' L st M d2) : xv_D Y ce sl Q tg pc L (xi y :: xi x :: st) M (xv_cmp x y (y ≤ x) d1 d2) := by
  subst hp
  obtain ⟨⟨p, l, e, R, s⟩, ⟨m, args, below, meth, c⟩, Dm, cy, b, nL, fl⟩ := Y
  intro hh H locs ls hP hz hS hl
  obtain ⟨⟨h1, h2⟩, hh⟩ := xv_g_some hh
  have hx := xv_inb_in h1
  have hy := xv_inb_in h2
  have hiff := xv_le hy hx
  refine lv_icmp_ge hY.1 hY.2.1 hd ht (fun q => ?_) (fun q => ?_)
  · rw [if_pos (by first | exact hiff.mp q | exact fun z => q (hiff.mpr z))] at hh
    exact k1 hh H locs ls hP hz hS hl
  · rw [if_neg (by first | exact fun z => q (hiff.mpr z) | exact fun z => z (hiff.mp q))] at hh
    exact k2 hh H locs ls hP hz hS hl
theorem xv_if_ge {x : Int} {off : Int} {t : Nat} (hY : xv_ok Y cc Ts own) (hd : decode cc pc = .ok (.ifCond .ge off, 3)) (ht : (pc : Int) + off = (t : Int)) (hp : pc + 3 = pc') (k1 : xv_D Y ce sl Q tg t L st M d1) (k2 : xv_D Y ce sl Q tg pc' L st M d2) : xv_D Y ce sl Q tg pc L (xi x :: st) M (xv_cmp x 0 (0 ≤ x) d1 d2) := by
  subst hp
  obtain ⟨⟨p, l, e, R, s⟩, ⟨m, args, below, meth, c⟩, Dm, cy, b, nL, fl⟩ := Y
  intro hh H locs ls hP hz hS hl
  obtain ⟨⟨h1, h2⟩, hh⟩ := xv_g_some hh
  have hx := xv_inb_in h1
  have hy := xv_inb_in h2
  have hiff := xv_le hy hx
  refine lv_if_ge hY.1 hY.2.1 hd ht (fun q => ?_) (fun q => ?_)
  · rw [if_pos (by first | exact hiff.mp q | exact fun z => q (hiff.mpr z))] at hh
    exact k1 hh H locs ls hP hz hS hl
  · rw [if_neg (by first | exact fun z => q (hiff.mpr z) | exact fun z => z (hiff.mp q))] at hh
    exact k2 hh H locs ls hP hz hS hl
theorem xv_icmp_gt {x y : Int} {off : Int} {t : Nat} (hY : xv_ok Y cc Ts own) (hd : decode cc pc = .ok (.if_icmp .gt off, 3)) (ht : (pc : Int) + off = (t : Int)) (hp : pc + 3 = pc') (k1 : xv_D Y ce sl Q tg t L st M d1) (k2 : xv_D Y ce sl Q tg pc' L st M d2) : xv_D Y ce sl Q tg pc L (xi y :: xi x :: st) M (xv_cmp x y (y < x) d1 d2) := by
  subst hp
  obtain ⟨⟨p, l, e, R, s⟩, ⟨m, args, below, meth, c⟩, Dm, cy, b, nL, fl⟩ := Y
  intro hh H locs ls hP hz hS hl
  obtain ⟨⟨h1, h2⟩, hh⟩ := xv_g_some hh
  have hx := xv_inb_in h1
  have hy := xv_inb_in h2
  have hiff := xv_lt hy hx
  refine lv_icmp_gt hY.1 hY.2.1 hd ht (fun q => ?_) (fun q => ?_)
  · rw [if_pos (by first | exact hiff.mp q | exact fun z => q (hiff.mpr z))] at hh
    exact k1 hh H locs ls hP hz hS hl
  · rw [if_neg (by first | exact fun z => q (hiff.mpr z) | exact fun z => z (hiff.mp q))] at hh
    exact k2 hh H locs ls hP hz hS hl
theorem xv_if_gt {x : Int} {off : Int} {t : Nat} (hY : xv_ok Y cc Ts own) (hd : decode cc pc = .ok (.ifCond .gt off, 3)) (ht : (pc : Int) + off = (t : Int)) (hp : pc + 3 = pc') (k1 : xv_D Y ce sl Q tg t L st M d1) (k2 : xv_D Y ce sl Q tg pc' L st M d2) : xv_D Y ce sl Q tg pc L (xi x :: st) M (xv_cmp x 0 (0 < x) d1 d2) := by
  subst hp
  obtain ⟨⟨p, l, e, R, s⟩, ⟨m, args, below, meth, c⟩, Dm, cy, b, nL, fl⟩ := Y
  intro hh H locs ls hP hz hS hl
  obtain ⟨⟨h1, h2⟩, hh⟩ := xv_g_some hh
  have hx := xv_inb_in h1
  have hy := xv_inb_in h2
  have hiff := xv_lt hy hx
  refine lv_if_gt hY.1 hY.2.1 hd ht (fun q => ?_) (fun q => ?_)
  · rw [if_pos (by first | exact hiff.mp q | exact fun z => q (hiff.mpr z))] at hh
    exact k1 hh H locs ls hP hz hS hl
  · rw [if_neg (by first | exact fun z => q (hiff.mpr z) | exact fun z => z (hiff.mp q))] at hh
    exact k2 hh H locs ls hP hz hS hl
theorem xv_icmp_le {x y : Int} {off : Int} {t : Nat} (hY : xv_ok Y cc Ts own) (hd : decode cc pc = .ok (.if_icmp .le off, 3)) (ht : (pc : Int) + off = (t : Int)) (hp : pc + 3 = pc') (k1 : xv_D Y ce sl Q tg t L st M d1) (k2 : xv_D Y ce sl Q tg pc' L st M d2) : xv_D Y ce sl Q tg pc L (xi y :: xi x :: st) M (xv_cmp x y (x ≤ y) d1 d2) := by
  subst hp
  obtain ⟨⟨p, l, e, R, s⟩, ⟨m, args, below, meth, c⟩, Dm, cy, b, nL, fl⟩ := Y
  intro hh H locs ls hP hz hS hl
  obtain ⟨⟨h1, h2⟩, hh⟩ := xv_g_some hh
  have hx := xv_inb_in h1
  have hy := xv_inb_in h2
  have hiff := xv_le hx hy
  refine lv_icmp_le hY.1 hY.2.1 hd ht (fun q => ?_) (fun q => ?_)
  · rw [if_pos (by first | exact hiff.mp q | exact fun z => q (hiff.mpr z))] at hh
    exact k1 hh H locs ls hP hz hS hl
  · rw [if_neg (by first | exact fun z => q (hiff.mpr z) | exact fun z => z (hiff.mp q))] at hh
    exact k2 hh H locs ls hP hz hS hl
theorem xv_if_le {x : Int} {off : Int} {t : Nat} (hY : xv_ok Y cc Ts own) (hd : decode cc pc = .ok (.ifCond .le off, 3)) (ht : (pc : Int) + off = (t : Int)) (hp : pc + 3 = pc') (k1 : xv_D Y ce sl Q tg t L st M d1) (k2 : xv_D Y ce sl Q tg pc' L st M d2) : xv_D Y ce sl Q tg pc L (xi x :: st) M (xv_cmp x 0 (x ≤ 0) d1 d2) := by
  subst hp
  obtain ⟨⟨p, l, e, R, s⟩, ⟨m, args, below, meth, c⟩, Dm, cy, b, nL, fl⟩ := Y
  intro hh H locs ls hP hz hS hl
  obtain ⟨⟨h1, h2⟩, hh⟩ := xv_g_some hh
  have hx := xv_inb_in h1
  have hy := xv_inb_in h2
  have hiff := xv_le hx hy
  refine lv_if_le hY.1 hY.2.1 hd ht (fun q => ?_) (fun q => ?_)
  · rw [if_pos (by first | exact hiff.mp q | exact fun z => q (hiff.mpr z))] at hh
    exact k1 hh H locs ls hP hz hS hl
  · rw [if_neg (by first | exact fun z => q (hiff.mpr z) | exact fun z => z (hiff.mp q))] at hh
    exact k2 hh H locs ls hP hz hS hl
theorem xv_ifnull {x : Nat} {off : Int} {t : Nat} (hY : xv_ok Y cc Ts own) (hd : decode cc pc = .ok (.ifnull off, 3)) (ht : (pc : Int) + off = (t : Int)) (hp : pc + 3 = pc') (k1 : xv_D Y ce sl Q tg t L st M d1) (k2 : xv_D Y ce sl Q tg pc' L st M d2) : xv_D Y ce sl Q tg pc L (xr x :: st) M (xv_if (x = 0) d1 d2) := by
  subst hp
  obtain ⟨⟨p, l, e, R, s⟩, ⟨m, args, below, meth, c⟩, Dm, cy, b, nL, fl⟩ := Y
  intro hh H locs ls hP hz hS hl
  simp only [List.map_cons, xv_val]
  unfold xv_if at hh
  by_cases h0 : x = 0
  · rw [if_pos h0] at hh
    subst h0
    rw [xv_r_0]
    exact lv_ifnullN hY.1 hY.2.1 hd ht (k1 hh H locs ls hP hz hS hl)
  · rw [if_neg h0] at hh
    rw [xv_r_s h0]
    exact lv_ifnull hY.1 hY.2.1 hd (k2 hh H locs ls hP hz hS hl)
theorem xv_ifnonnull {x : Nat} {off : Int} {t : Nat} (hY : xv_ok Y cc Ts own) (hd : decode cc pc = .ok (.ifnonnull off, 3)) (ht : (pc : Int) + off = (t : Int)) (hp : pc + 3 = pc') (k1 : xv_D Y ce sl Q tg t L st M d1) (k2 : xv_D Y ce sl Q tg pc' L st M d2) : xv_D Y ce sl Q tg pc L (xr x :: st) M (xv_if (x = 0) d2 d1) := by
  subst hp
  obtain ⟨⟨p, l, e, R, s⟩, ⟨m, args, below, meth, c⟩, Dm, cy, b, nL, fl⟩ := Y
  intro hh H locs ls hP hz hS hl
  simp only [List.map_cons, xv_val]
  unfold xv_if at hh
  by_cases h0 : x = 0
  · rw [if_pos h0] at hh
    subst h0
    rw [xv_r_0]
    exact lv_ifnonnullN hY.1 hY.2.1 hd (k2 hh H locs ls hP hz hS hl)
  · rw [if_neg h0] at hh
    rw [xv_r_s h0]
    exact lv_ifnonnull hY.1 hY.2.1 hd ht (k1 hh H locs ls hP hz hS hl)
theorem xv_swIn {z : Int} {dflt lo hi off : Int} {offs : Array Int} {len t : Nat} (hY : xv_ok Y cc Ts own) (hd : decode cc pc = .ok (.tableswitch dflt lo hi offs, len)) (hz : xv_in z) (h1 : ¬ z < lo) (h2 : ¬ hi < z) (ho : offs[(z - lo).toNat]? = some off) (ht : (pc : Int) + off = (t : Int)) (k : xv_D Y ce sl Q tg t L st M d) : xv_D Y ce sl Q tg pc L (xi z :: st) M d := by
  obtain ⟨⟨p, l, e, R, s⟩, ⟨m, args, below, meth, c⟩, Dm, cy, b, nL, fl⟩ := Y
  intro hh H locs ls hP hzz hS hl
  exact lv_tableIn hY.1 hY.2.1 hd (by rw [xv_toInt hz]; exact h1) (by rw [xv_toInt hz]; exact h2) (by rw [xv_toInt hz]; exact ho) ht (k hh H locs ls hP hzz hS hl)
theorem xv_swOut {z : Int} {dflt lo hi : Int} {offs : Array Int} {len t : Nat} (hY : xv_ok Y cc Ts own) (hd : decode cc pc = .ok (.tableswitch dflt lo hi offs, len)) (hz : xv_in z) (h1 : z < lo ∨ hi < z) (ht : (pc : Int) + dflt = (t : Int)) (k : xv_D Y ce sl Q tg t L st M d) : xv_D Y ce sl Q tg pc L (xi z :: st) M d := by
  obtain ⟨⟨p, l, e, R, s⟩, ⟨m, args, below, meth, c⟩, Dm, cy, b, nL, fl⟩ := Y
  intro hh H locs ls hP hzz hS hl
  exact lv_tableOut hY.1 hY.2.1 hd (by rw [xv_toInt hz]; exact h1) ht (k hh H locs ls hP hzz hS hl)
theorem xv_byg {P : Prop} [Decidable P] (k : P → xv_D Y ce sl Q tg pc L st M d) : xv_D Y ce sl Q tg pc L st M (xv_g P d) := fun hh => (k (xv_g_some hh).1) (xv_g_some hh).2
theorem xv_byif {P : Prop} [Decidable P] (k1 : P → xv_D Y ce sl Q tg pc L st M d1) (k2 : ¬ P → xv_D Y ce sl Q tg pc L st M d2) : xv_D Y ce sl Q tg pc L st M (xv_if P d1 d2) := by
  intro hh
  unfold xv_if at hh
  by_cases h : P
  · rw [if_pos h] at hh; exact k1 h hh
  · rw [if_neg h] at hh; exact k2 h hh
theorem xv_mk (bs : List Bool) (hL : xv_mask bs L = L') (k : xv_D Y ce sl Q tg pc L' st M d) : xv_D Y ce sl Q tg pc L st M d := by
  subst hL
  intro hh H locs ls hP hz hS hl
  exact k hh H locs ls hP hz hS (hl.mask bs)
/-- a loop: at its head, for every state of it -/
theorem xv_loop {σ : Type} {F : (σ → Option T) → σ → Option T} (fL : σ → List (Option xv_v)) (fM : σ → xv_M) (h : ∀ (f : σ → Option T), (∀ x, xv_D Y ce sl Q tg pc (fL x) st (fM x) (f x)) → ∀ x, xv_D Y ce sl Q tg pc (fL x) st (fM x) (F f x)) : ∀ (n : Nat) (x : σ), xv_D Y ce sl Q tg pc (fL x) st (fM x) (xv_fix F n x)
  | 0, x => fun hh => by cases hh
  | n + 1, x => h _ (xv_loop fL fM h n) x

end XV
