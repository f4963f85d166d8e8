/-! ## sets of spans as the bits of a long (the first families: of the kit, pasted) -/
/-! ===== Int64 as a set of bits: test, set, clear ===== -/
theorem ts_nf {x : Bool} (h : ¬ x = false) : x = true := by cases x <;> first | rfl | exact absurd rfl h
theorem ts_nt {x : Bool} (h : ¬ x = true) : x = false := by cases x <;> first | rfl | exact absurd rfl h
theorem ts_bit {w : Int64} {s : UInt64} {j : Nat} (hj : j < 64) (hs : s.toNat = j) : ((w.toUInt64 >>> s).toInt64 &&& 1) = 0 ↔ w.toBitVec.getLsbD j = false := by
  have e : (w.toUInt64 >>> s).toInt64.toBitVec = w.toBitVec >>> j := by
    apply BitVec.eq_of_toNat_eq
    show (w.toUInt64 >>> s).toNat = _
    rw [UInt64.toNat_shiftRight, hs, Nat.mod_eq_of_lt hj, BitVec.toNat_ushiftRight]
    rfl
  rw [← Int64.toBitVec_inj, Int64.toBitVec_and, e]
  show w.toBitVec >>> j &&& 1#64 = 0#64 ↔ _
  constructor
  · intro h
    have t := congrArg (fun x => x.getLsbD 0) h
    simpa using t
  · intro h
    apply BitVec.eq_of_getLsbD_eq
    intro i hi
    cases i with
    | zero => simp [h]
    | succ i => simp
theorem ts_or {w m : Int64} {j : Nat} (hj : j < 64) (hm : m.toBitVec = BitVec.twoPow 64 j) : (w ||| m) = w ↔ w.toBitVec.getLsbD j = true := by
  rw [← Int64.toBitVec_inj, Int64.toBitVec_or, hm]
  constructor
  · intro h
    have t := congrArg (fun x => x.getLsbD j) h
    simp only [BitVec.getLsbD_or, BitVec.getLsbD_twoPow] at t
    simpa [hj] using t.symm
  · intro h
    apply BitVec.eq_of_getLsbD_eq
    intro i hi
    rw [BitVec.getLsbD_or, BitVec.getLsbD_twoPow]
    by_cases e : j = i
    · subst e; rw [h, Bool.true_or]
    · simp [e]
theorem ts_and {w m : Int64} {j : Nat} (hj : j < 64) (hm : m.toBitVec = BitVec.twoPow 64 j) : (w &&& (m ^^^ (-1))) = w ↔ w.toBitVec.getLsbD j = false := by
  have ha : (-1 : Int64).toBitVec = BitVec.allOnes 64 := by decide
  rw [← Int64.toBitVec_inj, Int64.toBitVec_and, Int64.toBitVec_xor, hm, ha]
  constructor
  · intro h
    have t := congrArg (fun x => x.getLsbD j) h
    simp only [BitVec.getLsbD_and, BitVec.getLsbD_xor, BitVec.getLsbD_twoPow, BitVec.getLsbD_allOnes] at t
    simpa [hj] using t.symm
  · intro h
    apply BitVec.eq_of_getLsbD_eq
    intro i hi
    rw [BitVec.getLsbD_and, BitVec.getLsbD_xor, BitVec.getLsbD_twoPow, BitVec.getLsbD_allOnes]
    by_cases e : j = i
    · subst e; rw [h, Bool.false_and]
    · simp [e, hi]
theorem wb_tb (n : Nat) : (lN n).toBitVec = BitVec.ofNat 64 n := rfl
theorem wb_inj {a b : Int64} (h : a.toBitVec = b.toBitVec) : a = b := Int64.toBitVec_inj.mp h
theorem wb_tn {n : Nat} (h : n < 2 ^ 64) : (lN n).toBitVec.toNat = n := by rw [wb_tb, BitVec.toNat_ofNat, Nat.mod_eq_of_lt h]
theorem wb_of (x : Int64) : ∃ n, n < 2 ^ 64 ∧ x = lN n := ⟨x.toBitVec.toNat, x.toBitVec.isLt, wb_inj (by rw [wb_tb]; simp)⟩
theorem wb_of32 (x : Int32) : ∃ n, n < 2 ^ 32 ∧ x = nI n := ⟨x.toBitVec.toNat, x.toBitVec.isLt, Int32.toBitVec_inj.mp (by show _ = BitVec.ofNat 32 _; simp)⟩
theorem wb_c : ∀ k, k < 64 → ((nI k).toInt64 &&& 63) = lN k := by decide +kernel
theorem wb_cu : ∀ k, k < 64 → ((nI k).toInt64.toUInt64 &&& Int64.toUInt64 63) = UInt64.ofNat k := by decide +kernel
theorem wb_sm : ∀ k, k < 64 → (BitVec.ofNat 64 k).smod 64 = BitVec.ofNat 64 k := by decide +kernel
theorem wb_pw {a b : Nat} (h : a ≤ b) : 2 ^ b = 2 ^ a * 2 ^ (b - a) := by rw [← Nat.pow_add]; congr 1; omega
theorem wb_lt2 {a b : Nat} (h : a < b) : 2 ^ a < 2 ^ b := Nat.pow_lt_pow_right (by decide) h
theorem wb_mod (n : Nat) : lN n = lN (n % 2 ^ 64) := wb_inj (by rw [wb_tb, wb_tb]; apply BitVec.eq_of_toNat_eq; rw [BitVec.toNat_ofNat, BitVec.toNat_ofNat, Nat.mod_mod])
theorem wb_shr {n k : Nat} (hn : n < 2 ^ 64) (hk : k < 64) : ((lN n).toUInt64 >>> ((nI k).toInt64.toUInt64 &&& Int64.toUInt64 63)).toInt64 = lN (n / 2 ^ k) := by
  rw [wb_cu k hk]
  apply wb_inj
  apply BitVec.eq_of_toNat_eq
  show ((lN n).toUInt64 >>> UInt64.ofNat k).toNat = (BitVec.ofNat 64 _).toNat
  have h1 : (UInt64.ofNat k).toNat = k := by
    show (BitVec.ofNat 64 k).toNat = k
    rw [BitVec.toNat_ofNat, Nat.mod_eq_of_lt (by omega)]
  have h2 : (lN n).toUInt64.toNat = n := wb_tn hn
  rw [UInt64.toNat_shiftRight, h1, h2, Nat.mod_eq_of_lt hk, Nat.shiftRight_eq_div_pow, BitVec.toNat_ofNat, Nat.mod_eq_of_lt (Nat.lt_of_le_of_lt (Nat.div_le_self _ _) hn)]
theorem wb_shl (n : Nat) {k : Nat} (hk : k < 64) : lN n <<< ((nI k).toInt64 &&& 63) = lN (n * 2 ^ k) := by
  rw [wb_c k hk]
  apply wb_inj
  rw [Int64.toBitVec_shiftLeft, wb_tb, wb_tb, wb_tb, wb_sm k hk]
  apply BitVec.eq_of_toNat_eq
  rw [BitVec.shiftLeft_eq', BitVec.toNat_shiftLeft, BitVec.toNat_ofNat, BitVec.toNat_ofNat, BitVec.toNat_ofNat, Nat.mod_eq_of_lt (show k < 2 ^ 64 by omega), Nat.shiftLeft_eq, Nat.mul_mod, Nat.mod_mod, ← Nat.mul_mod]
theorem wb_and {a b : Nat} (ha : a < 2 ^ 64) (hb : b < 2 ^ 64) : lN a &&& lN b = lN (a &&& b) := by
  apply wb_inj
  rw [Int64.toBitVec_and, wb_tb, wb_tb, wb_tb]
  apply BitVec.eq_of_toNat_eq
  rw [BitVec.toNat_and, BitVec.toNat_ofNat, BitVec.toNat_ofNat, BitVec.toNat_ofNat, Nat.mod_eq_of_lt ha, Nat.mod_eq_of_lt hb, Nat.mod_eq_of_lt (Nat.and_lt_two_pow _ hb)]
theorem wb_or {a b : Nat} (ha : a < 2 ^ 64) (hb : b < 2 ^ 64) : lN a ||| lN b = lN (a ||| b) := by
  apply wb_inj
  rw [Int64.toBitVec_or, wb_tb, wb_tb, wb_tb]
  apply BitVec.eq_of_toNat_eq
  rw [BitVec.toNat_or, BitVec.toNat_ofNat, BitVec.toNat_ofNat, BitVec.toNat_ofNat, Nat.mod_eq_of_lt ha, Nat.mod_eq_of_lt hb, Nat.mod_eq_of_lt (Nat.or_lt_two_pow ha hb)]
theorem wb_mask {n k : Nat} (hn : n < 2 ^ 64) (hk : k < 64) : lN n &&& lN (2 ^ k - 1) = lN (n % 2 ^ k) := by
  rw [wb_and hn (by have := wb_lt2 hk; omega), Nat.and_two_pow_sub_one_eq_mod]
theorem wb_a1 {n : Nat} (hn : n < 2 ^ 64) : lN n &&& 1 = lN (n % 2) := wb_mask (k := 1) hn (by decide)
theorem wb_bit {n k : Nat} (hn : n < 2 ^ 64) (hk : k < 64) : ((lN n).toUInt64 >>> ((nI k).toInt64.toUInt64 &&& Int64.toUInt64 63)).toInt64 &&& 1 = lN (n / 2 ^ k % 2) := by
  rw [wb_shr hn hk, wb_a1 (Nat.lt_of_le_of_lt (Nat.div_le_self _ _) hn)]
/-- bit s -/
def xb (v : Int64) (s : Nat) : Bool := v.toBitVec.getLsbD s
theorem xb_ext {a b : Int64} (h : ∀ s, s < 64 → xb a s = xb b s) : a = b := wb_inj (BitVec.eq_of_getLsbD_eq (fun i hi => h i hi))
theorem xb_and (a b : Int64) (s : Nat) : xb (a &&& b) s = (xb a s && xb b s) := by
  unfold xb
  rw [Int64.toBitVec_and, BitVec.getLsbD_and]
theorem xb_or (a b : Int64) (s : Nat) : xb (a ||| b) s = (xb a s || xb b s) := by
  unfold xb
  rw [Int64.toBitVec_or, BitVec.getLsbD_or]
theorem xb_xor (a b : Int64) (s : Nat) : xb (a ^^^ b) s = (xb a s ^^ xb b s) := by
  unfold xb
  rw [Int64.toBitVec_xor, BitVec.getLsbD_xor]
theorem xb_m1 {s : Nat} (h : s < 64) : xb (-1) s = true := by
  unfold xb
  rw [show (-1 : Int64).toBitVec = BitVec.allOnes 64 by decide, BitVec.getLsbD_allOnes]
  simp [h]
theorem xb_not (a : Int64) {s : Nat} (h : s < 64) : xb (a ^^^ (-1)) s = !xb a s := by
  rw [xb_xor, xb_m1 h]
  cases xb a s <;> rfl
theorem xb_0 (s : Nat) : xb 0 s = false := by
  unfold xb
  rw [show (0 : Int64).toBitVec = 0#64 by decide]
  simp
theorem xb_big (a : Int64) {s : Nat} (h : 64 ≤ s) : xb a s = false := by
  unfold xb
  exact BitVec.getLsbD_of_ge _ _ h
theorem xb_ofI (k : Nat) : Int32.ofInt (k : Int) = nI k := by
  show Int32.ofInt (k : Int) = Int32.ofNat k
  rw [Int32.ofInt_eq_ofNat]
theorem xb_shl {k : Nat} (hk : k < 64) (s : Nat) : xb ((1 : Int64) <<< ((Int32.ofInt (k : Int)).toInt64 &&& 63)) s = decide (s = k) := by
  rw [xb_ofI, show (1 : Int64) = lN 1 from rfl, wb_shl 1 hk, Nat.one_mul]
  unfold xb
  rw [wb_tb, BitVec.getLsbD_ofNat, Nat.testBit_two_pow]
  by_cases h : s = k
  · subst h
    simp [hk]
  · simp [h, Ne.symm h]
theorem xb_tst {v : Int64} {k : Nat} (hk : k < 64) : (((v.toUInt64 >>> ((Int32.ofInt (k : Int)).toInt64.toUInt64 &&& Int64.toUInt64 63)).toInt64 &&& 1) = 0) ↔ xb v k = false := by
  rw [xb_ofI, wb_cu k hk]
  refine ts_bit hk ?_
  show (BitVec.ofNat 64 k).toNat = k
  rw [BitVec.toNat_ofNat, Nat.mod_eq_of_lt (by omega)]
theorem xb_lc0 {x y : Int64} : (lg_cmp x y).toInt = 0 ↔ x = y := by
  unfold lg_cmp
  by_cases h1 : x > y
  · rw [if_pos h1]
    refine ⟨fun h => absurd h (by decide), fun h => ?_⟩
    subst h
    simp only [gt_iff_lt, Int64.lt_iff_toInt_lt] at h1
    omega
  · rw [if_neg h1]
    by_cases h2 : x = y
    · rw [if_pos h2]
      exact ⟨fun _ => h2, fun _ => rfl⟩
    · rw [if_neg h2]
      exact ⟨fun h => absurd h (by decide), fun h => absurd h h2⟩
theorem xb_lcr (x y : Int64) : -2147483648 ≤ (lg_cmp x y).toInt ∧ (lg_cmp x y).toInt ≤ 2147483647 := by
  unfold lg_cmp
  by_cases h1 : x > y
  · rw [if_pos h1]; decide
  · rw [if_neg h1]
    by_cases h2 : x = y
    · rw [if_pos h2]; decide
    · rw [if_neg h2]; decide
theorem xm_isMember {v : Int64} {k : Nat} (hk : k < 64) {M : xv_M} : D_X11_isMember v (k : Int) M = some (if xb v k = true then 1 else 0, M) := by
  unfold D_X11_isMember
  obtain ⟨r1, r2⟩ := xb_lcr ((v.toUInt64 >>> ((Int32.ofInt (k : Int)).toInt64.toUInt64 &&& Int64.toUInt64 63)).toInt64 &&& 1) 0
  rw [xe_cmp r1 r2 (by decide) (by decide)]
  by_cases h : xb v k = true
  · rw [if_neg (fun q => ?_), if_pos h, xe_g1]
    have := (xb_tst hk).mp (xb_lc0.mp q)
    rw [h] at this
    cases this
  · have h0 : xb v k = false := by cases hx : xb v k; rfl; exact absurd hx h
    rw [if_pos (xb_lc0.mpr ((xb_tst hk).mpr h0)), if_neg h, xe_g0]
theorem xm_isPlace {x : Int} (hx : -2147483648 ≤ x ∧ x ≤ 2147483647) {M : xv_M} : D_X11_isPlace x M = some (if 0 ≤ x ∧ x ≤ 1000 then 1 else 0, M) := by
  unfold D_X11_isPlace
  rw [xe_cmp hx.1 hx.2 (by decide) (by decide), xe_cmp hx.1 hx.2 (by decide) (by decide)]
  by_cases h1 : x < 0
  · rw [if_pos h1, if_neg (by omega), xe_g0]
  · rw [if_neg h1]
    by_cases h2 : 1000 < x
    · rw [if_pos h2, if_neg (by omega), xe_g0]
    · rw [if_neg h2, if_pos (by omega), xe_g1]
theorem xm_isSpeed {x : Int} (hx : -2147483648 ≤ x ∧ x ≤ 2147483647) {M : xv_M} : D_X11_isSpeed x M = some (if -50 ≤ x ∧ x ≤ 50 then 1 else 0, M) := by
  unfold D_X11_isSpeed
  rw [xe_cmp hx.1 hx.2 (by decide) (by decide), xe_cmp hx.1 hx.2 (by decide) (by decide)]
  by_cases h1 : x < -50
  · rw [if_pos h1, if_neg (by omega), xe_g0]
  · rw [if_neg h1]
    by_cases h2 : 50 < x
    · rw [if_pos h2, if_neg (by omega), xe_g0]
    · rw [if_neg h2, if_pos (by omega), xe_g1]
theorem xm_fm1 : ∀ k : Nat, k < 24 → (xv_inb (((Int32.ofInt ((k : Int) - 11)) ^^^ (Int32.ofInt 12)).toInt) = true ∧ xv_inb ((Int32.ofInt ((k : Int) - 11) - Int32.ofInt ((k : Int) - 11) / Int32.ofInt 12 * Int32.ofInt 12).toInt) = true) ∧ (if 0 ≤ ((Int32.ofInt ((k : Int) - 11)) ^^^ (Int32.ofInt 12)).toInt then (Int32.ofInt ((k : Int) - 11) - Int32.ofInt ((k : Int) - 11) / Int32.ofInt 12 * Int32.ofInt 12).toInt else if (Int32.ofInt ((k : Int) - 11) - Int32.ofInt ((k : Int) - 11) / Int32.ofInt 12 * Int32.ofInt 12).toInt = 0 then (Int32.ofInt ((k : Int) - 11) - Int32.ofInt ((k : Int) - 11) / Int32.ofInt 12 * Int32.ofInt 12).toInt else (Int32.ofInt ((k : Int) - 11) - Int32.ofInt ((k : Int) - 11) / Int32.ofInt 12 * Int32.ofInt 12).toInt + 12) = ((k : Int) - 11) % 12 := by decide +kernel
theorem xm_floorMod {x : Int} (h : -11 ≤ x ∧ x ≤ 12) {M : xv_M} : D_J9_floorMod_7cf53 x 12 M = some (x % 12, M) := by
  obtain ⟨k, hk, rfl⟩ : ∃ k : Nat, k < 24 ∧ x = (k : Int) - 11 := ⟨(x + 11).toNat, by omega, by omega⟩
  obtain ⟨⟨f1, f2⟩, f3⟩ := xm_fm1 k hk
  have g1 := xv_inb_in f1
  have g2 := xv_inb_in f2
  unfold D_J9_floorMod_7cf53
  rw [xe_g ⟨rfl, by decide⟩, xe_cmp g1.1 g1.2 (by decide) (by decide), xe_cmp g2.1 g2.2 (by decide) (by decide), ← f3]
  split
  · rfl
  · split <;> rfl
