/-! ## how a long's bits are counted -/
theorem an_div (a b : Nat) : (a &&& b) / 256 = (a / 256) &&& (b / 256) := by
  rw [show (256 : Nat) = 2 ^ 8 from rfl, ← Nat.shiftRight_eq_div_pow, ← Nat.shiftRight_eq_div_pow, ← Nat.shiftRight_eq_div_pow]
  apply Nat.eq_of_testBit_eq
  intro i
  simp [Nat.testBit_shiftRight, Nat.testBit_and]
theorem an_mod (a b : Nat) : (a &&& b) % 256 = (a % 256) &&& (b % 256) := by
  rw [show (256 : Nat) = 2 ^ 8 from rfl]
  apply Nat.eq_of_testBit_eq
  intro i
  simp only [Nat.testBit_mod_two_pow, Nat.testBit_and]
  by_cases h : i < 8 <;> simp [h]
theorem an_byte {x p : Nat} (y q : Nat) (hx : x < 256) (hp : p < 256) : (x + 256 * y) &&& (p + 256 * q) = (x &&& p) + 256 * (y &&& q) := by
  have h1 := an_div (x + 256 * y) (p + 256 * q)
  have h2 := an_mod (x + 256 * y) (p + 256 * q)
  rw [show (x + 256 * y) / 256 = y by omega, show (p + 256 * q) / 256 = q by omega] at h1
  rw [show (x + 256 * y) % 256 = x by omega, show (p + 256 * q) % 256 = p by omega] at h2
  omega
/-- a mask of k bytes -/
def bmk (c : Nat) : Nat → Nat
  | 0 => 0
  | k + 1 => c + 256 * bmk c k
def bs1 (k n : Nat) : Nat := n - ((n / 2) &&& bmk 85 k)
def bs2 (k n : Nat) : Nat := (n &&& bmk 51 k) + ((n / 4) &&& bmk 51 k)
def bs3 (k n : Nat) : Nat := (n + n / 16) &&& bmk 15 k
def bt (n s : Nat) : Bool := decide (n / 2 ^ s % 2 = 1)
/-- the bytes' bits, each byte's in its place -/
def bpp : Nat → Nat → Nat
  | 0, _ => 0
  | k + 1, n => xct (bt n) 8 + 256 * bpp k (n / 256)
theorem bc_1 : ∀ b, b < 256 → ∀ c, c < 2 → ((b / 2 + 128 * c) &&& 85) = ((b / 2) &&& 85) ∧ ((b / 2) &&& 85) ≤ b := by decide +kernel
theorem bc_2 : ∀ b, b < 256 → ∀ c, c < 4 → ((b / 4 + 64 * c) &&& 51) = ((b / 4) &&& 51) := by decide +kernel
theorem bc_3 : ∀ b, b < 256 → ((b - ((b / 2) &&& 85)) < 256 ∧ ((b - ((b / 2) &&& 85)) &&& 51) + (((b - ((b / 2) &&& 85)) / 4) &&& 51) ≤ 68 ∧ (((b - ((b / 2) &&& 85)) &&& 51) + (((b - ((b / 2) &&& 85)) / 4) &&& 51)) % 16 ≤ 4) := by decide +kernel
theorem bc_4 : ∀ b, b < 256 → ∀ c, c < 5 → (((((b - ((b / 2) &&& 85)) &&& 51) + (((b - ((b / 2) &&& 85)) / 4) &&& 51)) + (((b - ((b / 2) &&& 85)) &&& 51) + (((b - ((b / 2) &&& 85)) / 4) &&& 51)) / 16 + 16 * c) &&& 15) = xct (bt b) 8 := by decide +kernel
def bg2 (b : Nat) : Nat := ((b - ((b / 2) &&& 85)) &&& 51) + (((b - ((b / 2) &&& 85)) / 4) &&& 51)
theorem bs1_s {b : Nat} (hb : b < 256) (k m : Nat) : bs1 (k + 1) (b + 256 * m) = (b - ((b / 2) &&& 85)) + 256 * bs1 k m := by
  have e : (b + 256 * m) / 2 = (b / 2 + 128 * (m % 2)) + 256 * (m / 2) := by omega
  obtain ⟨h1, h2⟩ := bc_1 b hb (m % 2) (by omega)
  have hle : (m / 2) &&& bmk 85 k ≤ m / 2 := Nat.and_le_left
  unfold bs1
  rw [e]
  show b + 256 * m - ((b / 2 + 128 * (m % 2) + 256 * (m / 2)) &&& (85 + 256 * bmk 85 k)) = _
  rw [an_byte _ _ (by omega) (by omega), h1]
  omega
theorem bs2_s {g : Nat} (hg : g < 256) (k m : Nat) : bs2 (k + 1) (g + 256 * m) = ((g &&& 51) + ((g / 4) &&& 51)) + 256 * bs2 k m := by
  have e : (g + 256 * m) / 4 = (g / 4 + 64 * (m % 4)) + 256 * (m / 4) := by omega
  have h1 := bc_2 g hg (m % 4) (by omega)
  unfold bs2
  rw [e]
  show ((g + 256 * m) &&& (51 + 256 * bmk 51 k)) + ((g / 4 + 64 * (m % 4) + 256 * (m / 4)) &&& (51 + 256 * bmk 51 k)) = _
  rw [an_byte _ _ hg (by omega), an_byte _ _ (by omega) (by omega), h1]
  omega
theorem bs_lo : ∀ k n, n < 256 ^ k → (bs2 k (bs1 k n)) % 16 ≤ 4
  | 0, n, h => by
    have : n = 0 := by simpa using h
    subst this
    decide
  | k + 1, n, h => by
    have en : n = n % 256 + 256 * (n / 256) := by omega
    obtain ⟨h1, h2, h3⟩ := bc_3 (n % 256) (by omega)
    rw [en, bs1_s (by omega), bs2_s h1]
    omega
theorem bs3_s : ∀ k n, n < 256 ^ k → bs3 k (bs2 k (bs1 k n)) = bpp k n
  | 0, n, h => by
    have : n = 0 := by simpa using h
    subst this
    decide
  | k + 1, n, h => by
    have hm : n / 256 < 256 ^ k := by
      rw [Nat.pow_succ] at h
      omega
    have ih := bs3_s k (n / 256) hm
    have hl := bs_lo k (n / 256) hm
    have en : n = n % 256 + 256 * (n / 256) := by omega
    obtain ⟨h1, h2, h3⟩ := bc_3 (n % 256) (by omega)
    have e1 : bs2 (k + 1) (bs1 (k + 1) n) = bg2 (n % 256) + 256 * bs2 k (bs1 k (n / 256)) := by
      conv => lhs; rw [en]
      rw [bs1_s (by omega), bs2_s h1]
      rfl
    have hg : bg2 (n % 256) ≤ 68 := h2
    have h4 := bc_4 (n % 256) (by omega) (bs2 k (bs1 k (n / 256)) % 16) (by omega)
    have h4' : ((bg2 (n % 256) + bg2 (n % 256) / 16 + 16 * (bs2 k (bs1 k (n / 256)) % 16)) &&& 15) = xct (bt (n % 256)) 8 := h4
    have e2 : bg2 (n % 256) + 256 * bs2 k (bs1 k (n / 256)) + (bg2 (n % 256) + 256 * bs2 k (bs1 k (n / 256))) / 16 = (bg2 (n % 256) + bg2 (n % 256) / 16 + 16 * (bs2 k (bs1 k (n / 256)) % 16)) + 256 * (bs2 k (bs1 k (n / 256)) + bs2 k (bs1 k (n / 256)) / 16) := by omega
    rw [e1]
    unfold bs3
    rw [e2]
    show _ &&& (15 + 256 * bmk 15 k) = _
    rw [an_byte _ _ (by omega) (by omega), h4']
    show _ + 256 * bs3 k (bs2 k (bs1 k (n / 256))) = xct (bt n) 8 + 256 * bpp k (n / 256)
    rw [ih]
    congr 1
    refine xct_cg (fun s hs => ?_)
    unfold bt
    refine decide_eq_decide.mpr ?_
    have hs2 : s = 0 ∨ s = 1 ∨ s = 2 ∨ s = 3 ∨ s = 4 ∨ s = 5 ∨ s = 6 ∨ s = 7 := by omega
    rcases hs2 with rfl | rfl | rfl | rfl | rfl | rfl | rfl | rfl <;> omega
theorem xct_split {p : Nat → Bool} {m : Nat} : ∀ n, xct p (m + n) = xct p m + xct (fun s => p (m + s)) n
  | 0 => rfl
  | n + 1 => by
    show xct p (m + n) + (if p (m + n) = true then 1 else 0) = xct p m + (xct (fun s => p (m + s)) n + (if p (m + n) = true then 1 else 0))
    rw [xct_split n]
    omega
theorem bt_sh {n s : Nat} : bt n (8 + s) = bt (n / 256) s := by
  unfold bt
  rw [Nat.pow_add, ← Nat.div_div_eq_div_mul]
theorem wb_add (a b : Nat) : lN a + lN b = lN (a + b) := by
  apply wb_inj
  rw [Int64.toBitVec_add, wb_tb, wb_tb, wb_tb]
  apply BitVec.eq_of_toNat_eq
  rw [BitVec.toNat_add, BitVec.toNat_ofNat, BitVec.toNat_ofNat, BitVec.toNat_ofNat, ← Nat.add_mod]
theorem wb_sub {a b : Nat} (h : b ≤ a) : lN a - lN b = lN (a - b) := by
  have e : lN (a - b) + lN b = lN a := by rw [wb_add]; congr 1; omega
  rw [← e]
  apply wb_inj
  rw [Int64.toBitVec_sub, Int64.toBitVec_add]
  simp
theorem xb_lN {n s : Nat} (hs : s < 64) : xb (lN n) s = bt n s := by
  unfold xb bt
  rw [wb_tb, BitVec.getLsbD_ofNat, Nat.testBit_eq_decide_div_mod_eq]
  simp [hs]
theorem b32 (n : Nat) : ((Int32.ofInt ((lN n).toInt32.toInt)) &&& (Int32.ofInt 127)).toInt = ((n % 128 : Nat) : Int) := by
  rw [Int32.ofInt_toInt]
  have e : ((lN n).toInt32 &&& Int32.ofInt 127) = nI (n % 128) := by
    apply Int32.toBitVec_inj.mp
    rw [Int32.toBitVec_and]
    apply BitVec.eq_of_toNat_eq
    rw [BitVec.toNat_and]
    have h1 : (lN n).toInt32.toBitVec.toNat = n % 2 ^ 32 := by
      show (BitVec.signExtend 32 (lN n).toBitVec).toNat = _
      rw [wb_tb]
      rw [BitVec.signExtend_eq_setWidth_of_le _ (by decide)]
      rw [BitVec.toNat_setWidth, BitVec.toNat_ofNat]
      omega
    have h2 : (Int32.ofInt 127).toBitVec.toNat = 2 ^ 7 - 1 := by decide
    have h3 : (nI (n % 128)).toBitVec.toNat = n % 128 := by
      show (BitVec.ofNat 32 (n % 128)).toNat = _
      rw [BitVec.toNat_ofNat]
      omega
    rw [h1, h2, h3, Nat.and_two_pow_sub_one_eq_mod]
    omega
  rw [e, nI_toInt (by omega)]
theorem BC_ok : BC := by
  intro v M
  obtain ⟨n, hn, rfl⟩ := wb_of v
  unfold D_J13_bitCount_95d88
  have k1 : (6148914691236517205 : Int64) = lN (bmk 85 8) := by decide
  have k2 : (3689348814741910323 : Int64) = lN (bmk 51 8) := by decide
  have k3 : (1085102592571150095 : Int64) = lN (bmk 15 8) := by decide
  have c1 : Int32.ofInt (1 : Int) = nI 1 := rfl
  have c2 : Int32.ofInt (2 : Int) = nI 2 := rfl
  have c4 : Int32.ofInt (4 : Int) = nI 4 := rfl
  have c8 : Int32.ofInt (8 : Int) = nI 8 := rfl
  have c16 : Int32.ofInt (16 : Int) = nI 16 := rfl
  have c32 : Int32.ofInt (32 : Int) = nI 32 := rfl
  have b5 : bmk 85 8 < 2 ^ 64 := by decide
  have b3 : bmk 51 8 < 2 ^ 64 := by decide
  have bf : bmk 15 8 < 2 ^ 64 := by decide
  -- the first step
  have s1 : lN n - ((((lN n).toUInt64 >>> ((Int32.ofInt (1 : Int)).toInt64.toUInt64 &&& Int64.toUInt64 63)).toInt64) &&& (6148914691236517205 : Int64)) = lN (bs1 8 n) := by
    rw [c1, wb_shr hn (by decide), k1, wb_and (by omega) b5, wb_sub (Nat.le_trans Nat.and_le_left (by omega))]
    rfl
  have n1 : bs1 8 n < 2 ^ 64 := by
    unfold bs1
    omega
  rw [s1]
  generalize bs1 8 n = x1 at n1 ⊢
  sorry
