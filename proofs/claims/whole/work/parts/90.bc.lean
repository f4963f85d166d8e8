/-! ## how a long's bits are counted -/
theorem an_div (a b : Nat) : (a &&& b) / 256 = (a / 256) &&& (b / 256) := by
  rw [show (256 : Nat) = 2 ^ 8 from rfl, ← Nat.shiftRight_eq_div_pow, ← Nat.shiftRight_eq_div_pow, ← Nat.shiftRight_eq_div_pow]
  apply Nat.eq_of_testBit_eq
  intro i
  simp [Nat.testBit_shiftRight, Nat.testBit_and]
theorem an_mod (a b : Nat) : (a &&& b) % 256 = (a % 256) &&& (b % 256) := by
  rw [show (256 : Nat) = 2 ^ 8 from rfl]
  apply Nat.eq_of_testBit_eq
  intro i
  simp only [Nat.testBit_mod_two_pow, Nat.testBit_and]
  by_cases h : i < 8 <;> simp [h]
theorem an_byte {x p : Nat} (y q : Nat) (hx : x < 256) (hp : p < 256) : (x + 256 * y) &&& (p + 256 * q) = (x &&& p) + 256 * (y &&& q) := by
  have h1 := an_div (x + 256 * y) (p + 256 * q)
  have h2 := an_mod (x + 256 * y) (p + 256 * q)
  rw [show (x + 256 * y) / 256 = y by omega, show (p + 256 * q) / 256 = q by omega] at h1
  rw [show (x + 256 * y) % 256 = x by omega, show (p + 256 * q) % 256 = p by omega] at h2
  omega
/-- a mask of k bytes -/
def bmk (c : Nat) : Nat → Nat
  | 0 => 0
  | k + 1 => c + 256 * bmk c k
def bs1 (k n : Nat) : Nat := n - ((n / 2) &&& bmk 85 k)
def bs2 (k n : Nat) : Nat := (n &&& bmk 51 k) + ((n / 4) &&& bmk 51 k)
def bs3 (k n : Nat) : Nat := (n + n / 16) &&& bmk 15 k
def bt (n s : Nat) : Bool := decide (n / 2 ^ s % 2 = 1)
/-- the bytes' bits, each byte's in its place -/
def bpp : Nat → Nat → Nat
  | 0, _ => 0
  | k + 1, n => xct (bt n) 8 + 256 * bpp k (n / 256)
theorem bc_1 : ∀ b, b < 256 → ∀ c, c < 2 → ((b / 2 + 128 * c) &&& 85) = ((b / 2) &&& 85) ∧ ((b / 2) &&& 85) ≤ b := by decide +kernel
theorem bc_2 : ∀ b, b < 256 → ∀ c, c < 4 → ((b / 4 + 64 * c) &&& 51) = ((b / 4) &&& 51) := by decide +kernel
theorem bc_3 : ∀ b, b < 256 → ((b - ((b / 2) &&& 85)) < 256 ∧ ((b - ((b / 2) &&& 85)) &&& 51) + (((b - ((b / 2) &&& 85)) / 4) &&& 51) ≤ 68 ∧ (((b - ((b / 2) &&& 85)) &&& 51) + (((b - ((b / 2) &&& 85)) / 4) &&& 51)) % 16 ≤ 4) := by decide +kernel
theorem bc_4 : ∀ b, b < 256 → ∀ c, c < 5 → (((((b - ((b / 2) &&& 85)) &&& 51) + (((b - ((b / 2) &&& 85)) / 4) &&& 51)) + (((b - ((b / 2) &&& 85)) &&& 51) + (((b - ((b / 2) &&& 85)) / 4) &&& 51)) / 16 + 16 * c) &&& 15) = xct (bt b) 8 := by decide +kernel
def bg2 (b : Nat) : Nat := ((b - ((b / 2) &&& 85)) &&& 51) + (((b - ((b / 2) &&& 85)) / 4) &&& 51)
theorem bs1_s {b : Nat} (hb : b < 256) (k m : Nat) : bs1 (k + 1) (b + 256 * m) = (b - ((b / 2) &&& 85)) + 256 * bs1 k m := by
  have e : (b + 256 * m) / 2 = (b / 2 + 128 * (m % 2)) + 256 * (m / 2) := by omega
  obtain ⟨h1, h2⟩ := bc_1 b hb (m % 2) (by omega)
  have hle : (m / 2) &&& bmk 85 k ≤ m / 2 := Nat.and_le_left
  unfold bs1
  rw [e]
  show b + 256 * m - ((b / 2 + 128 * (m % 2) + 256 * (m / 2)) &&& (85 + 256 * bmk 85 k)) = _
  rw [an_byte _ _ (by omega) (by omega), h1]
  omega
theorem bs2_s {g : Nat} (hg : g < 256) (k m : Nat) : bs2 (k + 1) (g + 256 * m) = ((g &&& 51) + ((g / 4) &&& 51)) + 256 * bs2 k m := by
  have e : (g + 256 * m) / 4 = (g / 4 + 64 * (m % 4)) + 256 * (m / 4) := by omega
  have h1 := bc_2 g hg (m % 4) (by omega)
  unfold bs2
  rw [e]
  show ((g + 256 * m) &&& (51 + 256 * bmk 51 k)) + ((g / 4 + 64 * (m % 4) + 256 * (m / 4)) &&& (51 + 256 * bmk 51 k)) = _
  rw [an_byte _ _ hg (by omega), an_byte _ _ (by omega) (by omega), h1]
  omega
theorem bs_lo : ∀ k n, n < 256 ^ k → (bs2 k (bs1 k n)) % 16 ≤ 4
  | 0, n, h => by
    have : n = 0 := by simpa using h
    subst this
    decide
  | k + 1, n, h => by
    have en : n = n % 256 + 256 * (n / 256) := by omega
    obtain ⟨h1, h2, h3⟩ := bc_3 (n % 256) (by omega)
    rw [en, bs1_s (by omega), bs2_s h1]
    omega
theorem bs3_s : ∀ k n, n < 256 ^ k → bs3 k (bs2 k (bs1 k n)) = bpp k n
  | 0, n, h => by
    have : n = 0 := by simpa using h
    subst this
    decide
  | k + 1, n, h => by
    have hm : n / 256 < 256 ^ k := by
      rw [Nat.pow_succ] at h
      omega
    have ih := bs3_s k (n / 256) hm
    have hl := bs_lo k (n / 256) hm
    have en : n = n % 256 + 256 * (n / 256) := by omega
    obtain ⟨h1, h2, h3⟩ := bc_3 (n % 256) (by omega)
    have e1 : bs2 (k + 1) (bs1 (k + 1) n) = bg2 (n % 256) + 256 * bs2 k (bs1 k (n / 256)) := by
      conv => lhs; rw [en]
      rw [bs1_s (by omega), bs2_s h1]
      rfl
    have hg : bg2 (n % 256) ≤ 68 := h2
    have h4 := bc_4 (n % 256) (by omega) (bs2 k (bs1 k (n / 256)) % 16) (by omega)
    have h4' : ((bg2 (n % 256) + bg2 (n % 256) / 16 + 16 * (bs2 k (bs1 k (n / 256)) % 16)) &&& 15) = xct (bt (n % 256)) 8 := h4
    have e2 : bg2 (n % 256) + 256 * bs2 k (bs1 k (n / 256)) + (bg2 (n % 256) + 256 * bs2 k (bs1 k (n / 256))) / 16 = (bg2 (n % 256) + bg2 (n % 256) / 16 + 16 * (bs2 k (bs1 k (n / 256)) % 16)) + 256 * (bs2 k (bs1 k (n / 256)) + bs2 k (bs1 k (n / 256)) / 16) := by omega
    rw [e1]
    unfold bs3
    rw [e2]
    show _ &&& (15 + 256 * bmk 15 k) = _
    rw [an_byte _ _ (by omega) (by omega), h4']
    show _ + 256 * bs3 k (bs2 k (bs1 k (n / 256))) = xct (bt n) 8 + 256 * bpp k (n / 256)
    rw [ih]
    congr 1
    refine xct_cg (fun s hs => ?_)
    unfold bt
    refine decide_eq_decide.mpr ?_
    have hs2 : s = 0 ∨ s = 1 ∨ s = 2 ∨ s = 3 ∨ s = 4 ∨ s = 5 ∨ s = 6 ∨ s = 7 := by omega
    rcases hs2 with rfl | rfl | rfl | rfl | rfl | rfl | rfl | rfl <;> omega
theorem xct_split {p : Nat → Bool} {m : Nat} : ∀ n, xct p (m + n) = xct p m + xct (fun s => p (m + s)) n
  | 0 => rfl
  | n + 1 => by
    show xct p (m + n) + (if p (m + n) = true then 1 else 0) = xct p m + (xct (fun s => p (m + s)) n + (if p (m + n) = true then 1 else 0))
    rw [xct_split n]
    omega
theorem bt_sh {n s : Nat} : bt n (8 + s) = bt (n / 256) s := by
  unfold bt
  rw [Nat.pow_add, ← Nat.div_div_eq_div_mul]
theorem wb_add (a b : Nat) : lN a + lN b = lN (a + b) := by
  apply wb_inj
  rw [Int64.toBitVec_add, wb_tb, wb_tb, wb_tb]
  apply BitVec.eq_of_toNat_eq
  rw [BitVec.toNat_add, BitVec.toNat_ofNat, BitVec.toNat_ofNat, BitVec.toNat_ofNat, ← Nat.add_mod]
theorem wb_sub {a b : Nat} (h : b ≤ a) : lN a - lN b = lN (a - b) := by
  have e : lN (a - b) + lN b = lN a := by rw [wb_add]; congr 1; omega
  rw [← e]
  apply wb_inj
  rw [Int64.toBitVec_sub, Int64.toBitVec_add]
  simp
theorem xb_lN {n s : Nat} (hs : s < 64) : xb (lN n) s = bt n s := by
  unfold xb bt
  rw [wb_tb, BitVec.getLsbD_ofNat, Nat.testBit_eq_decide_div_mod_eq]
  simp [hs]
theorem b32 (n : Nat) : ((Int32.ofInt ((lN n).toInt32.toInt)) &&& (Int32.ofInt 127)).toInt = ((n % 128 : Nat) : Int) := by
  rw [Int32.ofInt_toInt]
  have e : ((lN n).toInt32 &&& Int32.ofInt 127) = nI (n % 128) := by
    apply Int32.toBitVec_inj.mp
    rw [Int32.toBitVec_and]
    apply BitVec.eq_of_toNat_eq
    rw [BitVec.toNat_and]
    have h1 : (lN n).toInt32.toBitVec.toNat = n % 2 ^ 32 := by
      show (BitVec.signExtend 32 (lN n).toBitVec).toNat = _
      rw [wb_tb]
      rw [BitVec.signExtend_eq_setWidth_of_le _ (by decide)]
      rw [BitVec.toNat_setWidth, BitVec.toNat_ofNat]
      omega
    have h2 : (Int32.ofInt 127).toBitVec.toNat = 2 ^ 7 - 1 := by decide
    have h3 : (nI (n % 128)).toBitVec.toNat = n % 128 := by
      show (BitVec.ofNat 32 (n % 128)).toNat = _
      rw [BitVec.toNat_ofNat]
      omega
    rw [h1, h2, h3, Nat.and_two_pow_sub_one_eq_mod]
    omega
  rw [e, nI_toInt (by omega)]
theorem xct_bt8 (n m : Nat) : xct (bt n) (8 + m) = xct (bt n) 8 + xct (bt (n / 256)) m := by
  rw [xct_split]
  exact congrArg (fun z => xct (bt n) 8 + z) (xct_cg (fun s _ => bt_sh))
theorem xpc_lN (n : Nat) : xpc (lN n) = xct (bt n) 8 + (xct (bt (n / 256)) 8 + (xct (bt ((n / 256) / 256)) 8 + (xct (bt (((n / 256) / 256) / 256)) 8 + (xct (bt ((((n / 256) / 256) / 256) / 256)) 8 + (xct (bt (((((n / 256) / 256) / 256) / 256) / 256)) 8 + (xct (bt ((((((n / 256) / 256) / 256) / 256) / 256) / 256)) 8 + (xct (bt (((((((n / 256) / 256) / 256) / 256) / 256) / 256) / 256)) 8))))))) := by
  have h0 : xpc (lN n) = xct (bt n) 64 := xct_cg (fun s hs => xb_lN hs)
  have h1 : xct (bt n) 64 = xct (bt n) 8 + xct (bt (n / 256)) 56 := xct_bt8 _ 56
  have h2 : xct (bt (n / 256)) 56 = xct (bt (n / 256)) 8 + xct (bt ((n / 256) / 256)) 48 := xct_bt8 _ 48
  have h3 : xct (bt ((n / 256) / 256)) 48 = xct (bt ((n / 256) / 256)) 8 + xct (bt (((n / 256) / 256) / 256)) 40 := xct_bt8 _ 40
  have h4 : xct (bt (((n / 256) / 256) / 256)) 40 = xct (bt (((n / 256) / 256) / 256)) 8 + xct (bt ((((n / 256) / 256) / 256) / 256)) 32 := xct_bt8 _ 32
  have h5 : xct (bt ((((n / 256) / 256) / 256) / 256)) 32 = xct (bt ((((n / 256) / 256) / 256) / 256)) 8 + xct (bt (((((n / 256) / 256) / 256) / 256) / 256)) 24 := xct_bt8 _ 24
  have h6 : xct (bt (((((n / 256) / 256) / 256) / 256) / 256)) 24 = xct (bt (((((n / 256) / 256) / 256) / 256) / 256)) 8 + xct (bt ((((((n / 256) / 256) / 256) / 256) / 256) / 256)) 16 := xct_bt8 _ 16
  have h7 : xct (bt ((((((n / 256) / 256) / 256) / 256) / 256) / 256)) 16 = xct (bt ((((((n / 256) / 256) / 256) / 256) / 256) / 256)) 8 + xct (bt (((((((n / 256) / 256) / 256) / 256) / 256) / 256) / 256)) 8 := xct_bt8 _ 8
  rw [h0, h1, h2, h3, h4, h5, h6, h7]
theorem bpp_8 (n : Nat) : bpp 8 n = xct (bt n) 8 + 256 * (xct (bt (n / 256)) 8 + 256 * (xct (bt ((n / 256) / 256)) 8 + 256 * (xct (bt (((n / 256) / 256) / 256)) 8 + 256 * (xct (bt ((((n / 256) / 256) / 256) / 256)) 8 + 256 * (xct (bt (((((n / 256) / 256) / 256) / 256) / 256)) 8 + 256 * (xct (bt ((((((n / 256) / 256) / 256) / 256) / 256) / 256)) 8 + 256 * (xct (bt (((((((n / 256) / 256) / 256) / 256) / 256) / 256) / 256)) 8 + 256 * (0)))))))) := rfl
theorem bc_sum (c0 c1 c2 c3 c4 c5 c6 c7 : Nat) (h0 : c0 ≤ 8) (h1 : c1 ≤ 8) (h2 : c2 ≤ 8) (h3 : c3 ≤ 8) (h4 : c4 ≤ 8) (h5 : c5 ≤ 8) (h6 : c6 ≤ 8) (h7 : c7 ≤ 8) (x3 x4 x5 x6 : Nat) (e3 : x3 = c0 + 256 * (c1 + 256 * (c2 + 256 * (c3 + 256 * (c4 + 256 * (c5 + 256 * (c6 + 256 * (c7 + 256 * (0))))))))) (e4 : x4 = x3 + x3 / 256) (e5 : x5 = x4 + x4 / 65536) (e6 : x6 = x5 + x5 / 4294967296) : x6 % 128 = c0 + (c1 + (c2 + (c3 + (c4 + (c5 + (c6 + (c7))))))) := by
  have d3 : x3 / 256 = c1 + 256 * (c2 + 256 * (c3 + 256 * (c4 + 256 * (c5 + 256 * (c6 + 256 * (c7 + 256 * (0))))))) := by omega
  have f4 : x4 = (c0 + c1) + 256 * ((c1 + c2) + 256 * ((c2 + c3) + 256 * ((c3 + c4) + 256 * ((c4 + c5) + 256 * ((c5 + c6) + 256 * ((c6 + c7) + 256 * ((c7) + 256 * (0)))))))) := by omega
  have d4 : x4 / 65536 = (c2 + c3) + 256 * ((c3 + c4) + 256 * ((c4 + c5) + 256 * ((c5 + c6) + 256 * ((c6 + c7) + 256 * ((c7) + 256 * (0)))))) := by omega
  have f5 : x5 = (c0 + c1 + c2 + c3) + 256 * ((c1 + c2 + c3 + c4) + 256 * ((c2 + c3 + c4 + c5) + 256 * ((c3 + c4 + c5 + c6) + 256 * ((c4 + c5 + c6 + c7) + 256 * ((c5 + c6 + c7) + 256 * ((c6 + c7) + 256 * ((c7) + 256 * (0)))))))) := by omega
  have d5 : x5 / 4294967296 = (c4 + c5 + c6 + c7) + 256 * ((c5 + c6 + c7) + 256 * ((c6 + c7) + 256 * ((c7) + 256 * (0)))) := by omega
  have f6 : x6 = (c0 + c1 + c2 + c3 + c4 + c5 + c6 + c7) + 256 * ((c1 + c2 + c3 + c4 + c5 + c6 + c7) + 256 * ((c2 + c3 + c4 + c5 + c6 + c7) + 256 * ((c3 + c4 + c5 + c6 + c7) + 256 * ((c4 + c5 + c6 + c7) + 256 * ((c5 + c6 + c7) + 256 * ((c6 + c7) + 256 * ((c7) + 256 * (0)))))))) := by omega
  omega
theorem BC_ok : BC := by
  intro v M
  obtain ⟨n, hn, rfl⟩ := wb_of v
  unfold D_J13_bitCount_95d88
  have k1 : (6148914691236517205 : Int64) = lN (bmk 85 8) := by decide +kernel
  have k2 : (3689348814741910323 : Int64) = lN (bmk 51 8) := by decide +kernel
  have k3 : (1085102592571150095 : Int64) = lN (bmk 15 8) := by decide +kernel
  have c1 : Int32.ofInt (1 : Int) = nI 1 := rfl
  have c2 : Int32.ofInt (2 : Int) = nI 2 := rfl
  have c4 : Int32.ofInt (4 : Int) = nI 4 := rfl
  have c8 : Int32.ofInt (8 : Int) = nI 8 := rfl
  have c16 : Int32.ofInt (16 : Int) = nI 16 := rfl
  have c32 : Int32.ofInt (32 : Int) = nI 32 := rfl
  have b5 : bmk 85 8 < 2 ^ 64 := by decide +kernel
  have b3 : bmk 51 8 < 2 ^ 64 := by decide +kernel
  have bf : bmk 15 8 < 2 ^ 64 := by decide +kernel
  -- the first step
  have s1 : lN n - ((((lN n).toUInt64 >>> ((Int32.ofInt (1 : Int)).toInt64.toUInt64 &&& Int64.toUInt64 63)).toInt64) &&& (6148914691236517205 : Int64)) = lN (bs1 8 n) := by
    rw [c1, wb_shr hn (by decide), k1, wb_and (by omega) b5, wb_sub (Nat.le_trans Nat.and_le_left (by omega))]
    rfl
  have n1 : bs1 8 n < 2 ^ 64 := by
    exact Nat.lt_of_le_of_lt (Nat.sub_le _ _) hn
  have n0 : bs1 8 n < 2 ^ 64 := n1
  obtain ⟨x1, hx1⟩ : ∃ x1, x1 = bs1 8 n := ⟨_, rfl⟩
  rw [← hx1] at n0
  rw [s1, ← hx1]
  have s2 : (lN x1 &&& (3689348814741910323 : Int64)) + ((((lN x1).toUInt64 >>> ((Int32.ofInt (2 : Int)).toInt64.toUInt64 &&& Int64.toUInt64 63)).toInt64) &&& (3689348814741910323 : Int64)) = lN (bs2 8 x1) := by
    rw [c2, wb_shr n0 (by decide), k2, wb_and n0 b3, wb_and (by omega) b3, wb_add]
    all_goals rfl
  obtain ⟨x2, hx2⟩ : ∃ x2, x2 = bs2 8 x1 := ⟨_, rfl⟩
  have n2 : x2 ≤ 7378697629483820646 := by
    rw [hx2]
    exact Nat.le_trans (Nat.add_le_add Nat.and_le_right Nat.and_le_right) (by decide +kernel)
  rw [s2, ← hx2]
  have s3 : (lN x2 + (((lN x2).toUInt64 >>> ((Int32.ofInt (4 : Int)).toInt64.toUInt64 &&& Int64.toUInt64 63)).toInt64)) &&& (1085102592571150095 : Int64) = lN (bs3 8 x2) := by
    rw [c4, wb_shr (by omega) (by decide), k3, wb_add, wb_and (by omega) bf]
    all_goals rfl
  obtain ⟨x3, hx3⟩ : ∃ x3, x3 = bs3 8 x2 := ⟨_, rfl⟩
  have n3 : x3 ≤ 1085102592571150095 := by
    rw [hx3]
    exact Nat.le_trans Nat.and_le_right (by decide +kernel)
  rw [s3, ← hx3]
  have s4 : lN x3 + (((lN x3).toUInt64 >>> ((Int32.ofInt (8 : Int)).toInt64.toUInt64 &&& Int64.toUInt64 63)).toInt64) = lN (x3 + x3 / 256) := by
    rw [c8, wb_shr (by omega) (by decide), wb_add]
    all_goals rfl
  obtain ⟨x4, hx4⟩ : ∃ x4, x4 = x3 + x3 / 256 := ⟨_, rfl⟩
  rw [s4, ← hx4]
  have s5 : lN x4 + (((lN x4).toUInt64 >>> ((Int32.ofInt (16 : Int)).toInt64.toUInt64 &&& Int64.toUInt64 63)).toInt64) = lN (x4 + x4 / 65536) := by
    rw [c16, wb_shr (by omega) (by decide), wb_add]
    all_goals rfl
  obtain ⟨x5, hx5⟩ : ∃ x5, x5 = x4 + x4 / 65536 := ⟨_, rfl⟩
  rw [s5, ← hx5]
  have s6 : lN x5 + (((lN x5).toUInt64 >>> ((Int32.ofInt (32 : Int)).toInt64.toUInt64 &&& Int64.toUInt64 63)).toInt64) = lN (x5 + x5 / 4294967296) := by
    rw [c32, wb_shr (by omega) (by decide), wb_add]
    all_goals rfl
  obtain ⟨x6, hx6⟩ : ∃ x6, x6 = x5 + x5 / 4294967296 := ⟨_, rfl⟩
  rw [s6, ← hx6, b32]
  have e3 : x3 = bpp 8 n := by
    rw [hx3, hx2, hx1]
    exact bs3_s 8 n (Nat.lt_of_lt_of_le hn (by decide +kernel))
  rw [bpp_8] at e3
  have := bc_sum _ _ _ _ _ _ _ _ (xct_le _ 8) (xct_le _ 8) (xct_le _ 8) (xct_le _ 8) (xct_le _ 8) (xct_le _ 8) (xct_le _ 8) (xct_le _ 8) x3 x4 x5 x6 e3 hx4 hx5 hx6
  rw [this, ← xpc_lN]
/-! ## texts: how a row of spans is read -/
abbrev tDig (t : Nat → Int) (n p : Nat) : Prop := p < n ∧ 48 ≤ t p ∧ t p ≤ 57
abbrev tCh (t : Nat → Int) (n p : Nat) (c : Int) : Prop := p < n ∧ t p = c
def tNv (t : Nat → Int) (p : Nat) : Nat → Int
  | 0 => 0
  | k + 1 => 10 * tNv t p k + (t (p + k) - 48)
abbrev tNc (t : Nat → Int) (n p k : Nat) : Prop := k < 4 ∧ tDig t n (p + k) ∧ (k = 0 ∨ 0 < tNv t p k)
/-- how many digits are read from p on -/
def tNl (t : Nat → Int) (n p : Nat) : Nat := if tNc t n p 0 then (if tNc t n p 1 then (if tNc t n p 2 then (if tNc t n p 3 then 4 else 3) else 2) else 1) else 0
theorem tNl_spec (t : Nat → Int) (n p : Nat) : (∀ i, i < tNl t n p → tNc t n p i) ∧ ¬ tNc t n p (tNl t n p) ∧ tNl t n p ≤ 4 := by
  unfold tNl
  by_cases h0 : tNc t n p 0
  · rw [if_pos h0]
    by_cases h1 : tNc t n p 1
    · rw [if_pos h1]
      by_cases h2 : tNc t n p 2
      · rw [if_pos h2]
        by_cases h3 : tNc t n p 3
        · rw [if_pos h3]
          refine ⟨fun i hi => ?_, fun h => absurd h.1 (by decide), by decide⟩
          have : i = 0 ∨ i = 1 ∨ i = 2 ∨ i = 3 := by omega
          rcases this with rfl | rfl | rfl | rfl
          · exact h0
          · exact h1
          · exact h2
          · exact h3
        · rw [if_neg h3]
          refine ⟨fun i hi => ?_, h3, by decide⟩
          have : i = 0 ∨ i = 1 ∨ i = 2 := by omega
          rcases this with rfl | rfl | rfl
          · exact h0
          · exact h1
          · exact h2
      · rw [if_neg h2]
        refine ⟨fun i hi => ?_, h2, by decide⟩
        have : i = 0 ∨ i = 1 := by omega
        rcases this with rfl | rfl
        · exact h0
        · exact h1
    · rw [if_neg h1]
      refine ⟨fun i hi => ?_, h1, by decide⟩
      have : i = 0 := by omega
      subst this
      exact h0
  · rw [if_neg h0]
    exact ⟨fun i hi => absurd hi (Nat.not_lt_zero _), h0, by decide⟩
theorem tNl_le {t : Nat → Int} {n p : Nat} (hp : p ≤ n) : p + tNl t n p ≤ n := by
  obtain ⟨h1, _, _⟩ := tNl_spec t n p
  by_cases e : tNl t n p = 0
  · omega
  · have h := (h1 (tNl t n p - 1) (by omega)).2.1.1
    omega
theorem tNv_b {t : Nat → Int} {n p : Nat} : ∀ k, k ≤ tNl t n p → 0 ≤ tNv t p k ∧ tNv t p k < ((10 ^ k : Nat) : Int)
  | 0, _ => ⟨by show (0 : Int) ≤ 0; omega, by show (0 : Int) < ((10 ^ 0 : Nat) : Int); decide⟩
  | k + 1, h => by
    obtain ⟨b1, b2⟩ := tNv_b (t := t) (n := n) (p := p) k (by omega)
    have hd := ((tNl_spec t n p).1 k (by omega)).2.1.2
    have e : 10 ^ (k + 1) = 10 ^ k * 10 := Nat.pow_succ
    show 0 ≤ 10 * tNv t p k + (t (p + k) - 48) ∧ 10 * tNv t p k + (t (p + k) - 48) < ((10 ^ (k + 1) : Nat) : Int)
    rw [e]
    generalize 10 ^ k = w at b2 ⊢
    omega
theorem tNv_bb {t : Nat → Int} {n p k : Nat} (h : k ≤ tNl t n p) : 0 ≤ tNv t p k ∧ tNv t p k ≤ 9999 := by
  have b := tNv_b k h
  have h4 := (tNl_spec t n p).2.2
  have e : 10 ^ k ≤ 10 ^ 4 := Nat.pow_le_pow_right (by decide) (by omega)
  have e4 : 10 ^ 4 = 10000 := by decide
  rw [e4] at e
  generalize 10 ^ k = w at b e
  omega
def tNum (t : Nat → Int) (n p : Nat) : Int := if tNl t n p = 0 then -1 else tNv t p (tNl t n p)
theorem tNum_b (t : Nat → Int) (n p : Nat) : -1 ≤ tNum t n p ∧ tNum t n p ≤ 9999 ∧ (tNum t n p = -1 ↔ tNl t n p = 0) := by
  have b := tNv_bb (Nat.le_refl (tNl t n p))
  unfold tNum
  by_cases e : tNl t n p = 0
  · rw [if_pos e]
    exact ⟨by decide, by decide, ⟨fun _ => e, fun _ => rfl⟩⟩
  · rw [if_neg e]
    exact ⟨by omega, by omega, ⟨fun h => by omega, fun h => absurd h e⟩⟩
/-- where the comma, the closing sign of a span that begins at p are asked for -/
def tB (t : Nat → Int) (n p : Nat) : Nat := p + 1 + tNl t n (p + 1)
def tE (t : Nat → Int) (n p : Nat) : Nat := tB t n p + 1 + tNl t n (tB t n p + 1)
abbrev tOpn (t : Nat → Int) (n p : Nat) : Prop := tCh t n p 91 ∨ tCh t n p 40
abbrev tMid (t : Nat → Int) (n p : Nat) : Prop := tNl t n (p + 1) ≠ 0 ∧ tCh t n (tB t n p) 44
abbrev tCls (t : Nat → Int) (n p : Nat) : Prop := tNl t n (tB t n p + 1) ≠ 0 ∧ (tCh t n (tE t n p) 93 ∨ tCh t n (tE t n p) 41)
abbrev tGood (t : Nat → Int) (n p : Nat) : Prop := tOpn t n p ∧ tMid t n p ∧ tCls t n p
def tEnd (t : Nat → Int) (n p : Nat) : Nat := if tOpn t n p then (if tMid t n p then (if tCls t n p then tE t n p + 1 else tE t n p) else tB t n p) else p
def tL (t : Nat → Int) (n p : Nat) : Int := tNum t n (p + 1)
def tR (t : Nat → Int) (n p : Nat) : Int := tNum t n (tB t n p + 1)
def tF (t : Nat → Int) (n p : Nat) : Int := if tCh t n p 91 then tL t n p else tL t n p + 1
def tG (t : Nat → Int) (n p : Nat) : Int := if tCh t n (tE t n p) 93 then tR t n p else tR t n p - 1
theorem tB_le {t : Nat → Int} {n p : Nat} (h : tOpn t n p) : p + 1 ≤ tB t n p ∧ tB t n p ≤ n := by
  have hp : p + 1 ≤ n := by rcases h with h | h <;> exact h.1
  have := tNl_le (t := t) hp
  unfold tB
  omega
theorem tE_le {t : Nat → Int} {n p : Nat} (h : tMid t n p) : tB t n p + 1 ≤ tE t n p ∧ tE t n p ≤ n := by
  have := tNl_le (t := t) (n := n) (p := tB t n p + 1) h.2.1
  unfold tE
  omega
theorem tEnd_le {t : Nat → Int} {n p : Nat} (hp : p ≤ n) : tEnd t n p ≤ n := by
  unfold tEnd
  by_cases h1 : tOpn t n p
  · rw [if_pos h1]
    have b1 := tB_le h1
    by_cases h2 : tMid t n p
    · rw [if_pos h2]
      have b2 := tE_le h2
      by_cases h3 : tCls t n p
      · rw [if_pos h3]
        rcases h3.2 with h | h <;> exact h.1
      · rw [if_neg h3]; omega
    · rw [if_neg h2]; omega
  · rw [if_neg h1]; omega
theorem tEnd_good {t : Nat → Int} {n p : Nat} (h : tGood t n p) : tEnd t n p = tE t n p + 1 ∧ p + 5 ≤ tEnd t n p := by
  obtain ⟨h1, h2, h3⟩ := h
  have e : tEnd t n p = tE t n p + 1 := by
    unfold tEnd
    rw [if_pos h1, if_pos h2, if_pos h3]
  have a1 : tNl t n (p + 1) ≠ 0 := h2.1
  have a2 : tNl t n (tB t n p + 1) ≠ 0 := h3.1
  have e2 : tE t n p = tB t n p + 1 + tNl t n (tB t n p + 1) := rfl
  have e3 : tB t n p = p + 1 + tNl t n (p + 1) := rfl
  rw [e]
  exact ⟨rfl, by omega⟩
/-- where the spans begin -/
def tPk (t : Nat → Int) (n : Nat) : Nat → Nat
  | 0 => 0
  | k + 1 => tEnd t n (tPk t n k) + 1
abbrev tGo (t : Nat → Int) (n k : Nat) : Prop := tGood t n (tPk t n k) ∧ tCh t n (tEnd t n (tPk t n k)) 59
theorem tPk_le {t : Nat → Int} {n : Nat} : ∀ k, (∀ i, i < k → tGo t n i) → 6 * k ≤ tPk t n k ∧ tPk t n k ≤ n
  | 0, _ => ⟨Nat.le_refl _, Nat.zero_le _⟩
  | k + 1, h => by
    obtain ⟨b1, b2⟩ := tPk_le k (fun i hi => h i (by omega))
    obtain ⟨g1, g2⟩ := h k (by omega)
    have := (tEnd_good g1).2
    have := g2.1
    show 6 * (k + 1) ≤ tEnd t n (tPk t n k) + 1 ∧ tEnd t n (tPk t n k) + 1 ≤ n
    omega
theorem tN_ex0 {t : Nat → Int} {n : Nat} : ∀ m, (∃ N, N < m ∧ (∀ i, i < N → tGo t n i) ∧ ¬ tGo t n N) ∨ ∀ i, i < m → tGo t n i
  | 0 => Or.inr (fun i hi => absurd hi (Nat.not_lt_zero _))
  | m + 1 => by
    rcases tN_ex0 (t := t) (n := n) m with ⟨N, h1, h2, h3⟩ | h
    · exact Or.inl ⟨N, by omega, h2, h3⟩
    · by_cases c : tGo t n m
      · refine Or.inr (fun i hi => ?_)
        by_cases e : i = m
        · subst e; exact c
        · exact h i (by omega)
      · exact Or.inl ⟨m, by omega, h, c⟩
theorem tN_ex {t : Nat → Int} {n : Nat} (hn : n ≤ 60) : ∃ N, N ≤ 10 ∧ (∀ i, i < N → tGo t n i) ∧ ¬ tGo t n N := by
  rcases tN_ex0 (t := t) (n := n) 11 with ⟨N, h1, h2, h3⟩ | h
  · exact ⟨N, by omega, h2, h3⟩
  · have := tPk_le 11 h
    omega
/-! the class's text and reader; the reference's text -/
def tOK (t : Nat → Int) (n : Nat) : Prop := n ≤ 60 ∧ ∀ i, i < n → 0 ≤ t i ∧ t i ≤ 65535
def TC (t : Nat → Int) (n : Nat) (M : xv_M) : Prop := xv_I M 181 0 = (n : Int) ∧ ∀ i, i < n → xv_I M 182 i = t i
def TM (t : Nat → Int) (n : Nat) (M : xv_M) : Prop := xv_I M 188 5 = (n : Int) ∧ ∀ i, i < n → xv_I M 192 i = t i
def RdF (M M' : xv_M) : Prop := M'.1 = M.1 ∧ M'.2.2 = M.2.2 ∧ ∀ r j, ¬ (183 ≤ r ∧ r ≤ 187) → xv_I M' r j = xv_I M r j
def MdF (M M' : xv_M) : Prop := M'.1 = M.1 ∧ M'.2.2 = M.2.2 ∧ ∀ r j, ¬ (r = 188 ∧ 7 ≤ j ∧ j ≤ 12) → xv_I M' r j = xv_I M r j
theorem RdF.rf {M : xv_M} : RdF M M := ⟨rfl, rfl, fun _ _ _ => rfl⟩
theorem MdF.rf {M : xv_M} : MdF M M := ⟨rfl, rfl, fun _ _ _ => rfl⟩
theorem RdF.tr {M M' M'' : xv_M} (h : RdF M M') (g : RdF M' M'') : RdF M M'' := ⟨g.1.trans h.1, g.2.1.trans h.2.1, fun r j q => (g.2.2 r j q).trans (h.2.2 r j q)⟩
theorem MdF.tr {M M' M'' : xv_M} (h : MdF M M') (g : MdF M' M'') : MdF M M'' := ⟨g.1.trans h.1, g.2.1.trans h.2.1, fun r j q => (g.2.2 r j q).trans (h.2.2 r j q)⟩
theorem RdF.scr {M M' : xv_M} (h : RdF M M') : Scr M M' := ⟨h.1, h.2.1, fun r j q => h.2.2 r j (fun z => q (Or.inr (Or.inl z)))⟩
theorem MdF.scr {M M' : xv_M} (h : MdF M M') : Scr M M' := ⟨h.1, h.2.1, fun r j q => h.2.2 r j (fun z => q (Or.inr (Or.inr (Or.inr (Or.inr ⟨z.1, by omega⟩)))))⟩
theorem RdF.sI {M : xv_M} {r j : Nat} {v : Int} (h : 183 ≤ r ∧ r ≤ 187) : RdF M (xv_sI M r j v) := ⟨rfl, rfl, fun r' j' q => by rw [xe_I_sI, if_neg (fun z => q (by rw [z.1]; exact h))]⟩
theorem MdF.sI {M : xv_M} {j : Nat} {v : Int} (h : 7 ≤ j ∧ j ≤ 12) : MdF M (xv_sI M 188 j v) := ⟨rfl, rfl, fun r' j' q => by rw [xe_I_sI, if_neg (fun z => q ⟨z.1, by rw [z.2]; exact h⟩)]⟩
theorem TC.rd {t : Nat → Int} {n : Nat} {M M' : xv_M} (h : TC t n M) (g : RdF M M') : TC t n M' := ⟨(g.2.2 181 0 (by omega)).trans h.1, fun i hi => (g.2.2 182 i (by omega)).trans (h.2 i hi)⟩
theorem TM.md {t : Nat → Int} {n : Nat} {M M' : xv_M} (h : TM t n M) (g : MdF M M') : TM t n M' := ⟨(g.2.2 188 5 (by omega)).trans h.1, fun i hi => (g.2.2 192 i (by omega)).trans (h.2 i hi)⟩
theorem tx_self {M : xv_M} {r j : Nat} {v : Int} (h : xv_I M r j = v) : xv_sI M r j v = M := by
  unfold xv_sI
  obtain ⟨K, I, J, P⟩ := M
  simp only [Prod.mk.injEq, true_and, and_true]
  funext r' j'
  by_cases e : r' = r ∧ j' = j
  · obtain ⟨rfl, rfl⟩ := e
    simp only [xv_up, and_self, if_true]
    exact h.symm
  · simp only [xv_up, if_neg e]
theorem tx_ss {M : xv_M} {r j : Nat} {v w : Int} : xv_sI (xv_sI M r j v) r j w = xv_sI M r j w := by
  unfold xv_sI
  simp only [Prod.mk.injEq, true_and, and_true]
  funext r' j'
  by_cases e : r' = r ∧ j' = j
  · simp only [xv_up, if_pos e]
  · simp only [xv_up, if_neg e]
theorem tx_78 {M : xv_M} {a b c d : Int} : xv_sI (xv_sI (xv_sI (xv_sI M 188 8 a) 188 7 b) 188 8 c) 188 7 d = xv_sI (xv_sI M 188 8 c) 188 7 d := by
  unfold xv_sI
  simp only [Prod.mk.injEq, true_and, and_true]
  funext r j
  by_cases h1 : r = 188 ∧ j = 7
  · simp only [xv_up, if_pos h1]
  · by_cases h2 : r = 188 ∧ j = 8
    · simp only [xv_up, if_neg h1, if_pos h2]
    · simp only [xv_up, if_neg h1, if_neg h2]
/-! ## the class reads a row of spans -/
section TXC
variable {M : xv_M} {t : Nat → Int} {n : Nat}
theorem xm_hasAt (h : xl_OK M) (tc : TC t n M) (tk : tOK t n) {p : Nat} (hp : p ≤ 100) {c : Int} (hc : 0 ≤ c ∧ c ≤ 65535) : D_X7_hasAt 181 (p : Int) c M = some (if tCh t n p c then 1 else 0, M) := by
  have hn := tk.1
  unfold D_X7_hasAt
  rw [xe_cmp (by omega) (by omega) (by decide) (by decide), if_neg (by omega), xg_181_0 h, tc.1, xe_cmp (by omega) (by omega) (by omega) (by omega)]
  by_cases h1 : p < n
  · have ht := tk.2 p h1
    rw [if_neg (by omega), xg_181_1 h, xa_182 h (by omega) (by omega), Int.toNat_natCast, tc.2 p h1, xe_cmp (by omega) (by omega) (by omega) (by omega)]
    by_cases h2 : t p = c
    · rw [if_neg (fun z => z h2), if_pos ⟨h1, h2⟩, xe_g1]
    · rw [if_pos h2, if_neg (fun z => h2 z.2), xe_g0]
  · rw [if_pos (by omega), if_neg (fun z => h1 z.1), xe_g0]
theorem xm_hasDigitAt (h : xl_OK M) (tc : TC t n M) (tk : tOK t n) {p : Nat} (hp : p ≤ 100) : D_X7_hasDigitAt 181 (p : Int) M = some (if tDig t n p then 1 else 0, M) := by
  have hn := tk.1
  unfold D_X7_hasDigitAt
  rw [xe_cmp (by omega) (by omega) (by decide) (by decide), if_neg (by omega), xg_181_0 h, tc.1, xe_cmp (by omega) (by omega) (by omega) (by omega)]
  by_cases h1 : p < n
  · have ht := tk.2 p h1
    rw [if_neg (by omega), xg_181_1 h, xa_182 h (by omega) (by omega), Int.toNat_natCast, tc.2 p h1, xe_cmp (by omega) (by omega) (by decide) (by decide)]
    by_cases h2 : t p < 48
    · rw [if_pos h2, if_neg (fun z => by omega), xe_g0]
    · rw [if_neg h2, xg_181_1 h, xa_182 h (by omega) (by omega), Int.toNat_natCast, tc.2 p h1, xe_cmp (by omega) (by omega) (by decide) (by decide)]
      by_cases h3 : 57 < t p
      · rw [if_pos h3, if_neg (fun z => by omega), xe_g0]
      · rw [if_neg h3, if_pos ⟨h1, by omega, by omega⟩, xe_g1]
  · rw [if_pos (by omega), if_neg (fun z => h1 z.1), xe_g0]
theorem xm_digitAt (h : xl_OK M) (tc : TC t n M) (tk : tOK t n) {p : Nat} (hp : p ≤ 100) (hd : tDig t n p) : D_X7_digitAt 181 (p : Int) M = some (t p - 48, M) := by
  have hn := tk.1
  unfold D_X7_digitAt
  rw [xr_181 h, xm_hasDigitAt h tc tk hp, xe_call, if_pos hd, xe_cmp (by decide) (by decide) (by decide) (by decide), if_neg (by decide), xg_181_1 h, xa_182 h (by omega) (by have := hd.1; omega), Int.toNat_natCast, tc.2 p hd.1]
theorem xm_readSign (h : xl_OK M) (tc : TC t n M) (tk : tOK t n) {p : Nat} (hp : p ≤ 100) (hpos : xv_I M 183 5 = (p : Int)) {c : Int} (hc : 0 ≤ c ∧ c ≤ 65535) : D_X4_readSign 183 181 c M = some (if tCh t n p c then 1 else 0, if tCh t n p c then xv_sI M 183 5 ((p : Int) + 1) else M) := by
  unfold D_X4_readSign
  rw [xg_183_5 h, hpos, xr_181 h, xm_hasAt h tc tk hp hc, xe_call, xe_b1]
  by_cases h1 : tCh t n p c
  · rw [if_pos h1, if_pos h1, if_pos h1, xg_183_5 h, hpos, xu_183_5 h, xe_g1]
  · rw [if_neg h1, if_neg h1, if_neg h1, xe_g0]
theorem xm_readNumber (h : xl_OK M) (tc : TC t n M) (tk : tOK t n) {p : Nat} (hp : p ≤ n) (hpos : xv_I M 183 5 = (p : Int)) : D_X4_readNumber 183 181 M = some (tNum t n p, xv_sI M 183 5 ((p + tNl t n p : Nat) : Int)) := by
  have hn := tk.1
  obtain ⟨s1, s2, s3⟩ := tNl_spec t n p
  have hle := tNl_le (t := t) hp
  have bb : ∀ k, k ≤ tNl t n p → 0 ≤ tNv t p k ∧ tNv t p k ≤ 9999 := fun k hk => tNv_bb hk
  have hnum : tNum t n p = if tNl t n p = 0 then -1 else tNv t p (tNl t n p) := rfl
  rw [hnum]
  generalize tNl t n p = L at *
  have hO : ∀ v, xl_OK (xv_sI M 183 5 v) := fun _ => h
  have hT : ∀ v, TC t n (xv_sI M 183 5 v) := fun v => tc.rd (RdF.sI (by decide))
  have hI : ∀ v, xv_I (xv_sI M 183 5 v) 183 5 = v := fun v => by rw [xe_I_sI, if_pos ⟨rfl, rfl⟩]
  unfold D_X4_readNumber
  refine xe_loop (n := L) (fun k => (tNv t p k, (k : Int), xv_sI M 183 5 ((p + k : Nat) : Int))) ?_ (by omega) ?_ ?_
  · exact Prod.ext rfl (Prod.ext rfl (tx_self hpos).symm)
  · intro k hk f
    obtain ⟨c1, c2, c3⟩ := s1 k hk
    have b := bb k (by omega)
    try dsimp only
    refine xe_letp (fun _ => True) trivial (fun j4 _ => ?_)
    rw [xe_cmp (by omega) (by omega) (by decide) (by decide), if_neg (by omega), xg_183_5 (hO _), hI, xr_181 (hO _), xm_hasDigitAt (hO _) (hT _) tk (by omega), xe_call, xe_b0, if_pos c2]
    refine xe_letp (fun j => j () = f (tNv t p (k + 1), ((k + 1 : Nat) : Int), xv_sI M 183 5 ((p + (k + 1) : Nat) : Int))) ?_ (fun j9 hj => ?_)
    · dsimp only
      rw [xg_183_5 (hO _), hI, xr_181 (hO _), xm_digitAt (hO _) (hT _) tk (by omega) c2, xe_call, xg_183_5 (hO _), hI, xu_183_5 (hO _), tx_ss]
      refine congrArg f (Prod.ext rfl (Prod.ext ?_ ?_))
      · show (k : Int) + 1 = ((k + 1 : Nat) : Int)
        omega
      · show xv_sI M 183 5 (((p + k : Nat) : Int) + 1) = xv_sI M 183 5 ((p + (k + 1) : Nat) : Int)
        rw [show (((p + k : Nat) : Int) + 1) = ((p + (k + 1) : Nat) : Int) by omega]
    · rw [xe_cmp (by omega) (by omega) (by decide) (by decide)]
      by_cases e : (k : Int) = 0
      · rw [if_pos e, hj]
      · rw [if_neg e, xe_cmp (by omega) (by omega) (by decide) (by decide), if_neg (by omega), hj]
  · intro f
    have b := bb L (Nat.le_refl _)
    try dsimp only
    refine xe_letp (fun j => ∀ M', j M' = some (if L = 0 then -1 else tNv t p L, M')) ?_ (fun j4 hj => ?_)
    · intro M'
      try dsimp only
      rw [xe_cmp (by omega) (by omega) (by decide) (by decide)]
      by_cases e : L = 0
      · rw [if_neg (by omega), if_pos e]
      · rw [if_pos (by omega), if_neg e]
    · rw [xe_cmp (by omega) (by omega) (by decide) (by decide)]
      by_cases c1 : (4 : Int) ≤ (L : Int)
      · rw [if_pos c1, hj]
      · rw [if_neg c1, xg_183_5 (hO _), hI, xr_181 (hO _), xm_hasDigitAt (hO _) (hT _) tk (by omega), xe_call, xe_b0]
        by_cases c2 : tDig t n (p + L)
        · rw [if_pos c2]
          refine xe_letp (fun _ => True) trivial (fun j9 _ => ?_)
          have c3 : ¬ (L = 0 ∨ 0 < tNv t p L) := fun z => s2 ⟨by omega, c2, z⟩
          rw [xe_cmp (by omega) (by omega) (by decide) (by decide), if_neg (by omega), xe_cmp (by omega) (by omega) (by decide) (by decide), if_pos (by omega), hj]
        · rw [if_neg c2, hj]
/-- the reader at work on span i: what it leaves alone -/
def RS (i : Nat) (M M' : xv_M) : Prop := RdF M M' ∧ xv_I M' 183 0 = xv_I M 183 0 ∧ ∀ r j, 184 ≤ r → r ≤ 187 → j ≠ i → xv_I M' r j = xv_I M r j
theorem RS.rf {i : Nat} : RS i M M := ⟨RdF.rf, rfl, fun _ _ _ _ _ => rfl⟩
theorem RS.pos {i : Nat} {M' : xv_M} {v : Int} (h : RS i M M') : RS i M (xv_sI M' 183 5 v) := ⟨h.1.tr (RdF.sI (by decide)), by rw [xe_I_sI, if_neg (by decide)]; exact h.2.1, fun r j h1 h2 h3 => by rw [xe_I_sI, if_neg (by omega)]; exact h.2.2 r j h1 h2 h3⟩
theorem RS.arr {i r0 : Nat} {M' : xv_M} {v : Int} (h : RS i M M') (hr : 184 ≤ r0 ∧ r0 ≤ 187) : RS i M (xv_sI M' r0 i v) := ⟨h.1.tr (RdF.sI (by omega)), by rw [xe_I_sI, if_neg (by omega)]; exact h.2.1, fun r j h1 h2 h3 => by rw [xe_I_sI, if_neg (fun z => h3 z.2)]; exact h.2.2 r j h1 h2 h3⟩
theorem RdF.ok {M M' : xv_M} (h : RdF M M') (hO : xl_OK M) : xl_OK M' := h.scr.ok hO
theorem MdF.ok {M M' : xv_M} (h : MdF M M') (hO : xl_OK M) : xl_OK M' := h.scr.ok hO
/-- span i as it was read -/
def RC4 (t : Nat → Int) (n p i : Nat) (M : xv_M) : Prop := xv_I M 184 i = tL t n p ∧ xv_I M 185 i = tR t n p ∧ xv_I M 186 i = (if tCh t n p 91 then 1 else 0) ∧ xv_I M 187 i = (if tCh t n (tE t n p) 93 then 1 else 0)
theorem xm_readOne (h : xl_OK M) (tc : TC t n M) (tk : tOK t n) {p i : Nat} (hp : p ≤ n) (hi : i < 12) (hpos : xv_I M 183 5 = (p : Int)) : ∃ M', D_X4_readOne 183 181 (i : Int) M = some (if tGood t n p then 1 else 0, M') ∧ RS i M M' ∧ xv_I M' 183 5 = (tEnd t n p : Int) ∧ (tGood t n p → RC4 t n p i M') := by
  have hn := tk.1
  have ei : ((i : Int)).toNat = i := Int.toNat_natCast i
  have zb : ∀ (c : Prop) [Decidable c], -2147483648 ≤ (if c then (1 : Int) else 0) ∧ (if c then (1 : Int) else 0) ≤ 2147483647 ∧ ((if c then (1 : Int) else 0) = 0 ∨ (if c then (1 : Int) else 0) = 1) := fun c _ => by
    by_cases hc : c
    · rw [if_pos hc]; decide
    · rw [if_neg hc]; decide
  unfold D_X4_readOne
  rw [xg_183_3 h, xg_183_5 h, hpos, xr_181 h, xm_hasAt h tc tk (by omega) (by decide), xe_call, xw_186 h (by omega) (by omega) (zb (tCh t n p 91)).2.2, ei]
  obtain ⟨M5, hM5⟩ : ∃ M5, M5 = xv_sI M 186 i (if tCh t n p 91 then 1 else 0) := ⟨_, rfl⟩
  rw [← hM5]
  have r5 : RS i M M5 := by rw [hM5]; exact RS.rf.arr (by decide)
  have o5 : xl_OK M5 := r5.1.ok h
  have t5 : TC t n M5 := tc.rd r5.1
  have p5 : xv_I M5 183 5 = (p : Int) := by rw [hM5, xe_I_sI, if_neg (by omega)]; exact hpos
  have v5 : xv_I M5 186 i = if tCh t n p 91 then 1 else 0 := by rw [hM5, xe_I_sI, if_pos ⟨rfl, rfl⟩]
  rw [xg_183_3 o5, xa_186 o5 (by omega) (by omega), ei, v5]
  refine xe_letR (fun d => ∃ M', d = some (if tGood t n p then 1 else 0, M') ∧ RS i M M' ∧ xv_I M' 183 5 = (tEnd t n p : Int) ∧ (tGood t n p → RC4 t n p i M')) (fun j => tOpn t n p → ∃ M', j M5 = some (if tGood t n p then 1 else 0, M') ∧ RS i M M' ∧ xv_I M' 183 5 = (tEnd t n p : Int) ∧ (tGood t n p → RC4 t n p i M')) ?_ (fun j9 hj => ?_)
  · intro hop
    have bB := tB_le hop
    try dsimp only
    rw [xg_183_5 o5, p5, xu_183_5 o5]
    obtain ⟨M11, hM11⟩ : ∃ M11, M11 = xv_sI M5 183 5 ((p : Int) + 1) := ⟨_, rfl⟩
    rw [← hM11]
    have r11 : RS i M M11 := by rw [hM11]; exact r5.pos
    have o11 : xl_OK M11 := r11.1.ok h
    have t11 : TC t n M11 := tc.rd r11.1
    have p11 : xv_I M11 183 5 = ((p + 1 : Nat) : Int) := by rw [hM11, xe_I_sI, if_pos ⟨rfl, rfl⟩]; omega
    rw [xg_183_1 o11, xr_183 o11, xm_readNumber o11 t11 tk (by omega) p11, xe_call]
    have eB : p + 1 + tNl t n (p + 1) = tB t n p := rfl
    rw [eB]
    obtain ⟨M13, hM13⟩ : ∃ M13, M13 = xv_sI M11 183 5 (tB t n p : Int) := ⟨_, rfl⟩
    rw [← hM13]
    have r13 : RS i M M13 := by rw [hM13]; exact r11.pos
    have o13 : xl_OK M13 := r13.1.ok h
    obtain ⟨nb1, nb2, nb3⟩ := tNum_b t n (p + 1)
    have eL : tNum t n (p + 1) = tL t n p := rfl
    rw [eL] at nb1 nb2 nb3 ⊢
    rw [xw_184 o13 (by omega) (by omega), ei]
    obtain ⟨M15, hM15⟩ : ∃ M15, M15 = xv_sI M13 184 i (tL t n p) := ⟨_, rfl⟩
    rw [← hM15]
    have r15 : RS i M M15 := by rw [hM15]; exact r13.arr (by decide)
    have o15 : xl_OK M15 := r15.1.ok h
    have t15 : TC t n M15 := tc.rd r15.1
    have p15 : xv_I M15 183 5 = (tB t n p : Int) := by rw [hM15, xe_I_sI, if_neg (by omega), hM13, xe_I_sI, if_pos ⟨rfl, rfl⟩]
    have v15 : xv_I M15 184 i = tL t n p := by rw [hM15, xe_I_sI, if_pos ⟨rfl, rfl⟩]
    have f15 : xv_I M15 186 i = if tCh t n p 91 then 1 else 0 := by rw [hM15, xe_I_sI, if_neg (by omega), hM13, xe_I_sI, if_neg (by omega), hM11, xe_I_sI, if_neg (by omega)]; exact v5
    rw [xg_183_1 o15, xa_184 o15 (by omega) (by omega), ei, v15, xe_cmp (by omega) (by omega) (by decide) (by decide)]
    by_cases c1 : tMid t n p
    · rw [if_neg (fun z => c1.1 (nb3.mp z)), xr_183 o15, xm_readSign o15 t15 tk (by omega) p15 (by decide), xe_call, if_pos c1.2, if_pos c1.2, xe_cmp (by decide) (by decide) (by decide) (by decide), if_pos (by decide)]
      have bE := tE_le c1
      obtain ⟨M18, hM18⟩ : ∃ M18, M18 = xv_sI M15 183 5 ((tB t n p : Int) + 1) := ⟨_, rfl⟩
      rw [← hM18]
      have r18 : RS i M M18 := by rw [hM18]; exact r15.pos
      have o18 : xl_OK M18 := r18.1.ok h
      have t18 : TC t n M18 := tc.rd r18.1
      have p18 : xv_I M18 183 5 = ((tB t n p + 1 : Nat) : Int) := by rw [hM18, xe_I_sI, if_pos ⟨rfl, rfl⟩]; omega
      rw [xg_183_2 o18, xr_183 o18, xm_readNumber o18 t18 tk c1.2.1 p18, xe_call]
      have eE : tB t n p + 1 + tNl t n (tB t n p + 1) = tE t n p := rfl
      rw [eE]
      obtain ⟨M21, hM21⟩ : ∃ M21, M21 = xv_sI M18 183 5 (tE t n p : Int) := ⟨_, rfl⟩
      rw [← hM21]
      have r21 : RS i M M21 := by rw [hM21]; exact r18.pos
      have o21 : xl_OK M21 := r21.1.ok h
      obtain ⟨nc1, nc2, nc3⟩ := tNum_b t n (tB t n p + 1)
      have eR : tNum t n (tB t n p + 1) = tR t n p := rfl
      rw [eR] at nc1 nc2 nc3 ⊢
      rw [xw_185 o21 (by omega) (by omega), ei]
      obtain ⟨M23, hM23⟩ : ∃ M23, M23 = xv_sI M21 185 i (tR t n p) := ⟨_, rfl⟩
      rw [← hM23]
      have r23 : RS i M M23 := by rw [hM23]; exact r21.arr (by decide)
      have o23 : xl_OK M23 := r23.1.ok h
      have t23 : TC t n M23 := tc.rd r23.1
      have p23 : xv_I M23 183 5 = (tE t n p : Int) := by rw [hM23, xe_I_sI, if_neg (by omega), hM21, xe_I_sI, if_pos ⟨rfl, rfl⟩]
      have v23 : xv_I M23 185 i = tR t n p := by rw [hM23, xe_I_sI, if_pos ⟨rfl, rfl⟩]
      have w23 : xv_I M23 184 i = tL t n p := by rw [hM23, xe_I_sI, if_neg (by omega), hM21, xe_I_sI, if_neg (by omega), hM18, xe_I_sI, if_neg (by omega)]; exact v15
      have f23 : xv_I M23 186 i = if tCh t n p 91 then 1 else 0 := by rw [hM23, xe_I_sI, if_neg (by omega), hM21, xe_I_sI, if_neg (by omega), hM18, xe_I_sI, if_neg (by omega)]; exact f15
      rw [xg_183_2 o23, xa_185 o23 (by omega) (by omega), ei, v23, xe_cmp (by omega) (by omega) (by decide) (by decide)]
      by_cases c2 : tNl t n (tB t n p + 1) = 0
      · have hng : ¬ tGood t n p := fun z => z.2.2.1 c2
        have ee : tEnd t n p = tE t n p := by
          unfold tEnd
          rw [if_pos hop, if_pos c1, if_neg (fun z => z.1 c2)]
        rw [if_neg (fun z => z (nc3.mpr c2)), xe_g0, if_neg hng, ee]
        exact ⟨M23, rfl, r23, p23, fun z => absurd z hng⟩
      · rw [if_pos (fun z => c2 (nc3.mp z)), xg_183_4 o23, xg_183_5 o23, p23, xr_181 o23, xm_hasAt o23 t23 tk (by omega) (by decide), xe_call, xw_187 o23 (by omega) (by omega) (zb (tCh t n (tE t n p) 93)).2.2, ei]
        obtain ⟨M30, hM30⟩ : ∃ M30, M30 = xv_sI M23 187 i (if tCh t n (tE t n p) 93 then 1 else 0) := ⟨_, rfl⟩
        rw [← hM30]
        have r30 : RS i M M30 := by rw [hM30]; exact r23.arr (by decide)
        have o30 : xl_OK M30 := r30.1.ok h
        have t30 : TC t n M30 := tc.rd r30.1
        have p30 : xv_I M30 183 5 = (tE t n p : Int) := by rw [hM30, xe_I_sI, if_neg (by omega)]; exact p23
        have v30 : xv_I M30 187 i = if tCh t n (tE t n p) 93 then 1 else 0 := by rw [hM30, xe_I_sI, if_pos ⟨rfl, rfl⟩]
        have rc : RC4 t n p i M30 := ⟨by rw [hM30, xe_I_sI, if_neg (by omega)]; exact w23, by rw [hM30, xe_I_sI, if_neg (by omega)]; exact v23, by rw [hM30, xe_I_sI, if_neg (by omega)]; exact f23, v30⟩
        have rcs : ∀ v, RC4 t n p i (xv_sI M30 183 5 v) := fun v => ⟨by rw [xe_I_sI, if_neg (by omega)]; exact rc.1, by rw [xe_I_sI, if_neg (by omega)]; exact rc.2.1, by rw [xe_I_sI, if_neg (by omega)]; exact rc.2.2.1, by rw [xe_I_sI, if_neg (by omega)]; exact rc.2.2.2⟩
        have pos9 : tCls t n p → xv_I (xv_sI M30 183 5 ((tE t n p : Int) + 1)) 183 5 = (tEnd t n p : Int) := fun z => by
          have ee : tEnd t n p = tE t n p + 1 := by
            unfold tEnd
            rw [if_pos hop, if_pos c1, if_pos z]
          rw [xe_I_sI, if_pos ⟨rfl, rfl⟩, ee]
          omega
        rw [xg_183_4 o30, xa_187 o30 (by omega) (by omega), ei, v30]
        by_cases c3 : tCh t n (tE t n p) 93
        · have hcl : tCls t n p := ⟨c2, Or.inl c3⟩
          have hg : tGood t n p := ⟨hop, c1, hcl⟩
          rw [if_pos c3, xe_cmp (by decide) (by decide) (by decide) (by decide), if_neg (by decide), xr_183 o30, xm_readSign o30 t30 tk (by omega) p30 (by decide), xe_call, if_pos c3, if_pos c3, xe_g1, if_pos hg]
          exact ⟨_, rfl, r30.pos, pos9 hcl, fun _ => rcs _⟩
        · rw [if_neg c3, xe_cmp (by decide) (by decide) (by decide) (by decide), if_pos rfl, xr_183 o30, xm_readSign o30 t30 tk (by omega) p30 (by decide), xe_call]
          by_cases c4 : tCh t n (tE t n p) 41
          · have hcl : tCls t n p := ⟨c2, Or.inr c4⟩
            have hg : tGood t n p := ⟨hop, c1, hcl⟩
            rw [if_pos c4, if_pos c4, xe_g1, if_pos hg]
            exact ⟨_, rfl, r30.pos, pos9 hcl, fun _ => rcs _⟩
          · have hnc : ¬ tCls t n p := fun z => by
              rcases z.2 with y | y
              · exact c3 y
              · exact c4 y
            have hng : ¬ tGood t n p := fun z => hnc z.2.2
            have ee : tEnd t n p = tE t n p := by
              unfold tEnd
              rw [if_pos hop, if_pos c1, if_neg hnc]
            rw [if_neg c4, if_neg c4, xe_g0, if_neg hng, ee]
            exact ⟨M30, rfl, r30, p30, fun z => absurd z hng⟩
    · have hng : ¬ tGood t n p := fun z => c1 z.2.1
      have ee : tEnd t n p = tB t n p := by
        unfold tEnd
        rw [if_pos hop, if_neg c1]
      rw [if_neg hng, ee]
      by_cases c0 : tNl t n (p + 1) = 0
      · rw [if_pos (nb3.mpr c0), xe_g0]
        exact ⟨M15, rfl, r15, p15, fun z => absurd z hng⟩
      · have c5 : ¬ tCh t n (tB t n p) 44 := fun z => c1 ⟨c0, z⟩
        rw [if_neg (fun z => c0 (nb3.mp z)), xr_183 o15, xm_readSign o15 t15 tk (by omega) p15 (by decide), xe_call, if_neg c5, if_neg c5, xe_cmp (by decide) (by decide) (by decide) (by decide), if_neg (by decide), xe_g0]
        exact ⟨M15, rfl, r15, p15, fun z => absurd z hng⟩
  · rw [xe_cmp (zb (tCh t n p 91)).1 (zb (tCh t n p 91)).2.1 (by decide) (by decide)]
    by_cases c1 : tCh t n p 91
    · rw [if_pos c1, if_pos (by decide)]
      exact hj (Or.inl c1)
    · rw [if_neg c1, if_neg (by decide), xg_183_5 o5, p5, xr_181 o5, xm_hasAt o5 t5 tk (by omega) (by decide), xe_call, xe_b1]
      by_cases c2 : tCh t n p 40
      · rw [if_pos c2]
        exact hj (Or.inr c2)
      · have hno : ¬ tOpn t n p := fun z => by
          rcases z with y | y
          · exact c1 y
          · exact c2 y
        have hng : ¬ tGood t n p := fun z => hno z.1
        have ee : tEnd t n p = p := by
          unfold tEnd
          rw [if_neg hno]
        rw [if_neg c2, xe_g0, if_neg hng, ee]
        exact ⟨M5, rfl, r5, p5, fun z => absurd z hng⟩
end TXC
/-! ## the class: the row, its spans, all added -/
section TXR
variable {M : xv_M} {t : Nat → Int} {n : Nat}
/-- the first k spans as they were read -/
def RCs (t : Nat → Int) (n k : Nat) (M : xv_M) : Prop := ∀ i, i < k → RC4 t n (tPk t n i) i M
theorem RC4.mv {p i : Nat} {M' : xv_M} (h : RC4 t n p i M) (e : ∀ r, 184 ≤ r → r ≤ 187 → xv_I M' r i = xv_I M r i) : RC4 t n p i M' := ⟨(e 184 (by decide) (by decide)).trans h.1, (e 185 (by decide) (by decide)).trans h.2.1, (e 186 (by decide) (by decide)).trans h.2.2.1, (e 187 (by decide) (by decide)).trans h.2.2.2⟩
abbrev tFine (t : Nat → Int) (n N : Nat) : Prop := tGood t n (tPk t n N) ∧ tEnd t n (tPk t n N) = n
theorem xm_readRow (h : xl_OK M) (tc : TC t n M) (tk : tOK t n) {N : Nat} (hN : N ≤ 10) (hg : ∀ i, i < N → tGo t n i) (hx : ¬ tGo t n N) : ∃ M', D_X4_readRow 183 181 M = some (if tFine t n N then -1 else (tEnd t n (tPk t n N) : Int), M') ∧ RdF M M' ∧ (tFine t n N → xv_I M' 183 0 = ((N + 1 : Nat) : Int) ∧ RCs t n (N + 1) M') := by
  have hn := tk.1
  unfold D_X4_readRow
  rw [xu_183_0 h]
  obtain ⟨M1, hM1⟩ : ∃ M1, M1 = xv_sI M 183 0 0 := ⟨_, rfl⟩
  rw [← hM1]
  have r1 : RdF M M1 := by rw [hM1]; exact RdF.sI (by decide)
  have o1 := r1.ok h
  rw [xu_183_5 o1]
  obtain ⟨M2, hM2⟩ : ∃ M2, M2 = xv_sI M1 183 5 0 := ⟨_, rfl⟩
  rw [← hM2]
  have r2 : RdF M M2 := by rw [hM2]; exact r1.tr (RdF.sI (by decide))
  have z2 : xv_I M2 183 0 = 0 := by rw [hM2, xe_I_sI, if_neg (by decide), hM1, xe_I_sI, if_pos ⟨rfl, rfl⟩]
  have p2 : xv_I M2 183 5 = 0 := by rw [hM2, xe_I_sI, if_pos ⟨rfl, rfl⟩]
  refine xe_inv0 (I := fun (k : Nat) (s : Int × xv_M) => s.1 = (k : Int) ∧ RdF M s.2 ∧ xv_I s.2 183 5 = (tPk t n k : Int) ∧ xv_I s.2 183 0 = (k : Int) ∧ RCs t n k s.2) (n := N) (P := fun d => ∃ M', d = some (if tFine t n N then -1 else (tEnd t n (tPk t n N) : Int), M') ∧ RdF M M' ∧ (tFine t n N → xv_I M' 183 0 = ((N + 1 : Nat) : Int) ∧ RCs t n (N + 1) M')) (by omega) ⟨rfl, r2, p2, z2, fun i hi => absurd hi (Nat.not_lt_zero _)⟩ ?_ ?_
  · rintro k ⟨i, X⟩ hk ⟨hi, rx, px, sx, cx⟩
    dsimp only at hi rx px sx cx ⊢
    subst hi
    have ox := rx.ok h
    obtain ⟨_, b2⟩ := tPk_le k (fun i hi => hg i (by omega))
    obtain ⟨g1, g2⟩ := hg k hk
    obtain ⟨M6, d6, rs, p6, c6⟩ := xm_readOne ox (tc.rd rx) tk b2 (i := k) (by omega) px
    have r6 := rx.tr rs.1
    have o6 := r6.ok h
    have s6 : xv_I M6 183 0 = (k : Int) := rs.2.1.trans sx
    obtain ⟨M9, hM9⟩ : ∃ M9, M9 = xv_sI M6 183 0 ((k : Int) + 1) := ⟨_, rfl⟩
    have r9 : RdF M M9 := by rw [hM9]; exact r6.tr (RdF.sI (by decide))
    have o9 := r9.ok h
    have p9 : xv_I M9 183 5 = (tEnd t n (tPk t n k) : Int) := by rw [hM9, xe_I_sI, if_neg (by decide)]; exact p6
    have s9 : xv_I M9 183 0 = ((k + 1 : Nat) : Int) := by rw [hM9, xe_I_sI, if_pos ⟨rfl, rfl⟩]; omega
    have c9 : RCs t n (k + 1) M9 := fun i hi => by
      have e9 : ∀ r, 184 ≤ r → r ≤ 187 → xv_I M9 r i = xv_I M6 r i := fun r h1 h2 => by rw [hM9, xe_I_sI, if_neg (by omega)]
      by_cases e : i = k
      · subst e
        exact (c6 g1).mv e9
      · exact ((cx i (by omega)).mv (fun r h1 h2 => rs.2.2 r i h1 h2 e)).mv e9
    have t9 : xv_I M9 181 0 = (n : Int) := (tc.rd r9).1
    have hlt := g2.1
    refine ⟨(((k : Int) + 1), xv_sI M9 183 5 ((tEnd t n (tPk t n k) : Int) + 1)), ⟨by show (k : Int) + 1 = ((k + 1 : Nat) : Int); omega, r9.tr (RdF.sI (by decide)), ?_, ?_, fun i hi => ?_⟩, fun f => ?_⟩
    · show xv_I (xv_sI M9 183 5 ((tEnd t n (tPk t n k) : Int) + 1)) 183 5 = ((tEnd t n (tPk t n k) + 1 : Nat) : Int)
      rw [xe_I_sI, if_pos ⟨rfl, rfl⟩]
      omega
    · show xv_I (xv_sI M9 183 5 ((tEnd t n (tPk t n k) : Int) + 1)) 183 0 = _
      rw [xe_I_sI, if_neg (by decide)]
      exact s9
    · exact (c9 i hi).mv (fun r h1 h2 => by
        show xv_I (xv_sI M9 183 5 ((tEnd t n (tPk t n k) : Int) + 1)) r i = _
        rw [xe_I_sI, if_neg (by omega)])
    · rw [xe_cmp (by omega) (by omega) (by decide) (by decide), if_neg (by omega), xr_183 ox, d6, xe_call, if_pos g1, xe_cmp (by decide) (by decide) (by decide) (by decide), if_pos (by decide), xg_183_0 o6, s6, xu_183_0 o6, ← hM9, xg_183_5 o9, p9, xg_181_0 o9, t9, xe_cmp (by omega) (by omega) (by omega) (by omega), if_pos (by omega), xr_183 o9, xm_readSign o9 (tc.rd r9) tk (by omega) p9 (by decide), xe_call, if_pos g2, if_pos g2, xe_cmp (by decide) (by decide) (by decide) (by decide), if_pos (by decide)]
  · rintro ⟨i, X⟩ ⟨hi, rx, px, sx, cx⟩ f
    dsimp only at hi rx px sx cx ⊢
    subst hi
    have ox := rx.ok h
    obtain ⟨_, b2⟩ := tPk_le N hg
    have b3 := tEnd_le (t := t) b2
    obtain ⟨M6, d6, rs, p6, c6⟩ := xm_readOne ox (tc.rd rx) tk b2 (i := N) (by omega) px
    have r6 := rx.tr rs.1
    have o6 := r6.ok h
    rw [xe_cmp (by omega) (by omega) (by decide) (by decide), if_neg (by omega), xr_183 ox, d6, xe_call]
    by_cases g1 : tGood t n (tPk t n N)
    · have s6 : xv_I M6 183 0 = (N : Int) := rs.2.1.trans sx
      obtain ⟨M9, hM9⟩ : ∃ M9, M9 = xv_sI M6 183 0 ((N : Int) + 1) := ⟨_, rfl⟩
      have r9 : RdF M M9 := by rw [hM9]; exact r6.tr (RdF.sI (by decide))
      have o9 := r9.ok h
      have p9 : xv_I M9 183 5 = (tEnd t n (tPk t n N) : Int) := by rw [hM9, xe_I_sI, if_neg (by decide)]; exact p6
      have s9 : xv_I M9 183 0 = ((N + 1 : Nat) : Int) := by rw [hM9, xe_I_sI, if_pos ⟨rfl, rfl⟩]; omega
      have c9 : RCs t n (N + 1) M9 := fun i hi => by
        have e9 : ∀ r, 184 ≤ r → r ≤ 187 → xv_I M9 r i = xv_I M6 r i := fun r h1 h2 => by rw [hM9, xe_I_sI, if_neg (by omega)]
        by_cases e : i = N
        · subst e
          exact (c6 g1).mv e9
        · exact ((cx i (by omega)).mv (fun r h1 h2 => rs.2.2 r i h1 h2 e)).mv e9
      have t9 : xv_I M9 181 0 = (n : Int) := (tc.rd r9).1
      rw [if_pos g1, xe_cmp (by decide) (by decide) (by decide) (by decide), if_pos (by decide), xg_183_0 o6, s6, xu_183_0 o6, ← hM9, xg_183_5 o9, p9, xg_181_0 o9, t9, xe_cmp (by omega) (by omega) (by omega) (by omega)]
      by_cases e : tEnd t n (tPk t n N) = n
      · rw [if_neg (by omega), if_pos ⟨g1, e⟩]
        exact ⟨M9, rfl, r9, fun _ => ⟨s9, c9⟩⟩
      · have g2 : ¬ tCh t n (tEnd t n (tPk t n N)) 59 := fun z => hx ⟨g1, z⟩
        rw [if_pos (by omega), xr_183 o9, xm_readSign o9 (tc.rd r9) tk (by omega) p9 (by decide), xe_call, if_neg g2, if_neg g2, xe_cmp (by decide) (by decide) (by decide) (by decide), if_neg (by decide), xg_183_5 o9, p9, if_neg (fun z => e z.2)]
        exact ⟨M9, rfl, r9, fun z => absurd z.2 e⟩
    · rw [if_neg g1, xe_cmp (by decide) (by decide) (by decide) (by decide), if_neg (by decide), xg_183_5 o6, p6, if_neg (fun z => g1 z.1)]
      exact ⟨M6, rfl, r6, fun z => absurd z.1 g1⟩
/-- a span may lie so -/
abbrev tVok (t : Nat → Int) (n p : Nat) : Prop := tL t n p ≤ 1000 ∧ tR t n p ≤ 1000 ∧ tL t n p ≤ tR t n p ∧ tF t n p ≤ tG t n p
theorem tLR_b (t : Nat → Int) (n p : Nat) : (-1 ≤ tL t n p ∧ tL t n p ≤ 9999) ∧ (-1 ≤ tR t n p ∧ tR t n p ≤ 9999) ∧ (-2 ≤ tF t n p ∧ tF t n p ≤ 10000) ∧ (-2 ≤ tG t n p ∧ tG t n p ≤ 10000) := by
  have b1 := tNum_b t n (p + 1)
  have b2 := tNum_b t n (tB t n p + 1)
  have e1 : tNum t n (p + 1) = tL t n p := rfl
  have e2 : tNum t n (tB t n p + 1) = tR t n p := rfl
  rw [e1] at b1
  rw [e2] at b2
  refine ⟨by omega, by omega, ?_, ?_⟩
  · unfold tF
    by_cases c : tCh t n p 91
    · rw [if_pos c]; omega
    · rw [if_neg c]; omega
  · unfold tG
    by_cases c : tCh t n (tE t n p) 93
    · rw [if_pos c]; omega
    · rw [if_neg c]; omega
/-- one span is asked for -/
theorem xm_ask1 {N : Nat} (h : xl_OK M) (hN : N ≤ 10) (hs : xv_I M 183 0 = ((N + 1 : Nat) : Int)) (hc : RCs t n (N + 1) M) {k : Nat} (hk : k < N + 1) {T : Type} {d0 d1 : Option T} {f : Int → Option T} (F : Option T)
    (hF : F = (xv_gI M 4 183 0 (fun v3 => (xv_cmp (k : Int) v3 (v3 ≤ (k : Int)) d1 (xv_gP M 4 183 3 (fun v4 => (xv_aI M 16 v4 (k : Int) (fun v5 => (xv_let (fun x6 : Int => (xv_gP M 4 183 4 (fun v8 => (xv_aI M 16 v8 (k : Int) (fun v9 => (xv_let (fun x10 : Int => (xv_gP M 4 183 1 (fun v12 => (xv_aI M 14 v12 (k : Int) (fun v13 => (xv_cmp v13 (1000 : Int) ((1000 : Int) < v13) d0 (xv_gP M 4 183 2 (fun v14 => (xv_aI M 14 v14 (k : Int) (fun v15 => (xv_cmp v15 (1000 : Int) ((1000 : Int) < v15) d0 (xv_gP M 4 183 2 (fun v16 => (xv_aI M 14 v16 (k : Int) (fun v17 => (xv_gP M 4 183 1 (fun v18 => (xv_aI M 14 v18 (k : Int) (fun v19 => (xv_cmp v17 v19 (v17 < v19) d0 (xv_cmp x6 x10 (x6 ≤ x10) (f ((k : Int) + 1)) d0)))))))))))))))))) (fun j11 => (xv_cmp v9 (0 : Int) (v9 = (0 : Int)) (xv_gP M 4 183 2 (fun v20 => (xv_aI M 14 v20 (k : Int) (fun v21 => (j11 (v21 - (1 : Int))))))) (xv_gP M 4 183 2 (fun v22 => (xv_aI M 14 v22 (k : Int) (fun v23 => (j11 v23))))))))))))) (fun j7 => (xv_cmp v5 (0 : Int) (v5 = (0 : Int)) (xv_gP M 4 183 1 (fun v24 => (xv_aI M 14 v24 (k : Int) (fun v25 => (j7 (v25 + (1 : Int))))))) (xv_gP M 4 183 1 (fun v26 => (xv_aI M 14 v26 (k : Int) (fun v27 => (j7 v27))))))))))))))) : F = if tVok t n (tPk t n k) then f ((k : Int) + 1) else d0 := by
  subst hF
  obtain ⟨c1, c2, c3, c4⟩ := hc k hk
  obtain ⟨b1, b2, b3, b4⟩ := tLR_b t n (tPk t n k)
  have ek : ((k : Int)).toNat = k := Int.toNat_natCast k
  have eF : tF t n (tPk t n k) = if tCh t n (tPk t n k) 91 then tL t n (tPk t n k) else tL t n (tPk t n k) + 1 := rfl
  have eG : tG t n (tPk t n k) = if tCh t n (tE t n (tPk t n k)) 93 then tR t n (tPk t n k) else tR t n (tPk t n k) - 1 := rfl
  rw [xg_183_0 h, hs, xe_cmp (by omega) (by omega) (by omega) (by omega), if_neg (by omega), xg_183_3 h, xa_186 h (by omega) (by omega), ek, c3]
  refine xe_letp (fun j => j (tF t n (tPk t n k)) = if tVok t n (tPk t n k) then f ((k : Int) + 1) else d0) ?_ (fun j7 hj => ?_)
  · dsimp only
    rw [xg_183_4 h, xa_187 h (by omega) (by omega), ek, c4]
    refine xe_letp (fun j => j (tG t n (tPk t n k)) = if tVok t n (tPk t n k) then f ((k : Int) + 1) else d0) ?_ (fun j11 hj => ?_)
    · dsimp only
      rw [xg_183_1 h, xa_184 h (by omega) (by omega), ek, c1, xe_cmp (by omega) (by omega) (by decide) (by decide)]
      by_cases q1 : 1000 < tL t n (tPk t n k)
      · rw [if_pos q1, if_neg (fun z => by omega)]
      · rw [if_neg q1, xg_183_2 h, xa_185 h (by omega) (by omega), ek, c2, xe_cmp (by omega) (by omega) (by decide) (by decide)]
        by_cases q2 : 1000 < tR t n (tPk t n k)
        · rw [if_pos q2, if_neg (fun z => by omega)]
        · rw [if_neg q2, xg_183_2 h, xa_185 h (by omega) (by omega), ek, c2, xg_183_1 h, xa_184 h (by omega) (by omega), ek, c1, xe_cmp (by omega) (by omega) (by omega) (by omega)]
          by_cases q3 : tR t n (tPk t n k) < tL t n (tPk t n k)
          · rw [if_pos q3, if_neg (fun z => by omega)]
          · rw [if_neg q3, xe_cmp (by omega) (by omega) (by omega) (by omega)]
            by_cases q4 : tF t n (tPk t n k) ≤ tG t n (tPk t n k)
            · rw [if_pos q4, if_pos ⟨by omega, by omega, by omega, q4⟩]
            · rw [if_neg q4, if_neg (fun z => q4 z.2.2.2)]
    · by_cases q : tCh t n (tE t n (tPk t n k)) 93
      · rw [if_pos q, xe_cmp (by decide) (by decide) (by decide) (by decide), if_neg (by decide), xg_183_2 h, xa_185 h (by omega) (by omega), ek, c2]
        rw [eG, if_pos q] at hj
        exact hj
      · rw [if_neg q, xe_cmp (by decide) (by decide) (by decide) (by decide), if_pos rfl, xg_183_2 h, xa_185 h (by omega) (by omega), ek, c2]
        rw [eG, if_neg q] at hj
        exact hj
  · by_cases q : tCh t n (tPk t n k) 91
    · rw [if_pos q, xe_cmp (by decide) (by decide) (by decide) (by decide), if_neg (by decide), xg_183_1 h, xa_184 h (by omega) (by omega), ek, c1]
      rw [eF, if_pos q] at hj
      exact hj
    · rw [if_neg q, xe_cmp (by decide) (by decide) (by decide) (by decide), if_pos rfl, xg_183_1 h, xa_184 h (by omega) (by omega), ek, c1]
      rw [eF, if_neg q] at hj
      exact hj
theorem xm_allAre {N : Nat} (h : xl_OK M) (hN : N ≤ 10) (hs : xv_I M 183 0 = ((N + 1 : Nat) : Int)) (hc : RCs t n (N + 1) M) (hv : ∀ k, k < N + 1 → tVok t n (tPk t n k)) : D_X4_allAreSpans 183 M = some (1, M) := by
  unfold D_X4_allAreSpans
  refine xe_loop (n := N + 1) (fun k => (k : Int)) rfl (by omega) ?_ ?_
  · intro k hk f
    try dsimp only
    refine (xm_ask1 h hN hs hc hk (f := f) _ rfl).trans ?_
    rw [if_pos (hv k hk)]
    exact congrArg f (by omega)
  · intro f
    try dsimp only
    rw [xg_183_0 h, hs, xe_cmp (by omega) (by omega) (by omega) (by omega), if_pos (by omega), xe_g1]
theorem xm_allAre0 {N b : Nat} (h : xl_OK M) (hN : N ≤ 10) (hs : xv_I M 183 0 = ((N + 1 : Nat) : Int)) (hc : RCs t n (N + 1) M) (hb : b < N + 1) (hv : ∀ k, k < b → tVok t n (tPk t n k)) (hx : ¬ tVok t n (tPk t n b)) : D_X4_allAreSpans 183 M = some (0, M) := by
  unfold D_X4_allAreSpans
  refine xe_loop (n := b) (fun k => (k : Int)) rfl (by omega) ?_ ?_
  · intro k hk f
    try dsimp only
    refine (xm_ask1 h hN hs hc (by omega) (f := f) _ rfl).trans ?_
    rw [if_pos (hv k hk)]
    exact congrArg f (by omega)
  · intro f
    try dsimp only
    refine (xm_ask1 h hN hs hc hb (f := f) _ rfl).trans ?_
    rw [if_neg hx, xe_g0]
end TXR
/-- the first k spans of the row, added -/
def rRow (a : RW) (t : Nat → Int) (n : Nat) : Nat → RW
  | 0 => a
  | k + 1 => rAdds (rRow a t n k) (tL t n (tPk t n k)) (tR t n (tPk t n k)) (tF t n (tPk t n k)) (tG t n (tPk t n k))
theorem rAdds_1 {a : RW} (q : rRQ a) (h60 : a 1 < 60) {l r f g : Int} (hb : 0 ≤ l ∧ l ≤ f ∧ f ≤ g ∧ g ≤ r ∧ r ≤ 1000) : rAdds a l r f g 1 = a 1 + 1 := by
  have qb := rRQ_add q h60 hb
  have kp := rAllN_keep qb.1.2.2.2.1 qb.1.1.1 qb.1.2.1.2 (rm (rAddB a l r f g)) qb.1.m
  exact kp.2.1.trans (rAddB_n (a := a) (l := l) (r := r) (f := f) (g := g)).1
theorem tVok_b {t : Nat → Int} {n p : Nat} (g : tGood t n p) (v : tVok t n p) : 0 ≤ tL t n p ∧ tL t n p ≤ tF t n p ∧ tF t n p ≤ tG t n p ∧ tG t n p ≤ tR t n p ∧ tR t n p ≤ 1000 := by
  obtain ⟨_, g2, g3⟩ := g
  obtain ⟨b1, b2, b3⟩ := tNum_b t n (p + 1)
  have e1 : tNum t n (p + 1) = tL t n p := rfl
  rw [e1] at b1 b2 b3
  have hl : tL t n p ≠ -1 := fun z => g2.1 (b3.mp z)
  refine ⟨by omega, ?_, v.2.2.2, ?_, v.2.1⟩
  · unfold tF
    by_cases c : tCh t n p 91
    · rw [if_pos c]; omega
    · rw [if_neg c]; omega
  · unfold tG
    by_cases c : tCh t n (tE t n p) 93
    · rw [if_pos c]; omega
    · rw [if_neg c]; omega
theorem rRow_ok {a : RW} {t : Nat → Int} {n N : Nat} (q : rRW a) (hr : a 1 + ((N : Nat) : Int) ≤ 60) (hg : ∀ k, k < N → tGood t n (tPk t n k) ∧ tVok t n (tPk t n k)) : ∀ k, k ≤ N → rRW (rRow a t n k) ∧ rRow a t n k 1 = a 1 + (k : Int)
  | 0, _ => ⟨q, by show a 1 = a 1 + ((0 : Nat) : Int); omega⟩
  | k + 1, hk => by
    obtain ⟨i1, i2⟩ := rRow_ok q hr hg k (by omega)
    obtain ⟨g, v⟩ := hg k (by omega)
    have hb := tVok_b g v
    refine ⟨rRW_adds i1.1 (by omega) hb, ?_⟩
    show rAdds _ _ _ _ _ 1 = _
    rw [rAdds_1 i1.1 (by omega) hb, i2]
    omega
/-! ## the class: readSpans; type, clearText of both -/
section TXS
variable {M : xv_M} {t : Nat → Int} {n : Nat} {a H : RW} {k : Nat}
theorem xc_rdA (h : CLh a H k M) (tc : TC t n M) (tk : tOK t n) {N : Nat} (hN : N ≤ 10) (hg : ∀ i, i < N → tGo t n i) (hx : ¬ tGo t n N) (hf : ¬ tFine t n N) : ∃ M', D_X11_readSpans 1 M = some (-100 - (tEnd t n (tPk t n N) : Int), M') ∧ RdF M M' := by
  have hO := h.1.1.1
  have hn := tk.1
  obtain ⟨_, b2⟩ := tPk_le N hg
  have b3 := tEnd_le (t := t) b2
  obtain ⟨M1, d1, r1, _⟩ := xm_readRow hO tc tk hN hg hx
  unfold D_X11_readSpans
  rw [xg_1_4 hO, xg_1_3 hO, xr_183 hO, d1, xe_call, if_neg hf, xe_cmp (by omega) (by omega) (by decide) (by decide), if_neg (by omega)]
  exact ⟨M1, rfl, r1⟩
theorem xc_rdB (h : CLh a H k M) (tc : TC t n M) (tk : tOK t n) {N : Nat} (hN : N ≤ 10) (hg : ∀ i, i < N → tGo t n i) (hx : ¬ tGo t n N) (hf : tFine t n N) {b : Nat} (hb : b < N + 1) (hv : ∀ k, k < b → tVok t n (tPk t n k)) (hbx : ¬ tVok t n (tPk t n b)) : ∃ M', D_X11_readSpans 1 M = some (-2, M') ∧ RdF M M' := by
  have hO := h.1.1.1
  obtain ⟨M1, d1, r1, c1⟩ := xm_readRow hO tc tk hN hg hx
  obtain ⟨s1, c1⟩ := c1 hf
  have o1 := r1.ok hO
  unfold D_X11_readSpans
  rw [xg_1_4 hO, xg_1_3 hO, xr_183 hO, d1, xe_call, if_pos hf, xe_cmp (by decide) (by decide) (by decide) (by decide), if_pos rfl, xg_1_4 o1, xr_183 o1, xm_allAre0 o1 hN s1 c1 hb hv hbx, xe_call, xe_cmp (by decide) (by decide) (by decide) (by decide), if_neg (by decide)]
  exact ⟨M1, rfl, r1⟩
theorem xc_rdC (h : CLh a H k M) (tc : TC t n M) (tk : tOK t n) {N : Nat} (hN : N ≤ 10) (hg : ∀ i, i < N → tGo t n i) (hx : ¬ tGo t n N) (hf : tFine t n N) (hv : ∀ k, k < N + 1 → tVok t n (tPk t n k)) (hr : ¬ a 1 + ((N + 1 : Nat) : Int) ≤ 60) : ∃ M', D_X11_readSpans 1 M = some (-3, M') ∧ RdF M M' := by
  have hO := h.1.1.1
  have g1 := h.2.1.1.1.2.1
  obtain ⟨M1, d1, r1, c1⟩ := xm_readRow hO tc tk hN hg hx
  obtain ⟨s1, c1⟩ := c1 hf
  have o1 := r1.ok hO
  have hz : xv_I M1 4 0 = a 1 := (h.scr r1.scr).1.1.2.2.1.1
  unfold D_X11_readSpans
  rw [xg_1_4 hO, xg_1_3 hO, xr_183 hO, d1, xe_call, if_pos hf, xe_cmp (by decide) (by decide) (by decide) (by decide), if_pos rfl, xg_1_4 o1, xr_183 o1, xm_allAre o1 hN s1 c1 hv, xe_call, xe_cmp (by decide) (by decide) (by decide) (by decide), if_pos (by decide)]
  rw [xg_1_0 o1, xg_2_0 o1, xg_3_1 o1, xg_4_0 o1, hz, xg_1_4 o1, xg_183_0 o1, s1, xe_cmp (by omega) (by omega) (by decide) (by decide), if_neg hr]
  exact ⟨M1, rfl, r1⟩
theorem tF_if (t : Nat → Int) (n p : Nat) : (if (if tCh t n p 91 then (1 : Int) else 0) = 0 then tL t n p + 1 else tL t n p) = tF t n p := by
  unfold tF
  by_cases c : tCh t n p 91
  · rw [if_pos c, if_neg (by decide), if_pos c]
  · rw [if_neg c, if_pos rfl, if_neg c]
theorem tG_if (t : Nat → Int) (n p : Nat) : (if (if tCh t n (tE t n p) 93 then (1 : Int) else 0) = 0 then tR t n p - 1 else tR t n p) = tG t n p := by
  unfold tG
  by_cases c : tCh t n (tE t n p) 93
  · rw [if_pos c, if_neg (by decide), if_pos c]
  · rw [if_neg c, if_pos rfl, if_neg c]
theorem t01 (c : Prop) [Decidable c] : (if c then (1 : Int) else 0) = 0 ∨ (if c then (1 : Int) else 0) = 1 := by
  by_cases hc : c
  · rw [if_pos hc]; exact Or.inr rfl
  · rw [if_neg hc]; exact Or.inl rfl
theorem xc_rdD (hbc : BC) (h : CLh a H k M) (tc : TC t n M) (tk : tOK t n) {N : Nat} (hN : N ≤ 10) (hg : ∀ i, i < N → tGo t n i) (hx : ¬ tGo t n N) (hf : tFine t n N) (hv : ∀ k, k < N + 1 → tVok t n (tPk t n k)) (hr : a 1 + ((N + 1 : Nat) : Int) ≤ 60) : ∃ M0 M', Scr M M0 ∧ D_X11_readSpans 1 M = some (((N + 1 : Nat) : Int), M') ∧ CAct a H k M0 M' (some (rRow a t n (N + 1))) := by
  have hO := h.1.1.1
  have g1 := h.2.1.1.1.2.1
  obtain ⟨M1, d1, r1, c1⟩ := xm_readRow hO tc tk hN hg hx
  obtain ⟨s1, c1⟩ := c1 hf
  have o1 := r1.ok hO
  have h1 := h.scr r1.scr
  have hz : xv_I M1 4 0 = a 1 := h1.1.1.2.2.1.1
  obtain ⟨M2, d2, rc, f2, _⟩ := xc_rec h1
  have o2 := rc.1.1.1
  have gv : ∀ i, i < N + 1 → tGood t n (tPk t n i) ∧ tVok t n (tPk t n i) := fun i hi => by
    refine ⟨?_, hv i hi⟩
    by_cases e : i = N
    · rw [e]; exact hf.1
    · exact (hg i (by omega)).1
  have ro := rRow_ok h.2.1 hr gv
  suffices L : ∃ M', xv_fix (fun (f19 : (Int × xv_M) → Option (Int × xv_M)) (x18 : Int × xv_M) => (xv_gP x18.2 11 1 4 (fun v20 => (xv_gI x18.2 4 v20 0 (fun v21 => (xv_cmp x18.1 v21 (v21 ≤ x18.1) (xv_gP x18.2 11 1 4 (fun v22 => (xv_gI x18.2 4 v22 0 (fun v23 => (some (v23, x18.2)))))) (xv_gP x18.2 11 1 0 (fun v24 => (xv_gP x18.2 11 1 4 (fun v25 => (xv_gP x18.2 4 v25 1 (fun v26 => (xv_aI x18.2 14 v26 x18.1 (fun v27 => (xv_gP x18.2 11 1 4 (fun v28 => (xv_gP x18.2 4 v28 2 (fun v29 => (xv_aI x18.2 14 v29 x18.1 (fun v30 => (xv_gP x18.2 11 1 4 (fun v31 => (xv_gP x18.2 4 v31 3 (fun v32 => (xv_aI x18.2 16 v32 x18.1 (fun v33 => (xv_gP x18.2 11 1 4 (fun v34 => (xv_gP x18.2 4 v34 4 (fun v35 => (xv_aI x18.2 16 v35 x18.1 (fun v36 => (xv_call (xv_rc x18.2 2 v24 (D_X2_addSpan v24 v27 v30 v33 v36 x18.2)) (fun z38 M37 => (f19 ((x18.1 + 1), M37)))))))))))))))))))))))))))))))))))) xv_fuel ((0 : Int), M2) = some (((N + 1 : Nat) : Int), M') ∧ CAct a H k M1 M' (some (rRow a t n (N + 1))) by
    obtain ⟨M', e, c⟩ := L
    refine ⟨M1, M', r1.scr, ?_, c⟩
    unfold D_X11_readSpans
    rw [xg_1_4 hO, xg_1_3 hO, xr_183 hO, d1, xe_call, if_pos hf, xe_cmp (by decide) (by decide) (by decide) (by decide), if_pos rfl, xg_1_4 o1, xr_183 o1, xm_allAre o1 hN s1 c1 hv, xe_call, xe_cmp (by decide) (by decide) (by decide) (by decide), if_pos (by decide)]
    rw [xg_1_0 o1, xg_2_0 o1, xg_3_1 o1, xg_4_0 o1, hz, xg_1_4 o1, xg_183_0 o1, s1, xe_cmp (by omega) (by omega) (by decide) (by decide), if_pos hr]
    rw [xg_1_1 o1, xg_1_0 o1, xg_2_0 o1, xr_39 o1, d2, xe_call, e]
  refine xe_inv0 (I := fun (i : Nat) (s : Int × xv_M) => s.1 = (i : Int) ∧ LN (rRow a t n i) s.2 ∧ Sm 39 1000 M2 s.2 ∧ FQ M2 s.2) (n := N + 1) (P := fun d => ∃ M', d = some (((N + 1 : Nat) : Int), M') ∧ CAct a H k M1 M' (some (rRow a t n (N + 1)))) (by omega) ⟨rfl, rc.1, Sm.rf, fq0 o2⟩ ?_ ?_
  · rintro i ⟨j, X⟩ hi ⟨hj, lx, sx, px⟩
    dsimp only at hj lx sx px ⊢
    subst hj
    have ox := lx.1.1
    have ei : ((i : Int)).toNat = i := Int.toNat_natCast i
    have sm : ∀ r j, 183 ≤ r → r ≤ 187 → xv_I X r j = xv_I M1 r j := fun r j q1 q2 => ((sx r j (by omega) (by omega)).1).trans ((f2.1 r j (by omega) (by omega)).1)
    have sz : xv_I X 183 0 = ((N + 1 : Nat) : Int) := (sm 183 0 (by decide) (by decide)).trans s1
    obtain ⟨e1, e2, e3, e4⟩ := (c1 i hi).mv (M' := X) (fun r q1 q2 => sm r i (by omega) q2)
    obtain ⟨i1, i2⟩ := ro i (by omega)
    obtain ⟨g, v⟩ := gv i hi
    have hb := tVok_b g v
    obtain ⟨M3, d3, l3, s3, p3⟩ := xm_addSpan hbc lx i1.1 (by omega) (l := tL t n (tPk t n i)) (r := tR t n (tPk t n i)) (t01 (tCh t n (tPk t n i) 91)) (t01 (tCh t n (tE t n (tPk t n i)) 93)) (by rw [tF_if, tG_if]; exact hb)
    rw [tF_if, tG_if] at l3
    refine ⟨((i : Int) + 1, M3), ⟨by show (i : Int) + 1 = ((i + 1 : Nat) : Int); omega, l3, sx.tr s3, px.tr p3⟩, fun f => ?_⟩
    rw [xg_1_4 ox, xg_183_0 ox, sz, xe_cmp (by omega) (by omega) (by omega) (by omega), if_neg (by omega), xg_1_0 ox, xg_1_4 ox, xg_183_1 ox, xa_184 ox (by omega) (by omega), ei, e1, xg_1_4 ox, xg_183_2 ox, xa_185 ox (by omega) (by omega), ei, e2, xg_1_4 ox, xg_183_3 ox, xa_186 ox (by omega) (by omega), ei, e3, xg_1_4 ox, xg_183_4 ox, xa_187 ox (by omega) (by omega), ei, e4, xr_2 ox, d3, xe_call]
  · rintro ⟨j, X⟩ ⟨hj, lx, sx, px⟩ f
    dsimp only at hj lx sx px ⊢
    subst hj
    have ox := lx.1.1
    have sz : xv_I X 183 0 = ((N + 1 : Nat) : Int) := (((sx 183 0 (by omega) (by omega)).1).trans ((f2.1 183 0 (by omega) (by omega)).1)).trans s1
    obtain ⟨cl, fr⟩ := xc_fin rc h.2.2.2.1 lx (ro (N + 1) (Nat.le_refl _)).1 sx px
    rw [xg_1_4 ox, xg_183_0 ox, sz, xe_cmp (by omega) (by omega) (by omega) (by omega), if_pos (by omega), xg_1_4 ox, xg_183_0 ox, sz]
    exact ⟨X, rfl, cl, f2.tr fr⟩
end TXS
/-! type, clearText -/
theorem ok_type {M : xv_M} (hi : INV M) {c : Int} (hc : 0 ≤ c ∧ c ≤ 65535) : ok2 (D_X11_type 1 c) (D_X12_type 188 c) M := by
  have hO := hi.ok
  obtain ⟨k, hk, cl, sl, tx⟩ := hi
  obtain ⟨n, hn, h1, h2, h3⟩ := tx
  have in1 : ((n : Int)).toNat = n := Int.toNat_natCast n
  by_cases e : n = 60
  · refine ⟨-3, M, M, hO, ?_, ?_, k, hk, cl, sl, n, hn, h1, h2, h3⟩
    · unfold D_X11_type D_X7_append
      rw [xg_1_3 hO, xr_181 hO, xg_181_0 hO, h1, xe_cmp (by omega) (by omega) (by decide) (by decide), if_neg (by omega), xe_g0, xe_call, xe_cmp (by decide) (by decide) (by decide) (by decide), if_pos rfl]
    · unfold D_X12_type
      rw [xg_188_5 hO, h2, xe_cmp (by omega) (by omega) (by decide) (by decide), if_neg (by omega)]
  · obtain ⟨M1, hM1⟩ : ∃ M1, M1 = xv_sI M 182 n c := ⟨_, rfl⟩
    obtain ⟨M2, hM2⟩ : ∃ M2, M2 = xv_sI M1 181 0 ((n : Int) + 1) := ⟨_, rfl⟩
    obtain ⟨M3, hM3⟩ : ∃ M3, M3 = xv_sI M2 192 n c := ⟨_, rfl⟩
    obtain ⟨M4, hM4⟩ : ∃ M4, M4 = xv_sI M3 188 5 ((n : Int) + 1) := ⟨_, rfl⟩
    have o1 : xl_OK M1 := by rw [hM1]; exact hO
    have o2 : xl_OK M2 := by rw [hM2]; exact o1
    have o3 : xl_OK M3 := by rw [hM3]; exact o2
    have o4 : xl_OK M4 := by rw [hM4]; exact o3
    have q1 : xv_I M1 181 0 = (n : Int) := by rw [hM1, xe_I_sI, if_neg (by omega)]; exact h1
    have q2 : xv_I M2 181 0 = (n : Int) + 1 := by rw [hM2, xe_I_sI, if_pos ⟨rfl, rfl⟩]
    have q3 : xv_I M2 188 5 = (n : Int) := by rw [hM2, xe_I_sI, if_neg (by omega), hM1, xe_I_sI, if_neg (by omega)]; exact h2
    have q4 : xv_I M3 188 5 = (n : Int) := by rw [hM3, xe_I_sI, if_neg (by omega)]; exact q3
    have q5 : xv_I M4 188 5 = (n : Int) + 1 := by rw [hM4, xe_I_sI, if_pos ⟨rfl, rfl⟩]
    have fr : ∀ r j, r ≠ 181 → r ≠ 182 → r ≠ 192 → ¬ (r = 188 ∧ j = 5) → xv_I M4 r j = xv_I M r j := fun r j z1 z2 z3 z4 => by
      rw [hM4, xe_I_sI, if_neg (by omega), hM3, xe_I_sI, if_neg (by omega), hM2, xe_I_sI, if_neg (by omega), hM1, xe_I_sI, if_neg (by omega)]
    have sm : ∀ l u, u < 181 → Sm l u M M4 := fun l u z r j z1 z2 => ⟨fr r j (by omega) (by omega) (by omega) (by omega), by rw [hM4, hM3, hM2, hM1]; rfl⟩
    have e189 : xv_I M4 189 = xv_I M 189 := funext fun j => fr 189 j (by decide) (by decide) (by decide) (by omega)
    have e190 : xv_I M4 190 = xv_I M 190 := funext fun j => fr 190 j (by decide) (by decide) (by decide) (by omega)
    have e191 : xv_I M4 191 = xv_I M 191 := funext fun j => fr 191 j (by decide) (by decide) (by decide) (by omega)
    refine ⟨(n : Int) + 1, M2, M4, o2, ?_, ?_, k, (fr 188 2 (by decide) (by decide) (by decide) (by decide)).trans hk, ?_, ?_, n + 1, by omega, ?_, ?_, ?_⟩
    · unfold D_X11_type D_X7_append
      rw [xg_1_3 hO, xr_181 hO, xg_181_0 hO, h1, xe_cmp (by omega) (by omega) (by decide) (by decide), if_pos (by omega), xg_181_1 hO, xg_181_0 hO, h1, xw_182 hO (by omega) (by omega) hc.1 hc.2, in1, ← hM1, xg_181_0 o1, q1, xu_181_0 o1, ← hM2, xe_g1, xe_call, xe_cmp (by decide) (by decide) (by decide) (by decide), if_neg (by decide), xg_1_3 o2, xg_181_0 o2, q2]
    · unfold D_X12_type
      rw [xg_188_5 o2, q3, xe_cmp (by omega) (by omega) (by decide) (by decide), if_pos (by omega), xg_188_6 o2, xg_188_5 o2, q3, xw_192 o2 (by omega) (by omega) hc.1 hc.2, in1, ← hM3, xg_188_5 o3, q4, xu_188_5 o3, ← hM4, xg_188_5 o4, q5]
    · rw [e189, e190]
      exact cl.fr o4 (by rw [hM4, hM3, hM2, hM1]; rfl) (sm _ _ (by omega))
    · exact sl.fr (fr 188 4 (by decide) (by decide) (by decide) (by decide)) (fr 1 5 (by decide) (by decide) (by decide) (by decide)) (sm _ _ (by omega)) e191
    · rw [hM4, xe_I_sI, if_neg (by omega), hM3, xe_I_sI, if_neg (by omega), q2]; omega
    · rw [q5]; omega
    · intro i hi
      by_cases ei : i = n
      · subst ei
        have w1 : xv_I M4 182 i = c := by rw [hM4, xe_I_sI, if_neg (by omega), hM3, xe_I_sI, if_neg (by omega), hM2, xe_I_sI, if_neg (by omega), hM1, xe_I_sI, if_pos ⟨rfl, rfl⟩]
        have w2 : xv_I M4 192 i = c := by rw [hM4, xe_I_sI, if_neg (by omega), hM3, xe_I_sI, if_pos ⟨rfl, rfl⟩]
        rw [w1, w2]
        exact ⟨rfl, hc⟩
      · have w1 : xv_I M4 182 i = xv_I M 182 i := by rw [hM4, xe_I_sI, if_neg (by omega), hM3, xe_I_sI, if_neg (by omega), hM2, xe_I_sI, if_neg (by omega), hM1, xe_I_sI, if_neg (by omega)]
        have w2 : xv_I M4 192 i = xv_I M 192 i := by rw [hM4, xe_I_sI, if_neg (by omega), hM3, xe_I_sI, if_neg (by omega), hM2, xe_I_sI, if_neg (by omega), hM1, xe_I_sI, if_neg (by omega)]
        rw [w1, w2]
        exact h3 i (by omega)
theorem ok_clearText {M : xv_M} (hi : INV M) : ok2 (D_X11_clearText 1) (D_X12_clearText 188) M := by
  have hO := hi.ok
  obtain ⟨k, hk, cl, sl, tx⟩ := hi
  obtain ⟨n, hn, h1, h2, h3⟩ := tx
  obtain ⟨M1, hM1⟩ : ∃ M1, M1 = xv_sI M 181 0 0 := ⟨_, rfl⟩
  obtain ⟨M2, hM2⟩ : ∃ M2, M2 = xv_sI M1 188 5 0 := ⟨_, rfl⟩
  have o1 : xl_OK M1 := by rw [hM1]; exact hO
  have o2 : xl_OK M2 := by rw [hM2]; exact o1
  have q1 : xv_I M1 188 5 = (n : Int) := by rw [hM1, xe_I_sI, if_neg (by omega)]; exact h2
  have fr : ∀ r j, r ≠ 181 → ¬ (r = 188 ∧ j = 5) → xv_I M2 r j = xv_I M r j := fun r j z1 z2 => by
    rw [hM2, xe_I_sI, if_neg (by omega), hM1, xe_I_sI, if_neg (by omega)]
  have sm : ∀ l u, u < 181 → Sm l u M M2 := fun l u z r j z1 z2 => ⟨fr r j (by omega) (by omega), by rw [hM2, hM1]; rfl⟩
  have e189 : xv_I M2 189 = xv_I M 189 := funext fun j => fr 189 j (by decide) (by omega)
  have e190 : xv_I M2 190 = xv_I M 190 := funext fun j => fr 190 j (by decide) (by omega)
  have e191 : xv_I M2 191 = xv_I M 191 := funext fun j => fr 191 j (by decide) (by omega)
  refine ⟨(n : Int), M1, M2, o1, ?_, ?_, k, (fr 188 2 (by decide) (by decide)).trans hk, ?_, ?_, 0, by omega, ?_, ?_, fun i hi => absurd hi (Nat.not_lt_zero _)⟩
  · unfold D_X11_clearText
    rw [xg_1_3 hO, xg_181_0 hO, h1, xg_1_3 hO, xu_181_0 hO, ← hM1]
  · unfold D_X12_clearText
    rw [xg_188_5 o1, q1, xu_188_5 o1, ← hM2]
  · rw [e189, e190]
    exact cl.fr o2 (by rw [hM2, hM1]; rfl) (sm _ _ (by omega))
  · exact sl.fr (fr 188 4 (by decide) (by decide)) (fr 1 5 (by decide) (by decide)) (sm _ _ (by omega)) e191
  · rw [hM2, xe_I_sI, if_neg (by omega), hM1, xe_I_sI, if_pos ⟨rfl, rfl⟩]; rfl
  · rw [hM2, xe_I_sI, if_pos ⟨rfl, rfl⟩]; rfl
/-! ## the reference reads a row of spans -/
section TXM
variable {M : xv_M} {t : Nat → Int} {n : Nat}
theorem md_isDigit (h : xl_OK M) (tm : TM t n M) (tk : tOK t n) {p : Nat} (hp : p ≤ n) (hpos : xv_I M 188 7 = (p : Int)) : D_X12_isDigit 188 M = some (if tDig t n p then 1 else 0, M) := by
  have hn := tk.1
  unfold D_X12_isDigit
  rw [xg_188_7 h, hpos, xg_188_5 h, tm.1, xe_cmp (by omega) (by omega) (by omega) (by omega)]
  by_cases h1 : p < n
  · have ht := tk.2 p h1
    rw [if_neg (by omega), xg_188_6 h, xg_188_7 h, hpos, xa_192 h (by omega) (by omega), Int.toNat_natCast, tm.2 p h1, md_in (by omega) (by omega) (by omega), xe_call, xe_b0]
    by_cases h2 : 48 ≤ t p ∧ t p ≤ 57
    · rw [if_pos h2, if_pos ⟨h1, h2⟩, xe_g1]
    · rw [if_neg h2, if_neg (fun z => h2 z.2), xe_g0]
  · rw [if_pos (by omega), if_neg (fun z => h1 z.1), xe_g0]
theorem md_takes (h : xl_OK M) (tm : TM t n M) (tk : tOK t n) {p : Nat} (hp : p ≤ n) (hpos : xv_I M 188 7 = (p : Int)) {c : Int} (hc : 0 ≤ c ∧ c ≤ 65535) : D_X12_takes 188 c M = some (if tCh t n p c then 1 else 0, if tCh t n p c then xv_sI M 188 7 ((p : Int) + 1) else M) := by
  have hn := tk.1
  unfold D_X12_takes
  rw [xg_188_7 h, hpos, xg_188_5 h, tm.1, xe_cmp (by omega) (by omega) (by omega) (by omega)]
  by_cases h1 : p < n
  · have ht := tk.2 p h1
    rw [if_neg (by omega), xg_188_6 h, xg_188_7 h, hpos, xa_192 h (by omega) (by omega), Int.toNat_natCast, tm.2 p h1, xe_cmp (by omega) (by omega) (by omega) (by omega)]
    by_cases h2 : t p = c
    · have h3 : tCh t n p c := ⟨h1, h2⟩
      rw [if_pos h2, if_pos h3, if_pos h3, xg_188_7 h, hpos, xu_188_7 h, xe_g1]
    · have h3 : ¬ tCh t n p c := fun z => h2 z.2
      rw [if_neg h2, if_neg h3, if_neg h3, xe_g0]
  · have h3 : ¬ tCh t n p c := fun z => h1 z.1
    rw [if_pos (by omega), if_neg h3, if_neg h3, xe_g0]
/-- behind k digits -/
def mNum (M : xv_M) (t : Nat → Int) (p k : Nat) : xv_M := xv_sI (xv_sI M 188 8 (tNv t p k)) 188 7 ((p + k : Nat) : Int)
theorem mNum_md {p k : Nat} : MdF M (mNum M t p k) := (MdF.sI (by decide)).tr (MdF.sI (by decide))
theorem mNum_8 {p k : Nat} : xv_I (mNum M t p k) 188 8 = tNv t p k := by
  unfold mNum
  rw [xe_I_sI, if_neg (by decide), xe_I_sI, if_pos ⟨rfl, rfl⟩]
theorem mNum_7 {p k : Nat} : xv_I (mNum M t p k) 188 7 = ((p + k : Nat) : Int) := by
  unfold mNum
  rw [xe_I_sI, if_pos ⟨rfl, rfl⟩]
theorem md_takesNumber0 (h : xl_OK M) (tm : TM t n M) (tk : tOK t n) {p : Nat} (hp : p ≤ n) (hpos : xv_I M 188 7 = (p : Int)) (hL : tNl t n p = 0) : D_X12_takesNumber 188 M = some (0, M) := by
  obtain ⟨s1, s2, s3⟩ := tNl_spec t n p
  rw [hL] at s2
  have hd : ¬ tDig t n p := fun z => s2 ⟨by decide, z, Or.inl rfl⟩
  unfold D_X12_takesNumber
  rw [xr_188 h, md_isDigit h tm tk hp hpos, xe_call, if_neg hd, xe_cmp (by decide) (by decide) (by decide) (by decide), if_neg (by decide), xe_g0]
theorem md_takesNumber1 (h : xl_OK M) (tm : TM t n M) (tk : tOK t n) {p : Nat} (hp : p ≤ n) (hpos : xv_I M 188 7 = (p : Int)) (hL : tNl t n p ≠ 0) : D_X12_takesNumber 188 M = some (1, mNum M t p (tNl t n p)) := by
  have hn := tk.1
  obtain ⟨s1, s2, s3⟩ := tNl_spec t n p
  have hle := tNl_le (t := t) hp
  have bb : ∀ k, k ≤ tNl t n p → 0 ≤ tNv t p k ∧ tNv t p k ≤ 9999 := fun k hk => tNv_bb hk
  generalize tNl t n p = L at *
  have hd : tDig t n p := (s1 0 (by omega)).2.1
  have hpn := hd.1
  have hO : ∀ k, xl_OK (mNum M t p k) := fun _ => h
  have hT : ∀ k, TM t n (mNum M t p k) := fun k => tm.md mNum_md
  have e1 : t p - 48 = tNv t p 1 := by
    show t p - 48 = 10 * 0 + (t (p + 0) - 48)
    rw [Nat.add_zero]
    omega
  have i8 : xv_I (xv_sI M 188 8 (tNv t p 1)) 188 7 = (p : Int) := by rw [xe_I_sI, if_neg (by decide)]; exact hpos
  have eM : xv_sI (xv_sI M 188 8 (tNv t p 1)) 188 7 ((p : Int) + 1) = mNum M t p 1 := by
    unfold mNum
    rw [show ((p : Int) + 1) = ((p + 1 : Nat) : Int) by omega]
  unfold D_X12_takesNumber
  rw [xr_188 h, md_isDigit h tm tk hp hpos, xe_call, if_pos hd, xe_cmp (by decide) (by decide) (by decide) (by decide), if_pos (by decide), xg_188_6 h, xg_188_7 h, hpos, xa_192 h (by omega) (by omega), Int.toNat_natCast, tm.2 p hd.1, xu_188_8 h, e1, xg_188_7 (M := xv_sI M 188 8 (tNv t p 1)) h, i8, xu_188_7 (M := xv_sI M 188 8 (tNv t p 1)) h, eM]
  refine xe_loop (n := L - 1) (fun k => (((k + 1 : Nat) : Int), mNum M t p (k + 1))) rfl (by omega) ?_ ?_
  · intro k hk f
    obtain ⟨c1, c2, c3⟩ := s1 (k + 1) (by omega)
    have b := bb (k + 1) (by omega)
    have hc2 := c2.1
    try dsimp only
    have eN : xv_sI (xv_sI (mNum M t p (k + 1)) 188 8 (tNv t p (k + 1 + 1))) 188 7 (((p + (k + 1) : Nat) : Int) + 1) = mNum M t p (k + 1 + 1) := by
      rw [show (((p + (k + 1) : Nat) : Int) + 1) = ((p + (k + 1 + 1) : Nat) : Int) by omega]
      unfold mNum
      rw [tx_78]
    have ev : 10 * tNv t p (k + 1) + t (p + (k + 1)) - 48 = tNv t p (k + 1 + 1) := by
      show _ = 10 * tNv t p (k + 1) + (t (p + (k + 1)) - 48)
      omega
    have j8 : xv_I (xv_sI (mNum M t p (k + 1)) 188 8 (tNv t p (k + 1 + 1))) 188 7 = ((p + (k + 1) : Nat) : Int) := by rw [xe_I_sI, if_neg (by decide)]; exact mNum_7
    rw [xe_cmp (by omega) (by omega) (by decide) (by decide), if_neg (by omega), xg_188_8 (hO _), mNum_8, xe_cmp (by omega) (by omega) (by decide) (by decide), if_neg (by omega), xr_188 (hO _), md_isDigit (hO _) (hT _) tk (by omega) mNum_7, xe_call, if_pos c2, xe_cmp (by decide) (by decide) (by decide) (by decide), if_neg (by decide), xg_188_8 (hO _), mNum_8, xg_188_6 (hO _), xg_188_7 (hO _), mNum_7, xa_192 (hO _) (by omega) (by omega), Int.toNat_natCast, (hT _).2 _ c2.1, ev, xu_188_8 (hO _), xg_188_7 (M := xv_sI (mNum M t p (k + 1)) 188 8 (tNv t p (k + 1 + 1))) h, j8, xu_188_7 (M := xv_sI (mNum M t p (k + 1)) 188 8 (tNv t p (k + 1 + 1))) h, eN]
    exact congrArg f (Prod.ext (by show ((k + 1 : Nat) : Int) + 1 = ((k + 1 + 1 : Nat) : Int); omega) rfl)
  · intro f
    have eL : L - 1 + 1 = L := by omega
    have b := bb L (Nat.le_refl _)
    try dsimp only
    rw [eL, xe_cmp (by omega) (by omega) (by decide) (by decide)]
    by_cases c1 : (4 : Int) ≤ (L : Int)
    · rw [if_pos c1, xe_g1]
    · rw [if_neg c1, xg_188_8 (hO _), mNum_8, xe_cmp (by omega) (by omega) (by decide) (by decide)]
      by_cases c2 : tNv t p L ≤ 0
      · rw [if_pos c2, xe_g1]
      · have c3 : ¬ tDig t n (p + L) := fun z => s2 ⟨by omega, z, Or.inr (by omega)⟩
        rw [if_neg c2, xr_188 (hO _), md_isDigit (hO _) (hT _) tk hle mNum_7, xe_call, if_neg c3, xe_cmp (by decide) (by decide) (by decide) (by decide), if_pos rfl, xe_g1]
/-- the span that begins at p, as the reference has it -/
def MC4 (t : Nat → Int) (n p : Nat) (M : xv_M) : Prop := xv_I M 188 9 = tL t n p ∧ xv_I M 188 10 = tR t n p ∧ xv_I M 188 11 = tF t n p ∧ xv_I M 188 12 = tG t n p
theorem md_takesSpan (h : xl_OK M) (tm : TM t n M) (tk : tOK t n) {p : Nat} (hp : p ≤ n) (hpos : xv_I M 188 7 = (p : Int)) : ∃ M', D_X12_takesSpan 188 M = some (if tGood t n p then 1 else 0, M') ∧ MdF M M' ∧ xv_I M' 188 7 = (tEnd t n p : Int) ∧ (tGood t n p → MC4 t n p M') := by
  have hn := tk.1
  unfold D_X12_takesSpan
  rw [xr_188 h, md_takes h tm tk hp hpos (by decide), xe_call]
  obtain ⟨M1, hM1⟩ : ∃ M1, M1 = xv_sI M 188 7 ((p : Int) + 1) := ⟨_, rfl⟩
  have r1 : MdF M M1 := by rw [hM1]; exact MdF.sI (by decide)
  have o1 : xl_OK M1 := r1.ok h
  have t1 : TM t n M1 := tm.md r1
  have p1 : xv_I M1 188 7 = ((p + 1 : Nat) : Int) := by rw [hM1, xe_I_sI, if_pos ⟨rfl, rfl⟩]; omega
  refine xe_letR (fun d => ∃ M', d = some (if tGood t n p then 1 else 0, M') ∧ MdF M M' ∧ xv_I M' 188 7 = (tEnd t n p : Int) ∧ (tGood t n p → MC4 t n p M')) (fun j => tOpn t n p → ∃ M', j M1 = some (if tGood t n p then 1 else 0, M') ∧ MdF M M' ∧ xv_I M' 188 7 = (tEnd t n p : Int) ∧ (tGood t n p → MC4 t n p M')) ?_ (fun j4 hj => ?_)
  · intro hop
    have bB := tB_le hop
    try dsimp only
    rw [xr_188 o1]
    have eB : p + 1 + tNl t n (p + 1) = tB t n p := rfl
    by_cases c0 : tNl t n (p + 1) = 0
    · have hng : ¬ tGood t n p := fun z => z.2.1.1 c0
      have ee : tEnd t n p = p + 1 := by
        unfold tEnd
        rw [if_pos hop, if_neg (fun z => z.1 c0), ← eB, c0]
      rw [md_takesNumber0 o1 t1 tk (by omega) p1 c0, xe_call, xe_cmp (by decide) (by decide) (by decide) (by decide), if_neg (by decide), xe_g0, if_neg hng, ee]
      exact ⟨M1, rfl, r1, p1, fun z => absurd z hng⟩
    · have eL : tL t n p = tNv t (p + 1) (tNl t n (p + 1)) := by
        unfold tL tNum
        rw [if_neg c0]
      rw [md_takesNumber1 o1 t1 tk (by omega) p1 c0, xe_call, xe_cmp (by decide) (by decide) (by decide) (by decide), if_pos (by decide)]
      obtain ⟨M5, hM5⟩ : ∃ M5, M5 = mNum M1 t (p + 1) (tNl t n (p + 1)) := ⟨_, rfl⟩
      rw [← hM5]
      have r5 : MdF M M5 := by rw [hM5]; exact r1.tr mNum_md
      have o5 : xl_OK M5 := r5.ok h
      have p5 : xv_I M5 188 7 = (tB t n p : Int) := by rw [hM5, mNum_7, eB]
      have v5 : xv_I M5 188 8 = tL t n p := by rw [hM5, mNum_8, eL]
      rw [xg_188_8 o5, v5, xu_188_9 o5]
      obtain ⟨M8, hM8⟩ : ∃ M8, M8 = xv_sI M5 188 9 (tL t n p) := ⟨_, rfl⟩
      rw [← hM8]
      have r8 : MdF M M8 := by rw [hM8]; exact r5.tr (MdF.sI (by decide))
      have o8 : xl_OK M8 := r8.ok h
      have v8 : xv_I M8 188 9 = tL t n p := by rw [hM8, xe_I_sI, if_pos ⟨rfl, rfl⟩]
      have p8 : xv_I M8 188 7 = (tB t n p : Int) := by rw [hM8, xe_I_sI, if_neg (by decide)]; exact p5
      have eF : tF t n p = if tCh t n p 40 then tL t n p + 1 else tL t n p := by
        unfold tF
        by_cases c1 : tCh t n p 91
        · have c2 : ¬ tCh t n p 40 := fun z => by have := z.2; have := c1.2; omega
          rw [if_pos c1, if_neg c2]
        · rcases hop with z | z
          · exact absurd z c1
          · rw [if_neg c1, if_pos z]
      refine xe_letR (fun d => ∃ M', d = some (if tGood t n p then 1 else 0, M') ∧ MdF M M' ∧ xv_I M' 188 7 = (tEnd t n p : Int) ∧ (tGood t n p → MC4 t n p M')) (fun j => ∃ M', j (188, tF t n p) = some (if tGood t n p then 1 else 0, M') ∧ MdF M M' ∧ xv_I M' 188 7 = (tEnd t n p : Int) ∧ (tGood t n p → MC4 t n p M')) ?_ (fun j10 hj => ?_)
      · try dsimp only
        rw [xu_188_11 o8]
        obtain ⟨M11, hM11⟩ : ∃ M11, M11 = xv_sI M8 188 11 (tF t n p) := ⟨_, rfl⟩
        rw [← hM11]
        have r11 : MdF M M11 := by rw [hM11]; exact r8.tr (MdF.sI (by decide))
        have o11 : xl_OK M11 := r11.ok h
        have t11 : TM t n M11 := tm.md r11
        have p11 : xv_I M11 188 7 = (tB t n p : Int) := by rw [hM11, xe_I_sI, if_neg (by decide)]; exact p8
        have v11 : xv_I M11 188 9 = tL t n p := by rw [hM11, xe_I_sI, if_neg (by decide)]; exact v8
        have w11 : xv_I M11 188 11 = tF t n p := by rw [hM11, xe_I_sI, if_pos ⟨rfl, rfl⟩]
        rw [xr_188 o11, md_takes o11 t11 tk bB.2 p11 (by decide), xe_call]
        by_cases c1 : tCh t n (tB t n p) 44
        · have hmid : tMid t n p := ⟨c0, c1⟩
          have bE := tE_le hmid
          rw [if_pos c1, if_pos c1, xe_cmp (by decide) (by decide) (by decide) (by decide), if_neg (by decide)]
          obtain ⟨M12, hM12⟩ : ∃ M12, M12 = xv_sI M11 188 7 ((tB t n p : Int) + 1) := ⟨_, rfl⟩
          rw [← hM12]
          have r12 : MdF M M12 := by rw [hM12]; exact r11.tr (MdF.sI (by decide))
          have o12 : xl_OK M12 := r12.ok h
          have t12 : TM t n M12 := tm.md r12
          have p12 : xv_I M12 188 7 = ((tB t n p + 1 : Nat) : Int) := by rw [hM12, xe_I_sI, if_pos ⟨rfl, rfl⟩]; omega
          have eE : tB t n p + 1 + tNl t n (tB t n p + 1) = tE t n p := rfl
          rw [xr_188 o12]
          by_cases c2 : tNl t n (tB t n p + 1) = 0
          · have hng : ¬ tGood t n p := fun z => z.2.2.1 c2
            have ee : tEnd t n p = tB t n p + 1 := by
              unfold tEnd
              rw [if_pos hop, if_pos hmid, if_neg (fun z => z.1 c2), ← eE, c2]
            rw [md_takesNumber0 o12 t12 tk c1.1 p12 c2, xe_call, xe_cmp (by decide) (by decide) (by decide) (by decide), if_neg (by decide), xe_g0, if_neg hng, ee]
            exact ⟨M12, rfl, r12, p12, fun z => absurd z hng⟩
          · have eR : tR t n p = tNv t (tB t n p + 1) (tNl t n (tB t n p + 1)) := by
              unfold tR tNum
              rw [if_neg c2]
            rw [md_takesNumber1 o12 t12 tk c1.1 p12 c2, xe_call, xe_cmp (by decide) (by decide) (by decide) (by decide), if_pos (by decide)]
            obtain ⟨M14, hM14⟩ : ∃ M14, M14 = mNum M12 t (tB t n p + 1) (tNl t n (tB t n p + 1)) := ⟨_, rfl⟩
            rw [← hM14]
            have r14 : MdF M M14 := by rw [hM14]; exact r12.tr mNum_md
            have o14 : xl_OK M14 := r14.ok h
            have p14 : xv_I M14 188 7 = (tE t n p : Int) := by rw [hM14, mNum_7, eE]
            have v14 : xv_I M14 188 8 = tR t n p := by rw [hM14, mNum_8, eR]
            have k14 : ∀ j, (j = 9 ∨ j = 11) → xv_I M14 188 j = xv_I M11 188 j := fun j hj => by
              rw [hM14]
              unfold mNum
              rw [xe_I_sI, if_neg (by omega), xe_I_sI, if_neg (by omega), hM12, xe_I_sI, if_neg (by omega)]
            rw [xg_188_8 o14, v14, xu_188_10 o14]
            obtain ⟨M17, hM17⟩ : ∃ M17, M17 = xv_sI M14 188 10 (tR t n p) := ⟨_, rfl⟩
            rw [← hM17]
            have r17 : MdF M M17 := by rw [hM17]; exact r14.tr (MdF.sI (by decide))
            have o17 : xl_OK M17 := r17.ok h
            have t17 : TM t n M17 := tm.md r17
            have p17 : xv_I M17 188 7 = (tE t n p : Int) := by rw [hM17, xe_I_sI, if_neg (by decide)]; exact p14
            have a17 : xv_I M17 188 9 = tL t n p := by rw [hM17, xe_I_sI, if_neg (by decide), k14 9 (Or.inl rfl)]; exact v11
            have b17 : xv_I M17 188 11 = tF t n p := by rw [hM17, xe_I_sI, if_neg (by decide), k14 11 (Or.inr rfl)]; exact w11
            have c17 : xv_I M17 188 10 = tR t n p := by rw [hM17, xe_I_sI, if_pos ⟨rfl, rfl⟩]
            rw [xr_188 o17, md_takes o17 t17 tk bE.2 p17 (by decide), xe_call]
            by_cases c3 : tCh t n (tE t n p) 41
            · have n3 : ¬ tCh t n (tE t n p) 93 := fun z => by have := z.2; have := c3.2; omega
              have hcl : tCls t n p := ⟨c2, Or.inr c3⟩
              have hg : tGood t n p := ⟨hop, hmid, hcl⟩
              have ee : tEnd t n p = tE t n p + 1 := (tEnd_good hg).1
              have eG : tG t n p = tR t n p - 1 := by unfold tG; rw [if_neg n3]
              rw [if_pos c3, if_pos c3]
              obtain ⟨M18, hM18⟩ : ∃ M18, M18 = xv_sI M17 188 7 ((tE t n p : Int) + 1) := ⟨_, rfl⟩
              rw [← hM18]
              have r18 : MdF M M18 := by rw [hM18]; exact r17.tr (MdF.sI (by decide))
              have o18 : xl_OK M18 := r18.ok h
              have c18 : xv_I M18 188 10 = tR t n p := by rw [hM18, xe_I_sI, if_neg (by decide)]; exact c17
              refine xe_letR (fun d => ∃ M', d = some (if tGood t n p then 1 else 0, M') ∧ MdF M M' ∧ xv_I M' 188 7 = (tEnd t n p : Int) ∧ (tGood t n p → MC4 t n p M')) (fun j => ∃ M', j (188, tG t n p) = some (if tGood t n p then 1 else 0, M') ∧ MdF M M' ∧ xv_I M' 188 7 = (tEnd t n p : Int) ∧ (tGood t n p → MC4 t n p M')) ?_ (fun j21 hj => ?_)
              · try dsimp only
                rw [xu_188_12 o18, xe_cmp (by decide) (by decide) (by decide) (by decide), if_pos (by decide), xe_g1, if_pos hg, ee]
                refine ⟨_, rfl, r18.tr (MdF.sI (by decide)), ?_, fun _ => ⟨?_, ?_, ?_, ?_⟩⟩
                · rw [xe_I_sI, if_neg (by decide), hM18, xe_I_sI, if_pos ⟨rfl, rfl⟩]; omega
                · rw [xe_I_sI, if_neg (by decide), hM18, xe_I_sI, if_neg (by decide)]; exact a17
                · rw [xe_I_sI, if_neg (by decide)]; exact c18
                · rw [xe_I_sI, if_neg (by decide), hM18, xe_I_sI, if_neg (by decide)]; exact b17
                · rw [xe_I_sI, if_pos ⟨rfl, rfl⟩]
              · rw [xe_cmp (by decide) (by decide) (by decide) (by decide), if_neg (by decide), xg_188_10 o18, c18, ← eG]
                exact hj
            · have eG : tCls t n p → tG t n p = tR t n p := fun z => by
                rcases z.2 with y | y
                · unfold tG
                  rw [if_pos y]
                · exact absurd y c3
              rw [if_neg c3, if_neg c3]
              refine xe_letR (fun d => ∃ M', d = some (if tGood t n p then 1 else 0, M') ∧ MdF M M' ∧ xv_I M' 188 7 = (tEnd t n p : Int) ∧ (tGood t n p → MC4 t n p M')) (fun j => ∃ M', j (188, tR t n p) = some (if tGood t n p then 1 else 0, M') ∧ MdF M M' ∧ xv_I M' 188 7 = (tEnd t n p : Int) ∧ (tGood t n p → MC4 t n p M')) ?_ (fun j21 hj => ?_)
              · try dsimp only
                rw [xu_188_12 o17, xe_cmp (by decide) (by decide) (by decide) (by decide), if_neg (by decide)]
                obtain ⟨M22, hM22⟩ : ∃ M22, M22 = xv_sI M17 188 12 (tR t n p) := ⟨_, rfl⟩
                rw [← hM22]
                have r22 : MdF M M22 := by rw [hM22]; exact r17.tr (MdF.sI (by decide))
                have o22 : xl_OK M22 := r22.ok h
                have t22 : TM t n M22 := tm.md r22
                have p22 : xv_I M22 188 7 = (tE t n p : Int) := by rw [hM22, xe_I_sI, if_neg (by decide)]; exact p17
                rw [xr_188 o22, md_takes o22 t22 tk bE.2 p22 (by decide), xe_call]
                by_cases c4 : tCh t n (tE t n p) 93
                · have hcl : tCls t n p := ⟨c2, Or.inl c4⟩
                  have hg : tGood t n p := ⟨hop, hmid, hcl⟩
                  have ee : tEnd t n p = tE t n p + 1 := (tEnd_good hg).1
                  rw [if_pos c4, if_pos c4, xe_cmp (by decide) (by decide) (by decide) (by decide), if_neg (by decide), xe_g1, if_pos hg, ee]
                  refine ⟨_, rfl, r22.tr (MdF.sI (by decide)), ?_, fun _ => ⟨?_, ?_, ?_, ?_⟩⟩
                  · rw [xe_I_sI, if_pos ⟨rfl, rfl⟩]; omega
                  · rw [xe_I_sI, if_neg (by decide), hM22, xe_I_sI, if_neg (by decide)]; exact a17
                  · rw [xe_I_sI, if_neg (by decide), hM22, xe_I_sI, if_neg (by decide)]; exact c17
                  · rw [xe_I_sI, if_neg (by decide), hM22, xe_I_sI, if_neg (by decide)]; exact b17
                  · rw [xe_I_sI, if_neg (by decide), hM22, xe_I_sI, if_pos ⟨rfl, rfl⟩, eG hcl]
                · have hnc : ¬ tCls t n p := fun z => by
                    rcases z.2 with y | y
                    · exact c4 y
                    · exact c3 y
                  have hng : ¬ tGood t n p := fun z => hnc z.2.2
                  have ee : tEnd t n p = tE t n p := by
                    unfold tEnd
                    rw [if_pos hop, if_pos hmid, if_neg hnc]
                  rw [if_neg c4, if_neg c4, xe_cmp (by decide) (by decide) (by decide) (by decide), if_pos rfl, xe_g0, if_neg hng, ee]
                  exact ⟨M22, rfl, r22, p22, fun z => absurd z hng⟩
              · rw [xe_cmp (by decide) (by decide) (by decide) (by decide), if_pos rfl, xg_188_10 o17, c17]
                exact hj
        · have hnm : ¬ tMid t n p := fun z => c1 z.2
          have hng : ¬ tGood t n p := fun z => hnm z.2.1
          have ee : tEnd t n p = tB t n p := by
            unfold tEnd
            rw [if_pos hop, if_neg hnm]
          rw [if_neg c1, if_neg c1, xe_cmp (by decide) (by decide) (by decide) (by decide), if_pos rfl, xe_g0, if_neg hng, ee]
          exact ⟨M11, rfl, r11, p11, fun z => absurd z hng⟩
      · by_cases c4 : tCh t n p 40
        · rw [if_pos c4, xe_cmp (by decide) (by decide) (by decide) (by decide), if_neg (by decide), xg_188_9 o8, v8]
          rw [eF, if_pos c4] at hj
          exact hj
        · rw [if_neg c4, xe_cmp (by decide) (by decide) (by decide) (by decide), if_pos rfl, xg_188_9 o8, v8]
          rw [eF, if_neg c4] at hj
          exact hj
  · by_cases c1 : tCh t n p 40
    · rw [if_pos c1, if_pos c1, ← hM1, xe_cmp (by decide) (by decide) (by decide) (by decide), if_pos (by decide)]
      exact hj (Or.inr c1)
    · rw [if_neg c1, if_neg c1, xe_cmp (by decide) (by decide) (by decide) (by decide), if_neg (by decide), xr_188 h, md_takes h tm tk hp hpos (by decide), xe_call]
      by_cases c2 : tCh t n p 91
      · rw [if_pos c2, if_pos c2, ← hM1, xe_cmp (by decide) (by decide) (by decide) (by decide), if_pos (by decide)]
        exact hj (Or.inl c2)
      · have hno : ¬ tOpn t n p := fun z => by
          rcases z with y | y
          · exact c2 y
          · exact c1 y
        have hng : ¬ tGood t n p := fun z => hno z.1
        have ee : tEnd t n p = p := by
          unfold tEnd
          rw [if_neg hno]
        rw [if_neg c2, if_neg c2, xe_cmp (by decide) (by decide) (by decide) (by decide), if_neg (by decide), xe_g0, if_neg hng, ee]
        exact ⟨M, rfl, MdF.rf, hpos, fun z => absurd z hng⟩
end TXM
/-! ## the reference: the row, all its spans added; readSpans of both -/
section TXN
variable {M : xv_M} {t : Nat → Int} {n : Nat}
theorem md_spansA (h : xl_OK M) (tm : TM t n M) (tk : tOK t n) {N : Nat} (hN : N ≤ 10) (hg : ∀ i, i < N → tGo t n i) (hx : ¬ tGo t n N) (hf : ¬ tFine t n N) : ∃ M', D_X12_spansOfText 188 M = some (-5, M') ∧ MdF M M' ∧ xv_I M' 188 7 = (tEnd t n (tPk t n N) : Int) := by
  have hn := tk.1
  unfold D_X12_spansOfText
  rw [xu_188_7 h]
  refine xe_inv0 (I := fun (k : Nat) (s : Int × Int × xv_M) => s.1 = (k : Int) ∧ s.2.1 = 1 ∧ MdF M s.2.2 ∧ xv_I s.2.2 188 7 = (tPk t n k : Int)) (n := N) (P := fun d => ∃ M', d = some (-5, M') ∧ MdF M M' ∧ xv_I M' 188 7 = (tEnd t n (tPk t n N) : Int)) (by omega) ⟨rfl, rfl, MdF.sI (by decide), by show xv_I (xv_sI M 188 7 0) 188 7 = _; rw [xe_I_sI, if_pos ⟨rfl, rfl⟩]; rfl⟩ ?_ ?_
  · rintro k ⟨i, b, X⟩ hk ⟨hi, hb, rx, px⟩
    dsimp only at hi hb rx px ⊢
    subst hi hb
    have ox := rx.ok h
    obtain ⟨_, b2⟩ := tPk_le k (fun i hi => hg i (by omega))
    obtain ⟨g1, g2⟩ := hg k hk
    obtain ⟨M4, d4, r4, p4, _⟩ := md_takesSpan ox (tm.md rx) tk b2 px
    have r4 := rx.tr r4
    have o4 := r4.ok h
    have t4 : xv_I M4 188 5 = (n : Int) := (tm.md r4).1
    have hlt := g2.1
    refine ⟨((k : Int) + 1, 1, xv_sI M4 188 7 ((tEnd t n (tPk t n k) : Int) + 1)), ⟨by show (k : Int) + 1 = ((k + 1 : Nat) : Int); omega, rfl, r4.tr (MdF.sI (by decide)), ?_⟩, fun f => ?_⟩
    · show xv_I (xv_sI M4 188 7 ((tEnd t n (tPk t n k) : Int) + 1)) 188 7 = ((tEnd t n (tPk t n k) + 1 : Nat) : Int)
      rw [xe_I_sI, if_pos ⟨rfl, rfl⟩]
      omega
    · rw [xe_cmp (by decide) (by decide) (by decide) (by decide), if_neg (by decide), xr_188 ox, d4, xe_call, if_pos g1, xe_cmp (by decide) (by decide) (by decide) (by decide), if_pos (by decide), xg_188_7 o4, p4, xg_188_5 o4, t4]
      refine xe_letp (fun j => j 1 = f ((k : Int) + 1, 1, xv_sI M4 188 7 ((tEnd t n (tPk t n k) : Int) + 1))) ?_ (fun j9 hj => ?_)
      · try dsimp only
        rw [xe_cmp (by decide) (by decide) (by decide) (by decide), if_neg (by decide), xr_188 o4, md_takes o4 (tm.md r4) tk (by omega) p4 (by decide), xe_call, if_pos g2, if_pos g2, xe_cmp (by decide) (by decide) (by decide) (by decide), if_pos (by decide)]
      · rw [xe_cmp (by omega) (by omega) (by omega) (by omega), if_neg (by omega), hj]
  · rintro ⟨i, b, X⟩ ⟨hi, hb, rx, px⟩ f
    dsimp only at hi hb rx px ⊢
    subst hi hb
    have ox := rx.ok h
    obtain ⟨_, b2⟩ := tPk_le N hg
    have b3 := tEnd_le (t := t) b2
    obtain ⟨M4, d4, r4, p4, _⟩ := md_takesSpan ox (tm.md rx) tk b2 px
    have r4 := rx.tr r4
    have o4 := r4.ok h
    have t4 : xv_I M4 188 5 = (n : Int) := (tm.md r4).1
    rw [xe_cmp (by decide) (by decide) (by decide) (by decide), if_neg (by decide), xr_188 ox, d4, xe_call]
    by_cases g1 : tGood t n (tPk t n N)
    · have e : tEnd t n (tPk t n N) ≠ n := fun z => hf ⟨g1, z⟩
      have g2 : ¬ tCh t n (tEnd t n (tPk t n N)) 59 := fun z => hx ⟨g1, z⟩
      rw [if_pos g1, xe_cmp (by decide) (by decide) (by decide) (by decide), if_pos (by decide), xg_188_7 o4, p4, xg_188_5 o4, t4]
      refine xe_letR (fun d => ∃ M', d = some (-5, M') ∧ MdF M M' ∧ xv_I M' 188 7 = (tEnd t n (tPk t n N) : Int)) (fun j => ∃ M', j 1 = some (-5, M') ∧ MdF M M' ∧ xv_I M' 188 7 = (tEnd t n (tPk t n N) : Int)) ?_ (fun j9 hj => ?_)
      · try dsimp only
        rw [xe_cmp (by decide) (by decide) (by decide) (by decide), if_neg (by decide), xr_188 o4, md_takes o4 (tm.md r4) tk (by omega) p4 (by decide), xe_call, if_neg g2, if_neg g2, xe_cmp (by decide) (by decide) (by decide) (by decide), if_neg (by decide)]
        exact ⟨M4, rfl, r4, p4⟩
      · rw [xe_cmp (by omega) (by omega) (by omega) (by omega), if_neg (by omega)]
        exact hj
    · rw [if_neg g1, xe_cmp (by decide) (by decide) (by decide) (by decide), if_neg (by decide)]
      exact ⟨M4, rfl, r4, p4⟩
theorem md_spansB (h : xl_OK M) (tm : TM t n M) (tk : tOK t n) {N : Nat} (hN : N ≤ 10) (hg : ∀ i, i < N → tGo t n i) (hf : tFine t n N) : ∃ M', D_X12_spansOfText 188 M = some (((N + 1 : Nat) : Int), M') ∧ MdF M M' := by
  have hn := tk.1
  unfold D_X12_spansOfText
  rw [xu_188_7 h]
  refine xe_inv0 (I := fun (k : Nat) (s : Int × Int × xv_M) => s.1 = (k : Int) ∧ s.2.1 = (if k ≤ N then 1 else 0) ∧ MdF M s.2.2 ∧ (k ≤ N → xv_I s.2.2 188 7 = (tPk t n k : Int))) (n := N + 1) (P := fun d => ∃ M', d = some (((N + 1 : Nat) : Int), M') ∧ MdF M M') (by omega) ⟨rfl, by show (1 : Int) = _; rw [if_pos (Nat.zero_le N)], MdF.sI (by decide), fun _ => by show xv_I (xv_sI M 188 7 0) 188 7 = _; rw [xe_I_sI, if_pos ⟨rfl, rfl⟩]; rfl⟩ ?_ ?_
  · rintro k ⟨i, b, X⟩ hk ⟨hi, hb, rx, px⟩
    dsimp only at hi hb rx px ⊢
    have hkN : k ≤ N := by omega
    rw [if_pos hkN] at hb
    subst hi hb
    have px := px hkN
    have ox := rx.ok h
    obtain ⟨_, b2⟩ := tPk_le k (fun i hi => hg i (by omega))
    have b3 := tEnd_le (t := t) b2
    obtain ⟨M4, d4, r4, p4, _⟩ := md_takesSpan ox (tm.md rx) tk b2 px
    have r4 := rx.tr r4
    have o4 := r4.ok h
    have t4 : xv_I M4 188 5 = (n : Int) := (tm.md r4).1
    by_cases eN : k = N
    · have g1 : tGood t n (tPk t n k) := by rw [eN]; exact hf.1
      have e2 : tEnd t n (tPk t n k) = n := by rw [eN]; exact hf.2
      refine ⟨((k : Int) + 1, 0, M4), ⟨by show (k : Int) + 1 = ((k + 1 : Nat) : Int); omega, by show (0 : Int) = _; rw [if_neg (by omega)], r4, fun z => absurd z (by omega)⟩, fun f => ?_⟩
      rw [xe_cmp (by decide) (by decide) (by decide) (by decide), if_neg (by decide), xr_188 ox, d4, xe_call, if_pos g1, xe_cmp (by decide) (by decide) (by decide) (by decide), if_pos (by decide), xg_188_7 o4, p4, xg_188_5 o4, t4]
      refine xe_letp (fun j => j 0 = f ((k : Int) + 1, 0, M4)) ?_ (fun j9 hj => ?_)
      · try dsimp only
        rw [xe_cmp (by decide) (by decide) (by decide) (by decide), if_pos rfl]
      · rw [xe_cmp (by omega) (by omega) (by omega) (by omega), if_pos (by omega), hj]
    · obtain ⟨g1, g2⟩ := hg k (by omega)
      have hlt := g2.1
      refine ⟨((k : Int) + 1, 1, xv_sI M4 188 7 ((tEnd t n (tPk t n k) : Int) + 1)), ⟨by show (k : Int) + 1 = ((k + 1 : Nat) : Int); omega, by show (1 : Int) = _; rw [if_pos (by omega)], r4.tr (MdF.sI (by decide)), fun _ => ?_⟩, fun f => ?_⟩
      · show xv_I (xv_sI M4 188 7 ((tEnd t n (tPk t n k) : Int) + 1)) 188 7 = ((tEnd t n (tPk t n k) + 1 : Nat) : Int)
        rw [xe_I_sI, if_pos ⟨rfl, rfl⟩]
        omega
      · rw [xe_cmp (by decide) (by decide) (by decide) (by decide), if_neg (by decide), xr_188 ox, d4, xe_call, if_pos g1, xe_cmp (by decide) (by decide) (by decide) (by decide), if_pos (by decide), xg_188_7 o4, p4, xg_188_5 o4, t4]
        refine xe_letp (fun j => j 1 = f ((k : Int) + 1, 1, xv_sI M4 188 7 ((tEnd t n (tPk t n k) : Int) + 1))) ?_ (fun j9 hj => ?_)
        · try dsimp only
          rw [xe_cmp (by decide) (by decide) (by decide) (by decide), if_neg (by decide), xr_188 o4, md_takes o4 (tm.md r4) tk (by omega) p4 (by decide), xe_call, if_pos g2, if_pos g2, xe_cmp (by decide) (by decide) (by decide) (by decide), if_pos (by decide)]
        · rw [xe_cmp (by omega) (by omega) (by omega) (by omega), if_neg (by omega), hj]
  · rintro ⟨i, b, X⟩ ⟨hi, hb, rx, px⟩ f
    dsimp only at hi hb rx px ⊢
    rw [if_neg (by omega)] at hb
    subst hi hb
    rw [xe_cmp (by decide) (by decide) (by decide) (by decide), if_pos rfl]
    exact ⟨X, rfl, rx⟩
/-- one span is taken again -/
theorem md_next (h : xl_OK M) (tm : TM t n M) (tk : tOK t n) {p : Nat} (hp : p ≤ n) (hpos : xv_I M 188 7 = (p : Int)) (hg : tGood t n p) : ∃ M1 M2, D_X12_takesSpan 188 M = some (1, M1) ∧ xl_OK M1 ∧ xv_I M1 188 7 = (tEnd t n p : Int) ∧ M2 = xv_sI M1 188 7 ((tEnd t n p : Int) + 1) ∧ xl_OK M2 ∧ MdF M M2 ∧ xv_I M2 188 7 = ((tEnd t n p + 1 : Nat) : Int) ∧ MC4 t n p M2 := by
  obtain ⟨M1, d1, r1, p1, c1⟩ := md_takesSpan h tm tk hp hpos
  rw [if_pos hg] at d1
  obtain ⟨c9, c10, c11, c12⟩ := c1 hg
  refine ⟨M1, _, d1, r1.ok h, p1, rfl, r1.ok h, r1.tr (MdF.sI (by decide)), ?_, ?_, ?_, ?_, ?_⟩
  · rw [xe_I_sI, if_pos ⟨rfl, rfl⟩]; omega
  · rw [xe_I_sI, if_neg (by decide)]; exact c9
  · rw [xe_I_sI, if_neg (by decide)]; exact c10
  · rw [xe_I_sI, if_neg (by decide)]; exact c11
  · rw [xe_I_sI, if_neg (by decide)]; exact c12
theorem md_rdA (h : xl_OK M) (tm : TM t n M) (tk : tOK t n) {N : Nat} (hN : N ≤ 10) (hg : ∀ i, i < N → tGo t n i) (hx : ¬ tGo t n N) (hf : ¬ tFine t n N) : ∃ M', D_X12_readSpans 188 M = some (-100 - (tEnd t n (tPk t n N) : Int), M') ∧ MdF M M' := by
  obtain ⟨M1, d1, r1, p1⟩ := md_spansA h tm tk hN hg hx hf
  have o1 := r1.ok h
  unfold D_X12_readSpans
  rw [xr_188 h, d1, xe_call, xe_cmp (by decide) (by decide) (by decide) (by decide), if_neg (by decide), xg_188_7 o1, p1]
  exact ⟨M1, rfl, r1⟩
/-- a span is asked for -/
theorem md_ask1 (h : xl_OK M) (tm : TM t n M) (tk : tOK t n) {p : Nat} (hp : p ≤ n) (hpos : xv_I M 188 7 = (p : Int)) (hg : tGood t n p) : ∃ M2, xl_OK M2 ∧ MdF M M2 ∧ xv_I M2 188 7 = ((tEnd t n p + 1 : Nat) : Int) ∧ ∀ (f : xv_M → Option (Int × xv_M)), (xv_call (xv_rc M 12 188 (D_X12_takesSpan 188 M)) (fun z23 M22 => (xv_gI M22 12 188 7 (fun v24 => (xv_pI M22 12 188 7 (v24 + (1 : Int)) (fun M25 => (xv_gI M25 12 188 9 (fun v26 => (xv_cmp v26 (1000 : Int) ((1000 : Int) < v26) (some ((-2 : Int), M25)) (xv_gI M25 12 188 10 (fun v27 => (xv_cmp v27 (1000 : Int) ((1000 : Int) < v27) (some ((-2 : Int), M25)) (xv_gI M25 12 188 10 (fun v28 => (xv_gI M25 12 188 9 (fun v29 => (xv_cmp v28 v29 (v28 < v29) (some ((-2 : Int), M25)) (xv_gI M25 12 188 11 (fun v30 => (xv_gI M25 12 188 12 (fun v31 => (xv_cmp v30 v31 (v30 ≤ v31) (f M25) (some ((-2 : Int), M25))))))))))))))))))))))) = if tVok t n p then f M2 else some (-2, M2) := by
  obtain ⟨M1, M2, d1, o1, p1, e2, o2, r2, p2, c9, c10, c11, c12⟩ := md_next h tm tk hp hpos hg
  obtain ⟨b1, b2, b3, b4⟩ := tLR_b t n p
  refine ⟨M2, o2, r2, p2, fun f => ?_⟩
  rw [xr_188 h, d1, xe_call, xg_188_7 o1, p1, xu_188_7 o1, ← e2, xg_188_9 o2, c9, xe_cmp (by omega) (by omega) (by decide) (by decide)]
  by_cases q1 : 1000 < tL t n p
  · rw [if_pos q1, if_neg (fun z => by omega)]
  · rw [if_neg q1, xg_188_10 o2, c10, xe_cmp (by omega) (by omega) (by decide) (by decide)]
    by_cases q2 : 1000 < tR t n p
    · rw [if_pos q2, if_neg (fun z => by omega)]
    · rw [if_neg q2, xg_188_10 o2, c10, xg_188_9 o2, c9, xe_cmp (by omega) (by omega) (by omega) (by omega)]
      by_cases q3 : tR t n p < tL t n p
      · rw [if_pos q3, if_neg (fun z => by omega)]
      · rw [if_neg q3, xg_188_11 o2, c11, xg_188_12 o2, c12, xe_cmp (by omega) (by omega) (by omega) (by omega)]
        by_cases q4 : tF t n p ≤ tG t n p
        · rw [if_pos q4, if_pos ⟨by omega, by omega, by omega, q4⟩]
        · rw [if_neg q4, if_neg (fun z => q4 z.2.2.2)]
theorem tFine_good {N : Nat} (hg : ∀ i, i < N → tGo t n i) (hf : tFine t n N) : ∀ k, k < N + 1 → tGood t n (tPk t n k) ∧ tPk t n k ≤ n := fun k hk => by
  refine ⟨?_, (tPk_le k (fun i hi => hg i (by omega))).2⟩
  by_cases e : k = N
  · rw [e]; exact hf.1
  · exact (hg k (by omega)).1
theorem md_rdB (h : xl_OK M) (tm : TM t n M) (tk : tOK t n) {N : Nat} (hN : N ≤ 10) (hg : ∀ i, i < N → tGo t n i) (hf : tFine t n N) {b : Nat} (hb : b < N + 1) (hv : ∀ k, k < b → tVok t n (tPk t n k)) (hbx : ¬ tVok t n (tPk t n b)) : ∃ M', D_X12_readSpans 188 M = some (-2, M') ∧ MdF M M' := by
  obtain ⟨M1, d1, r1⟩ := md_spansB h tm tk hN hg hf
  have o1 := r1.ok h
  have gd := tFine_good hg hf
  unfold D_X12_readSpans
  rw [xr_188 h, d1, xe_call, xe_cmp (by omega) (by omega) (by decide) (by decide), if_pos (by omega), xu_188_7 o1]
  refine xe_inv0 (I := fun (k : Nat) (s : Int × xv_M) => s.1 = (k : Int) ∧ MdF M s.2 ∧ xv_I s.2 188 7 = (tPk t n k : Int)) (n := b) (P := fun d => ∃ M', d = some (-2, M') ∧ MdF M M') (by omega) ⟨rfl, r1.tr (MdF.sI (by decide)), by show xv_I (xv_sI M1 188 7 0) 188 7 = _; rw [xe_I_sI, if_pos ⟨rfl, rfl⟩]; rfl⟩ ?_ ?_
  · rintro k ⟨i, X⟩ hk ⟨hi, rx, px⟩
    dsimp only at hi rx px ⊢
    subst hi
    have ox := rx.ok h
    obtain ⟨g1, b2⟩ := gd k (by omega)
    obtain ⟨X2, o2, r2, p2, e2⟩ := md_ask1 ox (tm.md rx) tk b2 px g1
    refine ⟨((k : Int) + 1, X2), ⟨by show (k : Int) + 1 = ((k + 1 : Nat) : Int); omega, rx.tr r2, p2⟩, fun f => ?_⟩
    have e3 := e2 (fun M25 => f ((k : Int) + 1, M25))
    rw [if_pos (hv k hk)] at e3
    rw [xe_cmp (by omega) (by omega) (by omega) (by omega), if_neg (by omega)]
    exact e3
  · rintro ⟨i, X⟩ ⟨hi, rx, px⟩ f
    dsimp only at hi rx px ⊢
    subst hi
    have ox := rx.ok h
    obtain ⟨g1, b2⟩ := gd b hb
    obtain ⟨X2, o2, r2, p2, e2⟩ := md_ask1 ox (tm.md rx) tk b2 px g1
    have e3 := e2 (fun M25 => f ((b : Int) + 1, M25))
    rw [if_neg hbx] at e3
    rw [xe_cmp (by omega) (by omega) (by omega) (by omega), if_neg (by omega)]
    exact ⟨X2, e3, rx.tr r2⟩
theorem md_rdC (h : xl_OK M) (tm : TM t n M) (tk : tOK t n) {a : RW} (ea : xv_I M 189 = a) (g1 : 0 ≤ a 1 ∧ a 1 ≤ 60) {N : Nat} (hN : N ≤ 10) (hg : ∀ i, i < N → tGo t n i) (hf : tFine t n N) (hv : ∀ k, k < N + 1 → tVok t n (tPk t n k)) (hr : ¬ a 1 + ((N + 1 : Nat) : Int) ≤ 60) : ∃ M', D_X12_readSpans 188 M = some (-3, M') ∧ MdF M M' := by
  obtain ⟨M1, d1, r1⟩ := md_spansB h tm tk hN hg hf
  have o1 := r1.ok h
  have gd := tFine_good hg hf
  have i1 : (1 : Int).toNat = 1 := rfl
  unfold D_X12_readSpans
  rw [xr_188 h, d1, xe_call, xe_cmp (by omega) (by omega) (by decide) (by decide), if_pos (by omega), xu_188_7 o1]
  refine xe_inv0 (I := fun (k : Nat) (s : Int × xv_M) => s.1 = (k : Int) ∧ MdF M s.2 ∧ xv_I s.2 188 7 = (tPk t n k : Int)) (n := N + 1) (P := fun d => ∃ M', d = some (-3, M') ∧ MdF M M') (by omega) ⟨rfl, r1.tr (MdF.sI (by decide)), by show xv_I (xv_sI M1 188 7 0) 188 7 = _; rw [xe_I_sI, if_pos ⟨rfl, rfl⟩]; rfl⟩ ?_ ?_
  · rintro k ⟨i, X⟩ hk ⟨hi, rx, px⟩
    dsimp only at hi rx px ⊢
    subst hi
    have ox := rx.ok h
    obtain ⟨g1, b2⟩ := gd k (by omega)
    obtain ⟨X2, o2, r2, p2, e2⟩ := md_ask1 ox (tm.md rx) tk b2 px g1
    refine ⟨((k : Int) + 1, X2), ⟨by show (k : Int) + 1 = ((k + 1 : Nat) : Int); omega, rx.tr r2, p2⟩, fun f => ?_⟩
    have e3 := e2 (fun M25 => f ((k : Int) + 1, M25))
    rw [if_pos (hv k hk)] at e3
    rw [xe_cmp (by omega) (by omega) (by omega) (by omega), if_neg (by omega)]
    exact e3
  · rintro ⟨i, X⟩ ⟨hi, rx, px⟩ f
    dsimp only at hi rx px ⊢
    subst hi
    have ox := rx.ok h
    have ex : xv_I X 189 1 = a 1 := by rw [rx.2.2 189 1 (by omega), ea]
    rw [xe_cmp (by omega) (by omega) (by omega) (by omega), if_pos (by omega), xg_188_0 ox, xa_189 ox (by decide) (by decide), i1, ex, xe_cmp (by omega) (by omega) (by decide) (by decide), if_neg hr]
    exact ⟨X, rfl, rx⟩
/-- alike but for the row and what taking touches -/
def AF (M M' : xv_M) : Prop := M'.1 = M.1 ∧ M'.2.2 = M.2.2 ∧ ∀ r j, r ≠ 189 → ¬ (r = 188 ∧ 7 ≤ j ∧ j ≤ 12) → xv_I M' r j = xv_I M r j
theorem AF.tr {M M' M'' : xv_M} (h : AF M M') (g : AF M' M'') : AF M M'' := ⟨g.1.trans h.1, g.2.1.trans h.2.1, fun r j q1 q2 => (g.2.2 r j q1 q2).trans (h.2.2 r j q1 q2)⟩
theorem MdF.af {M M' : xv_M} (h : MdF M M') : AF M M' := ⟨h.1, h.2.1, fun r j _ q => h.2.2 r j q⟩
theorem AF.mk {M : xv_M} {a : RW} : AF M (mk M a) := ⟨rfl, rfl, fun r j q _ => mk_In q⟩
theorem AF.ok {M M' : xv_M} (h : AF M M') (hO : xl_OK M) : xl_OK M' := ⟨h.1.trans hO.1, fun r j hr => by
  show M'.2.2.2 r j = _
  rw [h.2.1]
  exact hO.2 r j hr⟩
theorem TM.af {M M' : xv_M} (h : TM t n M) (g : AF M M') : TM t n M' := ⟨(g.2.2 188 5 (by decide) (by omega)).trans h.1, fun i hi => (g.2.2 192 i (by decide) (by omega)).trans (h.2 i hi)⟩
theorem md_rdD (h : xl_OK M) (tm : TM t n M) (tk : tOK t n) {a H : RW} {k : Nat} (ea : xv_I M 189 = a) (eH : xv_I M 190 = H) (ek : xv_I M 188 2 = (k : Int)) (hk4 : k ≤ 4) (q : rRW a) {N : Nat} (hN : N ≤ 10) (hg : ∀ i, i < N → tGo t n i) (hf : tFine t n N) (hv : ∀ k, k < N + 1 → tVok t n (tPk t n k)) (hr : a 1 + ((N + 1 : Nat) : Int) ≤ 60) : ∃ X, D_X12_readSpans 188 M = some (((N + 1 : Nat) : Int), X) ∧ Scr (mAct M H a k (some (rRow a t n (N + 1)))) X := by
  obtain ⟨M1, d1, r1⟩ := md_spansB h tm tk hN hg hf
  have o1 := r1.ok h
  have gd := tFine_good hg hf
  have g1 := q.1.1.2.1
  have i1 : (1 : Int).toNat = 1 := rfl
  have gv : ∀ i, i < N + 1 → tGood t n (tPk t n i) ∧ tVok t n (tPk t n i) := fun i hi => ⟨(gd i hi).1, hv i hi⟩
  have ro := rRow_ok q hr gv
  unfold D_X12_readSpans
  rw [xr_188 h, d1, xe_call, xe_cmp (by omega) (by omega) (by decide) (by decide), if_pos (by omega), xu_188_7 o1]
  refine xe_inv0 (I := fun (k : Nat) (s : Int × xv_M) => s.1 = (k : Int) ∧ MdF M s.2 ∧ xv_I s.2 188 7 = (tPk t n k : Int)) (n := N + 1) (P := fun d => ∃ X, d = some (((N + 1 : Nat) : Int), X) ∧ Scr (mAct M H a k (some (rRow a t n (N + 1)))) X) (by omega) ⟨rfl, r1.tr (MdF.sI (by decide)), by show xv_I (xv_sI M1 188 7 0) 188 7 = _; rw [xe_I_sI, if_pos ⟨rfl, rfl⟩]; rfl⟩ ?_ ?_
  · rintro i ⟨z, X⟩ hi ⟨hz, rx, px⟩
    dsimp only at hz rx px ⊢
    subst hz
    have ox := rx.ok h
    obtain ⟨g1, b2⟩ := gd i (by omega)
    obtain ⟨X2, o2, r2, p2, e2⟩ := md_ask1 ox (tm.md rx) tk b2 px g1
    refine ⟨((i : Int) + 1, X2), ⟨by show (i : Int) + 1 = ((i + 1 : Nat) : Int); omega, rx.tr r2, p2⟩, fun f => ?_⟩
    have e3 := e2 (fun M25 => f ((i : Int) + 1, M25))
    rw [if_pos (hv i hi)] at e3
    rw [xe_cmp (by omega) (by omega) (by omega) (by omega), if_neg (by omega)]
    exact e3
  · rintro ⟨z, X⟩ ⟨hz, rx, px⟩ f
    dsimp only at hz rx px ⊢
    subst hz
    have ox := rx.ok h
    have ex : xv_I X 189 = a := by
      rw [← ea]
      exact funext fun j => rx.2.2 189 j (by omega)
    have eX : xv_I X 190 = H := by
      rw [← eH]
      exact funext fun j => rx.2.2 190 j (by omega)
    have eK : xv_I X 188 2 = (k : Int) := (rx.2.2 188 2 (by omega)).trans ek
    have en : mk (mkh X H (k : Int)) a = X := by rw [← ex, ← eX]; exact mk_norm eK
    have dr := md_record (M := X) (h := H) (a := a) ox hk4
    rw [en] at dr
    obtain ⟨X2, hX2⟩ : ∃ X2, X2 = mk (mkh X (hRec H k a) (hCnt k : Int)) a := ⟨_, rfl⟩
    rw [← hX2] at dr
    have o2 : xl_OK X2 := by rw [hX2]; exact ox
    have a2 : xv_I X2 189 = a := by rw [hX2]; exact funext fun j => mk_I
    have t2 : TM t n X2 := by
      refine ⟨?_, fun i hi => ?_⟩
      · rw [hX2, mk_In (by decide), mkh_In (by decide) (by decide)]; exact (tm.md rx).1
      · rw [hX2, mk_In (by decide), mkh_In (by decide) (by omega)]; exact (tm.md rx).2 i hi
    rw [xe_cmp (by omega) (by omega) (by omega) (by omega), if_pos (by omega), xg_188_0 ox, xa_189 ox (by decide) (by decide), i1, ex, xe_cmp (by omega) (by omega) (by decide) (by decide), if_pos hr, xr_188 ox, dr, xe_call, xu_188_7 o2]
    refine xe_inv0 (I := fun (i : Nat) (s : Int × xv_M) => s.1 = (i : Int) ∧ AF X2 s.2 ∧ xv_I s.2 189 = rRow a t n i ∧ xv_I s.2 188 7 = (tPk t n i : Int)) (n := N + 1) (P := fun d => ∃ X, d = some (((N + 1 : Nat) : Int), X) ∧ Scr (mAct M H a k (some (rRow a t n (N + 1)))) X) (by omega) ⟨rfl, (MdF.sI (by decide)).af, ?_, by show xv_I (xv_sI X2 188 7 0) 188 7 = _; rw [xe_I_sI, if_pos ⟨rfl, rfl⟩]; rfl⟩ ?_ ?_
    · show xv_I (xv_sI X2 188 7 0) 189 = a
      rw [← a2]
      exact funext fun j => by rw [xe_I_sI, if_neg (by omega)]
    · rintro i ⟨z, Y⟩ hi ⟨hz, ry, wy, py⟩
      dsimp only at hz ry wy py ⊢
      subst hz
      have oy := ry.ok o2
      obtain ⟨g1, b2⟩ := gd i (by omega)
      obtain ⟨Y1, Y2, e1, p1, p2, e3, p3, s3, p4, c9, c10, c11, c12⟩ := md_next oy (t2.af ry) tk b2 py g1
      obtain ⟨w1, w2⟩ := ro i (by omega)
      have hb := tVok_b g1 (hv i hi)
      have wy2 : xv_I Y2 189 = rRow a t n i := by
        rw [← wy]
        exact funext fun j => s3.2.2 189 j (by omega)
      have da := md_adds (M := Y2) (a := rRow a t n i) p3 w1.1.1 (by omega) (l := tL t n (tPk t n i)) (r := tR t n (tPk t n i)) (f := tF t n (tPk t n i)) (g' := tG t n (tPk t n i)) (rRQ_add w1.1 (by omega) hb).1
      rw [mk_at wy2] at da
      refine ⟨((i : Int) + 1, mk Y2 (rRow a t n (i + 1))), ⟨by show (i : Int) + 1 = ((i + 1 : Nat) : Int); omega, (ry.tr s3.af).tr AF.mk, funext fun j => mk_I, ?_⟩, fun f => ?_⟩
      · show xv_I (mk Y2 _) 188 7 = ((tEnd t n (tPk t n i) + 1 : Nat) : Int)
        rw [mk_In (by decide)]
        exact p4
      · rw [xe_cmp (by omega) (by omega) (by omega) (by omega), if_neg (by omega), xr_188 oy, e1, xe_call, xg_188_7 p1, p2, xu_188_7 p1, ← e3, xg_188_9 p3, c9, xg_188_10 p3, c10, xg_188_11 p3, c11, xg_188_12 p3, c12, xr_188 p3, da, xe_call]
        rfl
    · rintro ⟨z, Y⟩ ⟨hz, ry, wy, py⟩ f
      dsimp only at hz ry wy py ⊢
      subst hz
      rw [xe_cmp (by omega) (by omega) (by omega) (by omega), if_pos (by omega)]
      refine ⟨Y, rfl, ?_, ?_, fun r j hs => ?_⟩
      · rw [ry.1, hX2]
        exact rx.1
      · rw [ry.2.1, hX2]
        exact rx.2.1
      · show xv_I Y r j = xv_I (mk (mkh M (hRec H k a) (hCnt k : Int)) (rRow a t n (N + 1))) r j
        by_cases e : r = 189
        · subst e
          rw [wy, mk_I]
        · rw [mk_In e]
          by_cases e7 : r = 188 ∧ 7 ≤ j ∧ j ≤ 12
          · exfalso
            exact hs (Or.inr (Or.inr (Or.inr (Or.inr ⟨e7.1, by omega⟩))))
          · rw [ry.2.2 r j e e7, hX2, mk_In e]
            by_cases e2 : r = 190
            · subst e2
              rw [mkh_I190, mkh_I190]
            · by_cases e3 : r = 188 ∧ j = 2
              · obtain ⟨rfl, rfl⟩ := e3
                rw [mkh_Ik, mkh_Ik]
              · rw [mkh_In e2 e3, mkh_In e2 e3]
                exact rx.2.2 r j e7
end TXN
theorem tV_ex {t : Nat → Int} {n : Nat} : ∀ m, (∃ b, b < m ∧ (∀ k, k < b → tVok t n (tPk t n k)) ∧ ¬ tVok t n (tPk t n b)) ∨ ∀ k, k < m → tVok t n (tPk t n k)
  | 0 => Or.inr (fun i hi => absurd hi (Nat.not_lt_zero _))
  | m + 1 => by
    rcases tV_ex (t := t) (n := n) m with ⟨N, h1, h2, h3⟩ | h
    · exact Or.inl ⟨N, by omega, h2, h3⟩
    · by_cases c : tVok t n (tPk t n m)
      · refine Or.inr (fun i hi => ?_)
        by_cases e : i = m
        · subst e; exact c
        · exact h i (by omega)
      · exact Or.inl ⟨m, by omega, h, c⟩
theorem ok_readSpans (hbc : BC) {M : xv_M} (hi : INV M) : ok2 (D_X11_readSpans 1) (D_X12_readSpans 188) M := by
  have hi' := hi
  obtain ⟨k, hk, cl, sl, n, hn, h1, h2, h3⟩ := hi'
  have hO := hi.ok
  obtain ⟨t, ht⟩ : ∃ t : Nat → Int, t = xv_I M 192 := ⟨_, rfl⟩
  have tk : tOK t n := ⟨hn, fun i hi => by rw [ht]; exact (h3 i hi).2⟩
  have tc : TC t n M := ⟨h1, fun i hi => by rw [ht]; exact (h3 i hi).1⟩
  have tm : TM t n M := ⟨h2, fun i hi => by rw [ht]⟩
  have tmr : ∀ M', RdF M M' → TM t n M' := fun M' r => ⟨(r.2.2 188 5 (by omega)).trans tm.1, fun i hi => (r.2.2 192 i (by omega)).trans (tm.2 i hi)⟩
  have g1 := cl.2.1.1.1.2.1
  obtain ⟨N, hN, hg, hx⟩ := tN_ex (t := t) hn
  by_cases hf : tFine t n N
  · rcases tV_ex (t := t) (n := n) (N + 1) with ⟨b, hb, hv, hbx⟩ | hv
    · obtain ⟨M1, e1, r1⟩ := xc_rdB cl tc tk hN hg hx hf hb hv hbx
      obtain ⟨M2, e2, r2⟩ := md_rdB (r1.ok hO) (tmr M1 r1) tk hN hg hf hb hv hbx
      exact ⟨_, M1, M2, r1.ok hO, e1, e2, hi.scr (r1.scr.tr r2.scr)⟩
    · by_cases hr : xv_I M 189 1 + ((N + 1 : Nat) : Int) ≤ 60
      · obtain ⟨M0, M1, s0, e1, c⟩ := xc_rdD hbc cl tc tk hN hg hx hf hv hr
        have i0 : INV M0 := hi.scr s0
        have e189 : xv_I M0 189 = xv_I M 189 := funext fun j => s0.2.2 189 j (by omega)
        have e190 : xv_I M0 190 = xv_I M 190 := funext fun j => s0.2.2 190 j (by omega)
        have ek0 : xv_I M0 188 2 = (k : Int) := (s0.2.2 188 2 (by omega)).trans hk
        rw [← e189, ← e190] at c
        obtain ⟨en, o1, i2⟩ := i0.act ek0 c
        have fr : Fr M0 M1 := (show CLh _ _ _ M1 ∧ Fr M0 M1 from c).2
        have f189 : xv_I M1 189 = xv_I M0 189 := funext fun j => (fr.1 189 j (by omega) (by omega)).1
        have f190 : xv_I M1 190 = xv_I M0 190 := funext fun j => (fr.1 190 j (by omega) (by omega)).1
        have ek1 : xv_I M1 188 2 = (k : Int) := (fr.1 188 2 (by omega) (by omega)).1.trans ek0
        have tm1 : TM t n M1 := ⟨((fr.1 188 5 (by omega) (by omega)).1.trans (s0.2.2 188 5 (by omega))).trans tm.1, fun i hi => ((fr.1 192 i (by omega) (by omega)).1.trans (s0.2.2 192 i (by omega))).trans (tm.2 i hi)⟩
        obtain ⟨X, e2, s2⟩ := md_rdD o1 tm1 tk (a := xv_I M0 189) (H := xv_I M0 190) f189 f190 ek1 cl.2.2.2.1 (by rw [e189]; exact cl.2.1) hN hg hf hv (by rw [e189]; exact hr)
        exact ⟨_, M1, X, o1, e1, e2, i2.scr s2⟩
      · obtain ⟨M1, e1, r1⟩ := xc_rdC cl tc tk hN hg hx hf hv hr
        obtain ⟨M2, e2, r2⟩ := md_rdC (r1.ok hO) (tmr M1 r1) tk (a := xv_I M 189) (funext fun j => r1.2.2 189 j (by omega)) g1 hN hg hf hv hr
        exact ⟨_, M1, M2, r1.ok hO, e1, e2, hi.scr (r1.scr.tr r2.scr)⟩
  · obtain ⟨M1, e1, r1⟩ := xc_rdA cl tc tk hN hg hx hf
    obtain ⟨M2, e2, r2⟩ := md_rdA (r1.ok hO) (tmr M1 r1) tk hN hg hx hf
    exact ⟨_, M1, M2, r1.ok hO, e1, e2, hi.scr (r1.scr.tr r2.scr)⟩
/-! ## the memory behind the constructors: all is held -/
/-- all numbers are 0 -/
def AZ (M : xv_M) : Prop := (∀ r j, M.2.1 r j = 0) ∧ ∀ r j, M.2.2.1 r j = 0
theorem AZ.new {M : xv_M} (h : AZ M) (k : Nat × Nat) : AZ (xv_new M k) := by
  refine ⟨fun r j => ?_, fun r j => ?_⟩
  · show (if r = M.1.length + 1 then (0 : Int) else M.2.1 r j) = 0
    by_cases e : r = M.1.length + 1
    · rw [if_pos e]
    · rw [if_neg e]; exact h.1 r j
  · show (if r = M.1.length + 1 then (0 : Int64) else M.2.2.1 r j) = 0
    by_cases e : r = M.1.length + 1
    · rw [if_pos e]
    · rw [if_neg e]; exact h.2 r j
theorem AZ.mn6 {M : xv_M} (h : AZ M) : AZ (xv_mn6 M) := by
  refine ⟨fun r j => ?_, fun r j => ?_⟩
  · show (if r ≤ M.1.length then M.2.1 r j else (0 : Int)) = 0
    by_cases e : r ≤ M.1.length
    · rw [if_pos e]; exact h.1 r j
    · rw [if_neg e]
  · show (if r ≤ M.1.length then M.2.2.1 r j else (0 : Int64)) = 0
    by_cases e : r ≤ M.1.length
    · rw [if_pos e]; exact h.2 r j
    · rw [if_neg e]
def PZ {α : Type} (d : Option (α × xv_M)) : Prop := ∀ z M', d = some (z, M') → AZ M'
section PZS
variable {α β : Type} {M : xv_M}
theorem pz_some {z : α} (h : AZ M) : PZ (some (z, M)) := fun z' M' e => by
  cases e
  exact h
theorem pz_none : PZ (none : Option (α × xv_M)) := fun z' M' e => by cases e
theorem pz_ite {c : Prop} [Decidable c] {d e : Option (α × xv_M)} (hd : PZ d) (he : PZ e) : PZ (if c then d else e) := by
  by_cases h : c
  · rw [if_pos h]; exact hd
  · rw [if_neg h]; exact he
theorem pz_g {c : Prop} [Decidable c] {d : Option (α × xv_M)} (hd : PZ d) : PZ (xv_g c d) := pz_ite hd pz_none
theorem pz_nw (hM : AZ M) {k : Nat × Nat} {f : Nat → xv_M → Option (α × xv_M)} (h : ∀ r M', AZ M' → PZ (f r M')) : PZ (xv_nw M k f) := h _ _ (hM.new k)
theorem pz_mnw (hM : AZ M) {f : Nat → xv_M → Option (α × xv_M)} (h : ∀ r M', AZ M' → PZ (f r M')) : PZ (xv_mnw M f) := h _ _ hM.mn6
theorem pz_pP (hM : AZ M) {c r j v : Nat} {f : xv_M → Option (α × xv_M)} (h : ∀ M', AZ M' → PZ (f M')) : PZ (xv_pP M c r j v f) := pz_ite (h _ hM) pz_none
theorem pz_wP (hM : AZ M) {r : Nat} {i : Int} {v : Nat} {f : xv_M → Option (α × xv_M)} (h : ∀ M', AZ M' → PZ (f M')) : PZ (xv_wP M r i v f) := pz_ite (h _ hM) pz_none
theorem pz_gP {c r j : Nat} {f : Nat → Option (α × xv_M)} (h : ∀ v, PZ (f v)) : PZ (xv_gP M c r j f) := pz_ite (h _) pz_none
theorem pz_call {d : Option (β × xv_M)} (hd : PZ d) {k : β → xv_M → Option (α × xv_M)} (h : ∀ z M', AZ M' → PZ (k z M')) : PZ (xv_call d k) := by
  cases d with
  | none => exact pz_none
  | some q => exact h q.1 q.2 (hd q.1 q.2 rfl)
end PZS
theorem PZ_X5 {a0 : Nat} {M : xv_M} (hM : AZ M) : PZ (D_X5_init a0 M) := by
  unfold D_X5_init
  repeat
    with_reducible first
      | exact pz_some (by assumption)
      | refine pz_nw (by assumption) (fun _ _ _ => ?_)
      | refine pz_mnw (by assumption) (fun _ _ _ => ?_)
      | refine pz_pP (by assumption) (fun _ _ => ?_)
      | refine pz_wP (by assumption) (fun _ _ => ?_)
      | refine pz_gP (fun _ => ?_)
      | refine pz_g ?_
theorem PZ_X9 {a0 : Nat} {M : xv_M} (hM : AZ M) : PZ (D_X9_init a0 M) := by
  unfold D_X9_init
  repeat
    with_reducible first
      | exact pz_some (by assumption)
      | refine pz_nw (by assumption) (fun _ _ _ => ?_)
      | refine pz_mnw (by assumption) (fun _ _ _ => ?_)
      | refine pz_pP (by assumption) (fun _ _ => ?_)
      | refine pz_wP (by assumption) (fun _ _ => ?_)
      | refine pz_gP (fun _ => ?_)
      | refine pz_g ?_
theorem PZ_X3 {a0 : Nat} {M : xv_M} (hM : AZ M) : PZ (D_X3_init a0 M) := by
  unfold D_X3_init
  repeat
    with_reducible first
      | exact pz_some (by assumption)
      | refine pz_nw (by assumption) (fun _ _ _ => ?_)
      | refine pz_mnw (by assumption) (fun _ _ _ => ?_)
      | refine pz_pP (by assumption) (fun _ _ => ?_)
      | refine pz_wP (by assumption) (fun _ _ => ?_)
      | refine pz_gP (fun _ => ?_)
      | refine pz_g ?_
theorem PZ_X0 {a0 : Nat} {M : xv_M} (hM : AZ M) : PZ (D_X0_init a0 M) := by
  unfold D_X0_init
  repeat
    with_reducible first
      | exact pz_some (by assumption)
      | refine pz_nw (by assumption) (fun _ _ _ => ?_)
      | refine pz_mnw (by assumption) (fun _ _ _ => ?_)
      | refine pz_pP (by assumption) (fun _ _ => ?_)
      | refine pz_wP (by assumption) (fun _ _ => ?_)
      | refine pz_gP (fun _ => ?_)
      | refine pz_g ?_
theorem PZ_X10 {a0 : Nat} {M : xv_M} (hM : AZ M) : PZ (D_X10_init a0 M) := by
  unfold D_X10_init
  repeat
    with_reducible first
      | exact pz_some (by assumption)
      | refine pz_nw (by assumption) (fun _ _ _ => ?_)
      | refine pz_mnw (by assumption) (fun _ _ _ => ?_)
      | refine pz_pP (by assumption) (fun _ _ => ?_)
      | refine pz_wP (by assumption) (fun _ _ => ?_)
      | refine pz_gP (fun _ => ?_)
      | refine pz_g ?_
theorem PZ_X7 {a0 : Nat} {M : xv_M} (hM : AZ M) : PZ (D_X7_init a0 M) := by
  unfold D_X7_init
  repeat
    with_reducible first
      | exact pz_some (by assumption)
      | refine pz_nw (by assumption) (fun _ _ _ => ?_)
      | refine pz_mnw (by assumption) (fun _ _ _ => ?_)
      | refine pz_pP (by assumption) (fun _ _ => ?_)
      | refine pz_wP (by assumption) (fun _ _ => ?_)
      | refine pz_gP (fun _ => ?_)
      | refine pz_g ?_
theorem PZ_X4 {a0 : Nat} {M : xv_M} (hM : AZ M) : PZ (D_X4_init a0 M) := by
  unfold D_X4_init
  repeat
    with_reducible first
      | exact pz_some (by assumption)
      | refine pz_nw (by assumption) (fun _ _ _ => ?_)
      | refine pz_mnw (by assumption) (fun _ _ _ => ?_)
      | refine pz_pP (by assumption) (fun _ _ => ?_)
      | refine pz_wP (by assumption) (fun _ _ => ?_)
      | refine pz_gP (fun _ => ?_)
      | refine pz_g ?_
theorem PZ_X6 {a0 : Nat} {M : xv_M} (hM : AZ M) : PZ (D_X6_init a0 M) := by
  unfold D_X6_init
  repeat
    with_reducible first
      | exact pz_some (by assumption)
      | refine pz_nw (by assumption) (fun _ _ _ => ?_)
      | refine pz_mnw (by assumption) (fun _ _ _ => ?_)
      | refine pz_pP (by assumption) (fun _ _ => ?_)
      | refine pz_wP (by assumption) (fun _ _ => ?_)
      | refine pz_gP (fun _ => ?_)
      | refine pz_call (pz_g (PZ_X5 (by assumption))) (fun _ _ _ => ?_)
      | refine pz_call (pz_g (PZ_X9 (by assumption))) (fun _ _ _ => ?_)
      | refine pz_call (pz_g (PZ_X3 (by assumption))) (fun _ _ _ => ?_)
      | refine pz_g ?_
theorem PZ_X8 {a0 : Nat} {M : xv_M} (hM : AZ M) : PZ (D_X8_init a0 M) := by
  unfold D_X8_init
  repeat
    with_reducible first
      | exact pz_some (by assumption)
      | refine pz_nw (by assumption) (fun _ _ _ => ?_)
      | refine pz_mnw (by assumption) (fun _ _ _ => ?_)
      | refine pz_pP (by assumption) (fun _ _ => ?_)
      | refine pz_wP (by assumption) (fun _ _ => ?_)
      | refine pz_gP (fun _ => ?_)
      | refine pz_call (pz_g (PZ_X10 (by assumption))) (fun _ _ _ => ?_)
      | refine pz_g ?_
theorem PZ_X1 {a0 : Nat} {M : xv_M} (hM : AZ M) : PZ (D_X1_init a0 M) := by
  unfold D_X1_init
  repeat
    with_reducible first
      | exact pz_some (by assumption)
      | refine pz_nw (by assumption) (fun _ _ _ => ?_)
      | refine pz_mnw (by assumption) (fun _ _ _ => ?_)
      | refine pz_pP (by assumption) (fun _ _ => ?_)
      | refine pz_wP (by assumption) (fun _ _ => ?_)
      | refine pz_gP (fun _ => ?_)
      | refine pz_call (pz_g (PZ_X6 (by assumption))) (fun _ _ _ => ?_)
      | refine pz_g ?_
theorem PZ_X2 {a0 : Nat} {M : xv_M} (hM : AZ M) : PZ (D_X2_init a0 M) := by
  unfold D_X2_init
  repeat
    with_reducible first
      | exact pz_some (by assumption)
      | refine pz_nw (by assumption) (fun _ _ _ => ?_)
      | refine pz_mnw (by assumption) (fun _ _ _ => ?_)
      | refine pz_pP (by assumption) (fun _ _ => ?_)
      | refine pz_wP (by assumption) (fun _ _ => ?_)
      | refine pz_gP (fun _ => ?_)
      | refine pz_call (pz_g (PZ_X6 (by assumption))) (fun _ _ _ => ?_)
      | refine pz_call (pz_g (PZ_X0 (by assumption))) (fun _ _ _ => ?_)
      | refine pz_call (pz_g (PZ_X8 (by assumption))) (fun _ _ _ => ?_)
      | refine pz_g ?_
theorem PZ_X11 {a0 : Nat} {M : xv_M} (hM : AZ M) : PZ (D_X11_init a0 M) := by
  unfold D_X11_init
  repeat
    with_reducible first
      | exact pz_some (by assumption)
      | refine pz_nw (by assumption) (fun _ _ _ => ?_)
      | refine pz_mnw (by assumption) (fun _ _ _ => ?_)
      | refine pz_pP (by assumption) (fun _ _ => ?_)
      | refine pz_wP (by assumption) (fun _ _ => ?_)
      | refine pz_gP (fun _ => ?_)
      | refine pz_call (pz_g (PZ_X2 (by assumption))) (fun _ _ _ => ?_)
      | refine pz_call (pz_g (PZ_X1 (by assumption))) (fun _ _ _ => ?_)
      | refine pz_call (pz_g (PZ_X6 (by assumption))) (fun _ _ _ => ?_)
      | refine pz_call (pz_g (PZ_X7 (by assumption))) (fun _ _ _ => ?_)
      | refine pz_call (pz_g (PZ_X4 (by assumption))) (fun _ _ _ => ?_)
      | refine pz_g ?_
theorem PZ_X12 {a0 : Nat} {M : xv_M} (hM : AZ M) : PZ (D_X12_init a0 M) := by
  unfold D_X12_init
  repeat
    with_reducible first
      | exact pz_some (by assumption)
      | refine pz_nw (by assumption) (fun _ _ _ => ?_)
      | refine pz_mnw (by assumption) (fun _ _ _ => ?_)
      | refine pz_pP (by assumption) (fun _ _ => ?_)
      | refine pz_wP (by assumption) (fun _ _ => ?_)
      | refine pz_gP (fun _ => ?_)
      | refine pz_g ?_
theorem xl_init11 : D_X11_init 1 xl_A0 = some ((), xl_A1) := by
  have h := xl_A1_some
  unfold xl_A1
  cases hd : D_X11_init 1 xl_A0 with
  | none => rw [hd] at h; cases h
  | some q => rfl
theorem xl_init12 : D_X12_init 188 xl_A2 = some ((), xl_A3) := by
  have h := xl_A3_some
  unfold xl_A3
  cases hd : D_X12_init 188 xl_A2 with
  | none => rw [hd] at h; cases h
  | some q => rfl
theorem xl_AZ3 : AZ xl_A3 := by
  have h0 : AZ xl_A0 := AZ.new ⟨fun _ _ => rfl, fun _ _ => rfl⟩ _
  have h1 : AZ xl_A1 := PZ_X11 h0 _ _ xl_init11
  exact PZ_X12 (h1.new _) _ _ xl_init12
theorem xl_OK3 : xl_OK xl_A3 := ⟨xl_A3_K, fun _ _ _ => rfl⟩
set_option maxRecDepth 100000 in
theorem xl_P40 : xl_P0 40 0 = 41 ∧ xl_P0 40 1 = 69 ∧ xl_P0 40 2 = 97 ∧ xl_P0 40 3 = 125 := by decide +kernel
theorem INV_0 {M : xv_M} (hO : xl_OK M) (hz : AZ M) (hP : xv_P M 40 0 = 41 ∧ xv_P M 40 1 = 69 ∧ xv_P M 40 2 = 97 ∧ xv_P M 40 3 = 125) : INV M := by
  have zI : ∀ r j, xv_I M r j = 0 := hz.1
  have zJ : ∀ r j, xv_J M r j = 0 := hz.2
  have zr : ∀ r, xv_I M r = fun _ => 0 := fun r => funext (zI r)
  have hn : ∀ s, ¬ s < rn (fun _ => 0) := fun s => Nat.not_lt_zero s
  have hm : ∀ s, ¬ s < rm (fun _ => 0) := fun s => Nat.not_lt_zero s
  have h5 : ∀ k : Nat, ¬ k < ((fun _ => (0 : Int)) (5 : Nat)).toNat := fun k => Nat.not_lt_zero k
  have i0 : (0 : Int) ≤ 0 ∧ (0 : Int) ≤ 9999 := by decide
  have i1 : (0 : Int) ≤ 0 ∧ (0 : Int) ≤ 60 := by decide
  have i2 : (0 : Int) ≤ 0 ∧ (0 : Int) ≤ 6 := by decide
  have i5 : (0 : Int) ≤ 0 ∧ (0 : Int) ≤ 12 := by decide
  have i3 : (0 : Int) ≤ 0 ∧ (0 : Int) ≤ 0 + 1 := by decide
  have hgd : rGd (fun _ => 0) := by
    refine ⟨i0, i1, i2, rKp_refl i5 (fun w s _ _ => i3), fun s _ => Or.inl rfl, fun s _ h => ?_, fun w h => ?_⟩
    · exact absurd (show (0 : Int) = 1 from h) (by decide)
    · exact absurd h (hm w)
  have hRW : rRW (fun _ => 0) := by
    refine ⟨⟨hgd, fun s h => ?_, ⟨rfl, rfl⟩, fun w s _ _ _ => rfl⟩, fun w s h => ?_⟩
    · exact absurd h (hn s)
    · exact absurd h (hm w)
  have hs : SBs 3 (fun _ => 0) M := by
    refine ⟨zI _ _, fun s hs => ?_, fun s h => absurd h (hn s), fun s _ _ => ⟨zI _ _, zI _ _⟩⟩
    rw [zJ, xb_0]
    exact (decide_eq_false (fun z => hn s z.1)).symm
  have hw : SBw 3 (fun _ => 0) M := ⟨zI _ _, fun w h => absurd h (hm w), fun w _ _ => ⟨zI _ _, zI _ _, zI _ _, zI _ _⟩⟩
  have hl : SBl 3 (fun _ => 0) M := by
    refine ⟨zI _ _, ?_, fun k h => absurd h (h5 k)⟩
    rw [zI]
    decide
  have he : SBe 3 (fun _ => 0) M := fun w s h => absurd h (hm w)
  have cb : CB (fun _ => 0) M := ⟨hO, zI _ _, hs, hw, hl, he⟩
  have ci : CI (fun _ => 0) M := ⟨fun w h => absurd h (hm w), fun w _ _ => zJ _ _⟩
  have cc : CC (fun _ => 0) M := fun x hx s hs => by
    rw [zJ, xb_0]
    exact (decide_eq_false (fun z => hn s z.1)).symm
  have tr : TR (fun _ => 0) M := by
    refine ⟨fun s h => absurd h (hn s), fun x hx => ?_, fun x hx => ?_⟩
    · rw [zI]
      rfl
    · rw [zI]
      refine ⟨by decide, ⟨fun h => absurd h (by decide), fun h => ?_⟩⟩
      obtain ⟨s, h1, _⟩ := h
      exact absurd h1 (hn s)
  obtain ⟨p0, p1, p2, p3⟩ := hP
  have hh : HI (fun _ => 0) 0 M := by
    refine ⟨fun i hi => ?_, fun i j hi hj e => ?_, fun i hi => absurd hi (Nat.not_lt_zero _)⟩
    · have : i = 0 ∨ i = 1 ∨ i = 2 ∨ i = 3 := by omega
      unfold Hk
      rcases this with rfl | rfl | rfl | rfl <;> omega
    · have h1 : i = 0 ∨ i = 1 ∨ i = 2 ∨ i = 3 := by omega
      have h2 : j = 0 ∨ j = 1 ∨ j = 2 ∨ j = 3 := by omega
      rcases h1 with rfl | rfl | rfl | rfl <;> rcases h2 with rfl | rfl | rfl | rfl <;> omega
  refine ⟨0, zI _ _, ?_, ?_, ?_⟩
  · rw [zr 189, zr 190]
    exact ⟨⟨cb, ci, cc, tr⟩, hRW, zI _ _, by decide, hh⟩
  · refine ⟨by rw [zI, zI], Or.inl (zI _ _), fun h => ?_⟩
    rw [zI] at h
    exact absurd h (by decide)
  · exact ⟨0, by decide, zI _ _, zI _ _, fun i hi => absurd hi (Nat.not_lt_zero _)⟩
theorem INV_start : INV xl_A3 := INV_0 xl_OK3 xl_AZ3 xl_P40
