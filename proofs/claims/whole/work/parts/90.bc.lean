/-! ## how a long's bits are counted -/
theorem an_div (a b : Nat) : (a &&& b) / 256 = (a / 256) &&& (b / 256) := by
  rw [show (256 : Nat) = 2 ^ 8 from rfl, ← Nat.shiftRight_eq_div_pow, ← Nat.shiftRight_eq_div_pow, ← Nat.shiftRight_eq_div_pow]
  apply Nat.eq_of_testBit_eq
  intro i
  simp [Nat.testBit_shiftRight, Nat.testBit_and]
theorem an_mod (a b : Nat) : (a &&& b) % 256 = (a % 256) &&& (b % 256) := by
  rw [show (256 : Nat) = 2 ^ 8 from rfl]
  apply Nat.eq_of_testBit_eq
  intro i
  simp only [Nat.testBit_mod_two_pow, Nat.testBit_and]
  by_cases h : i < 8 <;> simp [h]
theorem an_byte {x p : Nat} (y q : Nat) (hx : x < 256) (hp : p < 256) : (x + 256 * y) &&& (p + 256 * q) = (x &&& p) + 256 * (y &&& q) := by
  have h1 := an_div (x + 256 * y) (p + 256 * q)
  have h2 := an_mod (x + 256 * y) (p + 256 * q)
  rw [show (x + 256 * y) / 256 = y by omega, show (p + 256 * q) / 256 = q by omega] at h1
  rw [show (x + 256 * y) % 256 = x by omega, show (p + 256 * q) % 256 = p by omega] at h2
  omega
/-- a mask of k bytes -/
def bmk (c : Nat) : Nat → Nat
  | 0 => 0
  | k + 1 => c + 256 * bmk c k
def bs1 (k n : Nat) : Nat := n - ((n / 2) &&& bmk 85 k)
def bs2 (k n : Nat) : Nat := (n &&& bmk 51 k) + ((n / 4) &&& bmk 51 k)
def bs3 (k n : Nat) : Nat := (n + n / 16) &&& bmk 15 k
def bt (n s : Nat) : Bool := decide (n / 2 ^ s % 2 = 1)
/-- the bytes' bits, each byte's in its place -/
def bpp : Nat → Nat → Nat
  | 0, _ => 0
  | k + 1, n => xct (bt n) 8 + 256 * bpp k (n / 256)
theorem bc_1 : ∀ b, b < 256 → ∀ c, c < 2 → ((b / 2 + 128 * c) &&& 85) = ((b / 2) &&& 85) ∧ ((b / 2) &&& 85) ≤ b := by decide +kernel
theorem bc_2 : ∀ b, b < 256 → ∀ c, c < 4 → ((b / 4 + 64 * c) &&& 51) = ((b / 4) &&& 51) := by decide +kernel
theorem bc_3 : ∀ b, b < 256 → ((b - ((b / 2) &&& 85)) < 256 ∧ ((b - ((b / 2) &&& 85)) &&& 51) + (((b - ((b / 2) &&& 85)) / 4) &&& 51) ≤ 68 ∧ (((b - ((b / 2) &&& 85)) &&& 51) + (((b - ((b / 2) &&& 85)) / 4) &&& 51)) % 16 ≤ 4) := by decide +kernel
theorem bc_4 : ∀ b, b < 256 → ∀ c, c < 5 → (((((b - ((b / 2) &&& 85)) &&& 51) + (((b - ((b / 2) &&& 85)) / 4) &&& 51)) + (((b - ((b / 2) &&& 85)) &&& 51) + (((b - ((b / 2) &&& 85)) / 4) &&& 51)) / 16 + 16 * c) &&& 15) = xct (bt b) 8 := by decide +kernel
def bg2 (b : Nat) : Nat := ((b - ((b / 2) &&& 85)) &&& 51) + (((b - ((b / 2) &&& 85)) / 4) &&& 51)
theorem bs1_s {b : Nat} (hb : b < 256) (k m : Nat) : bs1 (k + 1) (b + 256 * m) = (b - ((b / 2) &&& 85)) + 256 * bs1 k m := by
  have e : (b + 256 * m) / 2 = (b / 2 + 128 * (m % 2)) + 256 * (m / 2) := by omega
  obtain ⟨h1, h2⟩ := bc_1 b hb (m % 2) (by omega)
  have hle : (m / 2) &&& bmk 85 k ≤ m / 2 := Nat.and_le_left
  unfold bs1
  rw [e]
  show b + 256 * m - ((b / 2 + 128 * (m % 2) + 256 * (m / 2)) &&& (85 + 256 * bmk 85 k)) = _
  rw [an_byte _ _ (by omega) (by omega), h1]
  omega
theorem bs2_s {g : Nat} (hg : g < 256) (k m : Nat) : bs2 (k + 1) (g + 256 * m) = ((g &&& 51) + ((g / 4) &&& 51)) + 256 * bs2 k m := by
  have e : (g + 256 * m) / 4 = (g / 4 + 64 * (m % 4)) + 256 * (m / 4) := by omega
  have h1 := bc_2 g hg (m % 4) (by omega)
  unfold bs2
  rw [e]
  show ((g + 256 * m) &&& (51 + 256 * bmk 51 k)) + ((g / 4 + 64 * (m % 4) + 256 * (m / 4)) &&& (51 + 256 * bmk 51 k)) = _
  rw [an_byte _ _ hg (by omega), an_byte _ _ (by omega) (by omega), h1]
  omega
theorem bs_lo : ∀ k n, n < 256 ^ k → (bs2 k (bs1 k n)) % 16 ≤ 4
  | 0, n, h => by
    have : n = 0 := by simpa using h
    subst this
    decide
  | k + 1, n, h => by
    have en : n = n % 256 + 256 * (n / 256) := by omega
    obtain ⟨h1, h2, h3⟩ := bc_3 (n % 256) (by omega)
    rw [en, bs1_s (by omega), bs2_s h1]
    omega
theorem bs3_s : ∀ k n, n < 256 ^ k → bs3 k (bs2 k (bs1 k n)) = bpp k n
  | 0, n, h => by
    have : n = 0 := by simpa using h
    subst this
    decide
  | k + 1, n, h => by
    have hm : n / 256 < 256 ^ k := by
      rw [Nat.pow_succ] at h
      omega
    have ih := bs3_s k (n / 256) hm
    have hl := bs_lo k (n / 256) hm
    have en : n = n % 256 + 256 * (n / 256) := by omega
    obtain ⟨h1, h2, h3⟩ := bc_3 (n % 256) (by omega)
    have e1 : bs2 (k + 1) (bs1 (k + 1) n) = bg2 (n % 256) + 256 * bs2 k (bs1 k (n / 256)) := by
      conv => lhs; rw [en]
      rw [bs1_s (by omega), bs2_s h1]
      rfl
    have hg : bg2 (n % 256) ≤ 68 := h2
    have h4 := bc_4 (n % 256) (by omega) (bs2 k (bs1 k (n / 256)) % 16) (by omega)
    have h4' : ((bg2 (n % 256) + bg2 (n % 256) / 16 + 16 * (bs2 k (bs1 k (n / 256)) % 16)) &&& 15) = xct (bt (n % 256)) 8 := h4
    have e2 : bg2 (n % 256) + 256 * bs2 k (bs1 k (n / 256)) + (bg2 (n % 256) + 256 * bs2 k (bs1 k (n / 256))) / 16 = (bg2 (n % 256) + bg2 (n % 256) / 16 + 16 * (bs2 k (bs1 k (n / 256)) % 16)) + 256 * (bs2 k (bs1 k (n / 256)) + bs2 k (bs1 k (n / 256)) / 16) := by omega
    rw [e1]
    unfold bs3
    rw [e2]
    show _ &&& (15 + 256 * bmk 15 k) = _
    rw [an_byte _ _ (by omega) (by omega), h4']
    show _ + 256 * bs3 k (bs2 k (bs1 k (n / 256))) = xct (bt n) 8 + 256 * bpp k (n / 256)
    rw [ih]
    congr 1
    refine xct_cg (fun s hs => ?_)
    unfold bt
    refine decide_eq_decide.mpr ?_
    have hs2 : s = 0 ∨ s = 1 ∨ s = 2 ∨ s = 3 ∨ s = 4 ∨ s = 5 ∨ s = 6 ∨ s = 7 := by omega
    rcases hs2 with rfl | rfl | rfl | rfl | rfl | rfl | rfl | rfl <;> omega
theorem xct_split {p : Nat → Bool} {m : Nat} : ∀ n, xct p (m + n) = xct p m + xct (fun s => p (m + s)) n
  | 0 => rfl
  | n + 1 => by
    show xct p (m + n) + (if p (m + n) = true then 1 else 0) = xct p m + (xct (fun s => p (m + s)) n + (if p (m + n) = true then 1 else 0))
    rw [xct_split n]
    omega
theorem bt_sh {n s : Nat} : bt n (8 + s) = bt (n / 256) s := by
  unfold bt
  rw [Nat.pow_add, ← Nat.div_div_eq_div_mul]
theorem wb_add (a b : Nat) : lN a + lN b = lN (a + b) := by
  apply wb_inj
  rw [Int64.toBitVec_add, wb_tb, wb_tb, wb_tb]
  apply BitVec.eq_of_toNat_eq
  rw [BitVec.toNat_add, BitVec.toNat_ofNat, BitVec.toNat_ofNat, BitVec.toNat_ofNat, ← Nat.add_mod]
theorem wb_sub {a b : Nat} (h : b ≤ a) : lN a - lN b = lN (a - b) := by
  apply wb_inj
  rw [Int64.toBitVec_sub, wb_tb, wb_tb, wb_tb]
  apply BitVec.eq_of_toNat_eq
  rw [BitVec.toNat_sub, BitVec.toNat_ofNat, BitVec.toNat_ofNat, BitVec.toNat_ofNat]
  omega
theorem xb_lN {n s : Nat} (hs : s < 64) : xb (lN n) s = bt n s := by
  unfold xb bt
  rw [wb_tb, BitVec.getLsbD_ofNat, Nat.testBit_eq_decide_div_mod_eq]
  simp [hs]
theorem b32 (n : Nat) : ((Int32.ofInt ((lN n).toInt32.toInt)) &&& (Int32.ofInt 127)).toInt = ((n % 128 : Nat) : Int) := by
  rw [Int32.ofInt_toInt]
  have e : ((lN n).toInt32 &&& Int32.ofInt 127) = nI (n % 128) := by
    apply Int32.toBitVec_inj.mp
    rw [Int32.toBitVec_and]
    apply BitVec.eq_of_toNat_eq
    rw [BitVec.toNat_and]
    have h1 : (lN n).toInt32.toBitVec.toNat = n % 2 ^ 32 := by
      show (BitVec.signExtend 32 (lN n).toBitVec).toNat = _
      rw [wb_tb]
      rw [BitVec.signExtend_eq_setWidth_of_le _ (by decide)]
      rw [BitVec.toNat_setWidth, BitVec.toNat_ofNat]
      omega
    have h2 : (Int32.ofInt 127).toBitVec.toNat = 2 ^ 7 - 1 := by decide
    have h3 : (nI (n % 128)).toBitVec.toNat = n % 128 := by
      show (BitVec.ofNat 32 (n % 128)).toNat = _
      rw [BitVec.toNat_ofNat]
      omega
    rw [h1, h2, h3, Nat.and_two_pow_sub_one_eq_mod]
    omega
  rw [e, nI_toInt (by omega)]
theorem xct_bt8 (n m : Nat) : xct (bt n) (8 + m) = xct (bt n) 8 + xct (bt (n / 256)) m := by
  rw [xct_split]
  exact congrArg (fun z => xct (bt n) 8 + z) (xct_cg (fun s _ => bt_sh))
theorem xpc_lN (n : Nat) : xpc (lN n) = xct (bt n) 8 + (xct (bt (n / 256)) 8 + (xct (bt ((n / 256) / 256)) 8 + (xct (bt (((n / 256) / 256) / 256)) 8 + (xct (bt ((((n / 256) / 256) / 256) / 256)) 8 + (xct (bt (((((n / 256) / 256) / 256) / 256) / 256)) 8 + (xct (bt ((((((n / 256) / 256) / 256) / 256) / 256) / 256)) 8 + (xct (bt (((((((n / 256) / 256) / 256) / 256) / 256) / 256) / 256)) 8))))))) := by
  have h0 : xpc (lN n) = xct (bt n) 64 := xct_cg (fun s hs => xb_lN hs)
  have h1 : xct (bt n) 64 = xct (bt n) 8 + xct (bt (n / 256)) 56 := xct_bt8 _ 56
  have h2 : xct (bt (n / 256)) 56 = xct (bt (n / 256)) 8 + xct (bt ((n / 256) / 256)) 48 := xct_bt8 _ 48
  have h3 : xct (bt ((n / 256) / 256)) 48 = xct (bt ((n / 256) / 256)) 8 + xct (bt (((n / 256) / 256) / 256)) 40 := xct_bt8 _ 40
  have h4 : xct (bt (((n / 256) / 256) / 256)) 40 = xct (bt (((n / 256) / 256) / 256)) 8 + xct (bt ((((n / 256) / 256) / 256) / 256)) 32 := xct_bt8 _ 32
  have h5 : xct (bt ((((n / 256) / 256) / 256) / 256)) 32 = xct (bt ((((n / 256) / 256) / 256) / 256)) 8 + xct (bt (((((n / 256) / 256) / 256) / 256) / 256)) 24 := xct_bt8 _ 24
  have h6 : xct (bt (((((n / 256) / 256) / 256) / 256) / 256)) 24 = xct (bt (((((n / 256) / 256) / 256) / 256) / 256)) 8 + xct (bt ((((((n / 256) / 256) / 256) / 256) / 256) / 256)) 16 := xct_bt8 _ 16
  have h7 : xct (bt ((((((n / 256) / 256) / 256) / 256) / 256) / 256)) 16 = xct (bt ((((((n / 256) / 256) / 256) / 256) / 256) / 256)) 8 + xct (bt (((((((n / 256) / 256) / 256) / 256) / 256) / 256) / 256)) 8 := xct_bt8 _ 8
  rw [h0, h1, h2, h3, h4, h5, h6, h7]
theorem bpp_8 (n : Nat) : bpp 8 n = xct (bt n) 8 + 256 * (xct (bt (n / 256)) 8 + 256 * (xct (bt ((n / 256) / 256)) 8 + 256 * (xct (bt (((n / 256) / 256) / 256)) 8 + 256 * (xct (bt ((((n / 256) / 256) / 256) / 256)) 8 + 256 * (xct (bt (((((n / 256) / 256) / 256) / 256) / 256)) 8 + 256 * (xct (bt ((((((n / 256) / 256) / 256) / 256) / 256) / 256)) 8 + 256 * (xct (bt (((((((n / 256) / 256) / 256) / 256) / 256) / 256) / 256)) 8 + 256 * (0)))))))) := rfl
theorem bc_d3 (b0 Y x : Nat) (h : b0 < 256) (e : x = b0 + 256 * Y) : x / 256 = Y := by omega
theorem bc_d4 (b0 b1 Y x : Nat) (h0 : b0 < 256) (h1 : b1 < 256) (e : x = b0 + 256 * (b1 + 256 * Y)) : x / 65536 = Y := by omega
theorem bc_d5 (b0 b1 b2 b3 Y x : Nat) (h0 : b0 < 256) (h1 : b1 < 256) (h2 : b2 < 256) (h3 : b3 < 256) (e : x = b0 + 256 * (b1 + 256 * (b2 + 256 * (b3 + 256 * Y)))) : x / 4294967296 = Y := by omega
theorem bc_d6 (b0 Y x : Nat) (h : b0 < 128) (e : x = b0 + 256 * Y) : x % 128 = b0 := by omega
theorem bc_l4 (c0 c1 c2 c3 c4 c5 c6 c7 : Nat) : (c0 + 256 * (c1 + 256 * (c2 + 256 * (c3 + 256 * (c4 + 256 * (c5 + 256 * (c6 + 256 * (c7 + 256 * (0))))))))) + (c1 + 256 * (c2 + 256 * (c3 + 256 * (c4 + 256 * (c5 + 256 * (c6 + 256 * (c7 + 256 * (0)))))))) = (c0 + c1) + 256 * ((c1 + c2) + 256 * ((c2 + c3) + 256 * ((c3 + c4) + 256 * ((c4 + c5) + 256 * ((c5 + c6) + 256 * ((c6 + c7) + 256 * ((c7) + 256 * (0)))))))) := by omega
theorem bc_l5 (c0 c1 c2 c3 c4 c5 c6 c7 : Nat) : ((c0 + c1) + 256 * ((c1 + c2) + 256 * ((c2 + c3) + 256 * ((c3 + c4) + 256 * ((c4 + c5) + 256 * ((c5 + c6) + 256 * ((c6 + c7) + 256 * ((c7) + 256 * (0))))))))) + ((c2 + c3) + 256 * ((c3 + c4) + 256 * ((c4 + c5) + 256 * ((c5 + c6) + 256 * ((c6 + c7) + 256 * ((c7) + 256 * (0))))))) = (c0 + c1 + c2 + c3) + 256 * ((c1 + c2 + c3 + c4) + 256 * ((c2 + c3 + c4 + c5) + 256 * ((c3 + c4 + c5 + c6) + 256 * ((c4 + c5 + c6 + c7) + 256 * ((c5 + c6 + c7) + 256 * ((c6 + c7) + 256 * ((c7) + 256 * (0)))))))) := by omega
theorem bc_l6 (c0 c1 c2 c3 c4 c5 c6 c7 : Nat) : ((c0 + c1 + c2 + c3) + 256 * ((c1 + c2 + c3 + c4) + 256 * ((c2 + c3 + c4 + c5) + 256 * ((c3 + c4 + c5 + c6) + 256 * ((c4 + c5 + c6 + c7) + 256 * ((c5 + c6 + c7) + 256 * ((c6 + c7) + 256 * ((c7) + 256 * (0))))))))) + ((c4 + c5 + c6 + c7) + 256 * ((c5 + c6 + c7) + 256 * ((c6 + c7) + 256 * ((c7) + 256 * (0))))) = (c0 + c1 + c2 + c3 + c4 + c5 + c6 + c7) + 256 * ((c1 + c2 + c3 + c4 + c5 + c6 + c7) + 256 * ((c2 + c3 + c4 + c5 + c6 + c7) + 256 * ((c3 + c4 + c5 + c6 + c7) + 256 * ((c4 + c5 + c6 + c7) + 256 * ((c5 + c6 + c7) + 256 * ((c6 + c7) + 256 * ((c7) + 256 * (0)))))))) := by omega
theorem bc_sum (c0 c1 c2 c3 c4 c5 c6 c7 : Nat) (h0 : c0 ≤ 8) (h1 : c1 ≤ 8) (h2 : c2 ≤ 8) (h3 : c3 ≤ 8) (h4 : c4 ≤ 8) (h5 : c5 ≤ 8) (h6 : c6 ≤ 8) (h7 : c7 ≤ 8) : ∀ (x3 x4 x5 x6 : Nat), x3 = c0 + 256 * (c1 + 256 * (c2 + 256 * (c3 + 256 * (c4 + 256 * (c5 + 256 * (c6 + 256 * (c7 + 256 * (0)))))))) → x4 = x3 + x3 / 256 → x5 = x4 + x4 / 65536 → x6 = x5 + x5 / 4294967296 → x6 % 128 = c0 + (c1 + (c2 + (c3 + (c4 + (c5 + (c6 + (c7))))))) := by
  have b0 : c0 < 256 := by omega
  have b1 : c0 + c1 < 256 := by omega
  have b2 : c1 + c2 < 256 := by omega
  have b3 : c0 + c1 + c2 + c3 < 256 := by omega
  have b4 : c1 + c2 + c3 + c4 < 256 := by omega
  have b5 : c2 + c3 + c4 + c5 < 256 := by omega
  have b6 : c3 + c4 + c5 + c6 < 256 := by omega
  have b7 : c0 + c1 + c2 + c3 + c4 + c5 + c6 + c7 < 128 := by omega
  intro x3 x4 x5 x6 e3 e4 e5 e6
  have d3 : x3 / 256 = c1 + 256 * (c2 + 256 * (c3 + 256 * (c4 + 256 * (c5 + 256 * (c6 + 256 * (c7 + 256 * (0))))))) := bc_d3 _ _ _ b0 e3
  have f4 : x4 = (c0 + c1) + 256 * ((c1 + c2) + 256 * ((c2 + c3) + 256 * ((c3 + c4) + 256 * ((c4 + c5) + 256 * ((c5 + c6) + 256 * ((c6 + c7) + 256 * ((c7) + 256 * (0)))))))) := by rw [e4, d3, e3]; exact bc_l4 _ _ _ _ _ _ _ _
  have d4 : x4 / 65536 = (c2 + c3) + 256 * ((c3 + c4) + 256 * ((c4 + c5) + 256 * ((c5 + c6) + 256 * ((c6 + c7) + 256 * ((c7) + 256 * (0)))))) := bc_d4 _ _ _ _ b1 b2 f4
  have f5 : x5 = (c0 + c1 + c2 + c3) + 256 * ((c1 + c2 + c3 + c4) + 256 * ((c2 + c3 + c4 + c5) + 256 * ((c3 + c4 + c5 + c6) + 256 * ((c4 + c5 + c6 + c7) + 256 * ((c5 + c6 + c7) + 256 * ((c6 + c7) + 256 * ((c7) + 256 * (0)))))))) := by rw [e5, d4, f4]; exact bc_l5 _ _ _ _ _ _ _ _
  have d5 : x5 / 4294967296 = (c4 + c5 + c6 + c7) + 256 * ((c5 + c6 + c7) + 256 * ((c6 + c7) + 256 * ((c7) + 256 * (0)))) := bc_d5 _ _ _ _ _ _ b3 b4 b5 b6 f5
  have f6 : x6 = (c0 + c1 + c2 + c3 + c4 + c5 + c6 + c7) + 256 * ((c1 + c2 + c3 + c4 + c5 + c6 + c7) + 256 * ((c2 + c3 + c4 + c5 + c6 + c7) + 256 * ((c3 + c4 + c5 + c6 + c7) + 256 * ((c4 + c5 + c6 + c7) + 256 * ((c5 + c6 + c7) + 256 * ((c6 + c7) + 256 * ((c7) + 256 * (0)))))))) := by rw [e6, d5, f5]; exact bc_l6 _ _ _ _ _ _ _ _
  have := bc_d6 _ _ _ b7 f6
  rw [this]
  clear this f6 d5 f5 d4 f4 d3 e6 e5 e4 e3
  omega
theorem BC_ok : BC := by
  intro v M
  obtain ⟨n, hn, rfl⟩ := wb_of v
  unfold D_J13_bitCount_95d88
  have k1 : (6148914691236517205 : Int64) = lN (bmk 85 8) := by decide +kernel
  have k2 : (3689348814741910323 : Int64) = lN (bmk 51 8) := by decide +kernel
  have k3 : (1085102592571150095 : Int64) = lN (bmk 15 8) := by decide +kernel
  have c1 : Int32.ofInt (1 : Int) = nI 1 := rfl
  have c2 : Int32.ofInt (2 : Int) = nI 2 := rfl
  have c4 : Int32.ofInt (4 : Int) = nI 4 := rfl
  have c8 : Int32.ofInt (8 : Int) = nI 8 := rfl
  have c16 : Int32.ofInt (16 : Int) = nI 16 := rfl
  have c32 : Int32.ofInt (32 : Int) = nI 32 := rfl
  have b5 : bmk 85 8 < 2 ^ 64 := by decide +kernel
  have b3 : bmk 51 8 < 2 ^ 64 := by decide +kernel
  have bf : bmk 15 8 < 2 ^ 64 := by decide +kernel
  -- the first step
  have s1 : lN n - ((((lN n).toUInt64 >>> ((Int32.ofInt (1 : Int)).toInt64.toUInt64 &&& Int64.toUInt64 63)).toInt64) &&& (6148914691236517205 : Int64)) = lN (bs1 8 n) := by
    rw [c1, wb_shr hn (by decide), k1, wb_and (by omega) b5, wb_sub (Nat.le_trans Nat.and_le_left (by omega))]
    rfl
  have n1 : bs1 8 n < 2 ^ 64 := by
    exact Nat.lt_of_le_of_lt (Nat.sub_le _ _) hn
  have n0 : bs1 8 n < 2 ^ 64 := n1
  obtain ⟨x1, hx1⟩ : ∃ x1, x1 = bs1 8 n := ⟨_, rfl⟩
  rw [← hx1] at n0
  rw [s1, ← hx1]
  have s2 : (lN x1 &&& (3689348814741910323 : Int64)) + ((((lN x1).toUInt64 >>> ((Int32.ofInt (2 : Int)).toInt64.toUInt64 &&& Int64.toUInt64 63)).toInt64) &&& (3689348814741910323 : Int64)) = lN (bs2 8 x1) := by
    rw [c2, wb_shr n0 (by decide), k2, wb_and n0 b3, wb_and (by omega) b3, wb_add]
    all_goals rfl
  obtain ⟨x2, hx2⟩ : ∃ x2, x2 = bs2 8 x1 := ⟨_, rfl⟩
  have n2 : x2 ≤ 7378697629483820646 := by
    rw [hx2]
    exact Nat.le_trans (Nat.add_le_add Nat.and_le_right Nat.and_le_right) (by decide +kernel)
  rw [s2, ← hx2]
  have s3 : (lN x2 + (((lN x2).toUInt64 >>> ((Int32.ofInt (4 : Int)).toInt64.toUInt64 &&& Int64.toUInt64 63)).toInt64)) &&& (1085102592571150095 : Int64) = lN (bs3 8 x2) := by
    rw [c4, wb_shr (by omega) (by decide), k3, wb_add, wb_and (by omega) bf]
    all_goals rfl
  obtain ⟨x3, hx3⟩ : ∃ x3, x3 = bs3 8 x2 := ⟨_, rfl⟩
  have n3 : x3 ≤ 1085102592571150095 := by
    rw [hx3]
    exact Nat.le_trans Nat.and_le_right (by decide +kernel)
  rw [s3, ← hx3]
  have s4 : lN x3 + (((lN x3).toUInt64 >>> ((Int32.ofInt (8 : Int)).toInt64.toUInt64 &&& Int64.toUInt64 63)).toInt64) = lN (x3 + x3 / 256) := by
    rw [c8, wb_shr (by omega) (by decide), wb_add]
    all_goals rfl
  obtain ⟨x4, hx4⟩ : ∃ x4, x4 = x3 + x3 / 256 := ⟨_, rfl⟩
  rw [s4, ← hx4]
  have s5 : lN x4 + (((lN x4).toUInt64 >>> ((Int32.ofInt (16 : Int)).toInt64.toUInt64 &&& Int64.toUInt64 63)).toInt64) = lN (x4 + x4 / 65536) := by
    rw [c16, wb_shr (by omega) (by decide), wb_add]
    all_goals rfl
  obtain ⟨x5, hx5⟩ : ∃ x5, x5 = x4 + x4 / 65536 := ⟨_, rfl⟩
  rw [s5, ← hx5]
  have s6 : lN x5 + (((lN x5).toUInt64 >>> ((Int32.ofInt (32 : Int)).toInt64.toUInt64 &&& Int64.toUInt64 63)).toInt64) = lN (x5 + x5 / 4294967296) := by
    rw [c32, wb_shr (by omega) (by decide), wb_add]
    all_goals rfl
  obtain ⟨x6, hx6⟩ : ∃ x6, x6 = x5 + x5 / 4294967296 := ⟨_, rfl⟩
  rw [s6, ← hx6, b32]
  have e3 : x3 = bpp 8 n := by
    rw [hx3, hx2, hx1]
    exact bs3_s 8 n (Nat.lt_of_lt_of_le hn (by decide +kernel))
  rw [bpp_8] at e3
  have := bc_sum _ _ _ _ _ _ _ _ (xct_le _ 8) (xct_le _ 8) (xct_le _ 8) (xct_le _ 8) (xct_le _ 8) (xct_le _ 8) (xct_le _ 8) (xct_le _ 8) x3 x4 x5 x6 e3 hx4 hx5 hx6
  rw [this, ← xpc_lN]
