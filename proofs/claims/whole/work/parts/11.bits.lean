/-! bits: what the machine's ints do to numbers that are not negative -/
theorem zn_bv (n : Nat) : (z (n : Int)).toBitVec = BitVec.ofNat 32 n := by
  show (Int32.ofInt (n : Int)).toBitVec = _
  rw [Int32.ofInt_eq_ofNat]; rfl
theorem bv_toInt {x : BitVec 32} {n : Nat} (h : x.toNat = n) (hn : n < 2147483648) : x.toInt = n := by
  rw [BitVec.toInt_eq_toNat_of_lt (by rw [h]; omega), h]
theorem bvn {n : Nat} (h : n < 4294967296) : (BitVec.ofNat 32 n).toNat = n := by rw [BitVec.toNat_ofNat]; exact Nat.mod_eq_of_lt h
theorem band_n {a b : Nat} (ha : a < 2147483648) (hb : b < 2147483648) : band (a : Int) (b : Int) = ((a &&& b : Nat) : Int) := by
  show (z (a : Int) &&& z (b : Int)).toBitVec.toInt = _
  rw [Int32.toBitVec_and, zn_bv, zn_bv]
  refine bv_toInt (by rw [BitVec.toNat_and, bvn (by omega), bvn (by omega)]) ?_
  exact Nat.lt_of_le_of_lt Nat.and_le_left ha
theorem bor_n {a b : Nat} (ha : a < 2147483648) (hb : b < 2147483648) : bor (a : Int) (b : Int) = ((a ||| b : Nat) : Int) := by
  show (z (a : Int) ||| z (b : Int)).toBitVec.toInt = _
  rw [Int32.toBitVec_or, zn_bv, zn_bv]
  refine bv_toInt (by rw [BitVec.toNat_or, bvn (by omega), bvn (by omega)]) ?_
  exact Nat.or_lt_two_pow (n := 31) ha hb
theorem sh31 {k : Nat} (hk : k < 32) : z (k : Int) &&& 31 = z (k : Int) := by
  apply Int32.toBitVec.inj
  rw [Int32.toBitVec_and, zn_bv]
  apply BitVec.eq_of_toNat_eq
  rw [BitVec.toNat_and, bvn (by omega), show (31 : Int32).toBitVec.toNat = 2 ^ 5 - 1 from rfl, Nat.and_two_pow_sub_one_eq_mod]
  exact Nat.mod_eq_of_lt hk
theorem smod32 {k : Nat} (hk : k < 32) : ((z (k : Int)).toBitVec.smod 32).toNat = k := by
  rw [zn_bv]
  exact (by decide : ∀ k, k < 32 → ((BitVec.ofNat 32 k).smod 32).toNat = k) k hk
theorem zn (n : Nat) : z (n : Int) = nI n := Int32.ofInt_eq_ofNat
theorem bshl_n {a k : Nat} (hk : k < 32) (h : a * 2 ^ k < 2147483648) : bshl (a : Int) (k : Int) = ((a * 2 ^ k : Nat) : Int) := by
  unfold bshl
  rw [sh31 hk, zn a, pk_shlN (z (k : Int)) k (smod32 hk) (by omega), nI_toInt (by omega)]
theorem bshr_n {a k : Nat} (hk : k < 32) (h : a < 2147483648) : bshr (a : Int) (k : Int) = ((a / 2 ^ k : Nat) : Int) := by
  unfold bshr
  rw [sh31 hk, zn a, pk_shrN (by omega) (z (k : Int)) k (smod32 hk), nI_toInt (Nat.lt_of_le_of_lt (Nat.div_le_self _ _) (by omega))]
/-- a without b -/
def wo (a b : Nat) : Nat := a ^^^ (a &&& b)
theorem wo_bit (a b i : Nat) : (wo a b).testBit i = (a.testBit i && !b.testBit i) := by
  unfold wo
  rw [Nat.testBit_xor, Nat.testBit_and]
  cases a.testBit i <;> cases b.testBit i <;> rfl
theorem wo_le (a b : Nat) : wo a b ≤ a := by
  apply Nat.le_of_testBit
  intro i h
  rw [wo_bit] at h
  exact (Bool.and_eq_true_iff.mp h).1
theorem bandn_n {a b : Nat} (ha : a < 2147483648) (hb : b < 2147483648) : band (a : Int) (bxor (b : Int) (-1)) = ((wo a b : Nat) : Int) := by
  show (z (a : Int) &&& z (bxor (b : Int) (-1))).toBitVec.toInt = _
  rw [← z_bxor, Int32.toBitVec_and, Int32.toBitVec_xor, zn_bv, zn_bv]
  refine bv_toInt ?_ (Nat.lt_of_le_of_lt (wo_le a b) ha)
  apply Nat.eq_of_testBit_eq
  intro i
  rw [wo_bit, BitVec.testBit_toNat, BitVec.getLsbD_and, BitVec.getLsbD_xor, BitVec.getLsbD_ofNat, BitVec.getLsbD_ofNat]
  have hm : (z (-1)).toBitVec = BitVec.allOnes 32 := rfl
  rw [hm, BitVec.getLsbD_allOnes]
  by_cases hi : i < 32
  · simp [hi]
  · have h1 : a.testBit i = false := Nat.testBit_lt_two_pow (Nat.lt_of_lt_of_le ha (Nat.le_trans (by decide : 2147483648 ≤ 2 ^ 32) (Nat.pow_le_pow_right (by decide) (by omega))))
    simp [hi, h1]
theorem bit_of (a k : Nat) : a / 2 ^ k &&& 1 = (a.testBit k).toNat := by
  rw [Nat.and_one_is_mod, Nat.testBit_eq_decide_div_mod_eq]
  have : a / 2 ^ k % 2 < 2 := Nat.mod_lt _ (by decide)
  rcases (show a / 2 ^ k % 2 = 0 ∨ a / 2 ^ k % 2 = 1 by omega) with h | h <;> rw [h] <;> rfl
theorem bit_n {a k : Nat} (hk : k < 32) (h : a < 2147483648) : band (bshr (a : Int) (k : Int)) 1 = (((a.testBit k).toNat : Nat) : Int) := by
  rw [bshr_n hk h, show (1 : Int) = ((1 : Nat) : Int) from rfl, band_n (Nat.lt_of_le_of_lt (Nat.div_le_self _ _) h) (by decide), bit_of]
/-- how many of the first k bits -/
def cnt : Nat → Nat → Nat
  | 0, _ => 0
  | k + 1, n => cnt k n + (n.testBit k).toNat
theorem cnt_le (k n : Nat) : cnt k n ≤ k := by
  induction k with
  | zero => exact Nat.le_refl 0
  | succ k ih => unfold cnt; have := Bool.toNat_le (n.testBit k); omega
theorem one_lt {k : Nat} (hk : k < 31) : 1 * 2 ^ k < 2147483648 := by
  rw [Nat.one_mul]; exact Nat.pow_lt_pow_right (by decide) hk
theorem bshl_1 {k : Nat} (hk : k < 31) : bshl 1 (k : Int) = ((2 ^ k : Nat) : Int) := by
  have := bshl_n (a := 1) (k := k) (by omega) (one_lt hk)
  rw [Nat.one_mul] at this
  exact this
