/-! numbers: an int is z of an Int, a long is zl of one -/
def z (x : Int) : Int32 := Int32.ofInt x
def zl (x : Int) : Int64 := Int64.ofInt x
/-- what an int of that Int shows -/
def w32 (x : Int) : Int := (x + 2147483648) % 4294967296 - 2147483648
def w64 (x : Int) : Int := (x + 9223372036854775808) % 18446744073709551616 - 9223372036854775808
theorem bmod32 (x : Int) : x.bmod 4294967296 = w32 x := by unfold w32; rw [Int.bmod_def]; split <;> omega
theorem bmod64 (x : Int) : x.bmod 18446744073709551616 = w64 x := by unfold w64; rw [Int.bmod_def]; split <;> omega
theorem z_toInt (x : Int) : (z x).toInt = w32 x := by rw [← bmod32]; exact Int32.toInt_ofInt
theorem zl_toInt (x : Int) : (zl x).toInt = w64 x := by rw [← bmod64]; exact Int64.toInt_ofInt
theorem z_self (v : Int32) : z v.toInt = v := Int32.ofInt_toInt v
theorem zl_self (v : Int64) : zl v.toInt = v := Int64.ofInt_toInt v
theorem w32_id {x : Int} (h1 : -2147483648 ≤ x) (h2 : x < 2147483648) : w32 x = x := by unfold w32; omega
theorem w64_id {x : Int} (h1 : -9223372036854775808 ≤ x) (h2 : x < 9223372036854775808) : w64 x = x := by unfold w64; omega
theorem w32_lo (x : Int) : -2147483648 ≤ w32 x := by unfold w32; omega
theorem w32_hi (x : Int) : w32 x < 2147483648 := by unfold w32; omega
theorem z_eq_iff {x y : Int} : z x = z y ↔ w32 x = w32 y := by rw [← Int32.toInt_inj, z_toInt, z_toInt]
theorem zl_eq_iff {x y : Int} : zl x = zl y ↔ w64 x = w64 y := by rw [← Int64.toInt_inj, zl_toInt, zl_toInt]
theorem z_lt_iff {x y : Int} : z x < z y ↔ w32 x < w32 y := by rw [Int32.lt_iff_toInt_lt, z_toInt, z_toInt]
theorem z_le_iff {x y : Int} : z x ≤ z y ↔ w32 x ≤ w32 y := by rw [Int32.le_iff_toInt_le, z_toInt, z_toInt]
theorem zl_lt_iff {x y : Int} : zl x < zl y ↔ w64 x < w64 y := by rw [Int64.lt_iff_toInt_lt, zl_toInt, zl_toInt]
theorem z_w (x : Int) : z (w32 x) = z x := by rw [z_eq_iff]; unfold w32; omega
theorem zl_w (x : Int) : zl (w64 x) = zl x := by rw [zl_eq_iff]; unfold w64; omega
theorem z_add (x y : Int) : z x + z y = z (x + y) := (Int32.ofInt_add x y).symm
theorem z_sub (x y : Int) : z x - z y = z (x - y) := (Int32.ofInt_sub x y).symm
theorem z_mul (x y : Int) : z x * z y = z (x * y) := (Int32.ofInt_mul x y).symm
theorem z_neg (x : Int) : - z x = z (-x) := (Int32.ofInt_neg x).symm
theorem zl_add (x y : Int) : zl x + zl y = zl (x + y) := (Int64.ofInt_add x y).symm
theorem zl_sub (x y : Int) : zl x - zl y = zl (x - y) := (Int64.ofInt_sub x y).symm
theorem zl_mul (x y : Int) : zl x * zl y = zl (x * y) := (Int64.ofInt_mul x y).symm
theorem zl_neg (x : Int) : - zl x = zl (-x) := (Int64.ofInt_neg x).symm
theorem z_of (v : Int32) : ∃ x : Int, v = z x ∧ -2147483648 ≤ x ∧ x < 2147483648 := ⟨v.toInt, (z_self v).symm, by have := v.le_toInt; simpa using this, by have := v.toInt_lt; simpa using this⟩
def band (x y : Int) : Int := (z x &&& z y).toInt
def bor (x y : Int) : Int := (z x ||| z y).toInt
def bxor (x y : Int) : Int := (z x ^^^ z y).toInt
def bshl (x y : Int) : Int := (z x <<< (z y &&& 31)).toInt
def bshr (x y : Int) : Int := (z x >>> (z y &&& 31)).toInt
def bushr (x y : Int) : Int := ((z x).toUInt32 >>> ((z y).toUInt32 &&& Int32.toUInt32 31)).toInt32.toInt
def bdiv (x y : Int) : Int := (z x / z y).toInt
def brem (x y : Int) : Int := (z x - z x / z y * z y).toInt
def bi2b (x : Int) : Int := (z x).toInt8.toInt32.toInt
def bi2c (x : Int) : Int := ((z x).toUInt32 % 65536).toInt32.toInt
def bland (x y : Int) : Int := (zl x &&& zl y).toInt
def blor (x y : Int) : Int := (zl x ||| zl y).toInt
def blshl (x y : Int) : Int := (zl x <<< ((z y).toInt64 &&& 63)).toInt
def bldiv (x y : Int) : Int := (zl x / zl y).toInt
def blrem (x y : Int) : Int := (zl x - zl x / zl y * zl y).toInt
theorem z_band (x y : Int) : z x &&& z y = z (band x y) := (z_self _).symm
theorem z_bor (x y : Int) : z x ||| z y = z (bor x y) := (z_self _).symm
theorem z_bxor (x y : Int) : z x ^^^ z y = z (bxor x y) := (z_self _).symm
theorem z_bshl (x y : Int) : z x <<< (z y &&& 31) = z (bshl x y) := (z_self _).symm
theorem z_bshr (x y : Int) : z x >>> (z y &&& 31) = z (bshr x y) := (z_self _).symm
theorem z_i2l (x : Int) : (z x).toInt64 = zl (w32 x) := by rw [← Int64.toInt_inj, Int32.toInt_toInt64, z_toInt, zl_toInt]; unfold w64 w32; omega
theorem zl_l2i (x : Int) : (zl x).toInt32 = z x := Int64.toInt32_ofInt
def up {α : Type} (f : Nat → α) (k : Nat) (v : α) : Nat → α := fun j => if j = k then v else f j
theorem up_same {α : Type} (f : Nat → α) (k : Nat) (v : α) : up f k v k = v := if_pos rfl
theorem up_ne {α : Type} (f : Nat → α) {k j : Nat} (v : α) (h : j ≠ k) : up f k v j = f j := if_neg h
theorem up_up {α : Type} (f : Nat → α) (k : Nat) (v w : α) : up (up f k v) k w = up f k w := by funext j; unfold up; split <;> rfl
theorem up_self {α : Type} (f : Nat → α) (k : Nat) : up f k (f k) = f := by funext j; unfold up; split <;> simp_all
