/-- the set of those below n that p holds of -/
def bs (p : Nat → Bool) : Nat → Nat
  | 0 => 0
  | k + 1 => bs p k + (if p k = true then 2 ^ k else 0)
theorem bs_lt (p : Nat → Bool) : ∀ n, bs p n < 2 ^ n := by
  intro n
  induction n with
  | zero => exact Nat.zero_lt_one
  | succ n ih => unfold bs; rw [Nat.pow_succ]; split <;> omega
theorem bs_or (p : Nat → Bool) (n : Nat) (h : p n = true) : bs p (n + 1) = bs p n ||| 2 ^ n := by
  rw [bs, if_pos h, show bs p n + 2 ^ n = 2 ^ n * 1 + bs p n by omega, Nat.two_pow_add_eq_or_of_lt (bs_lt p n), Nat.mul_one, Nat.or_comm]
theorem bs_no (p : Nat → Bool) (n : Nat) (h : p n = false) : bs p (n + 1) = bs p n := by rw [bs, if_neg (by rw [h]; decide)]; rfl
theorem bs_bit (p : Nat → Bool) : ∀ n j, (bs p n).testBit j = (decide (j < n) && p j) := by
  intro n
  induction n with
  | zero => intro j; unfold bs; rw [Nat.zero_testBit]; simp
  | succ n ih =>
    intro j
    cases hp : p n with
    | false =>
      rw [bs_no p n hp, ih]
      by_cases he : j = n
      · subst he; simp [hp]
      · simp [show (j < n + 1) = (j < n) by apply propext; constructor <;> intro <;> omega]
    | true =>
      rw [bs_or p n hp, Nat.testBit_or, bit_ne, ih]
      by_cases he : n = j
      · subst he; simp [hp]
      · simp [he, show (j < n + 1) = (j < n) by apply propext; constructor <;> intro <;> omega]
theorem bs_eq {p : Nat → Bool} {n x : Nat} (h : ∀ j, x.testBit j = (decide (j < n) && p j)) : x = bs p n := by
  apply Nat.eq_of_testBit_eq
  intro j
  rw [h, bs_bit]
theorem and_ne0 (a b : Nat) : a &&& b ≠ 0 ↔ ∃ j, a.testBit j = true ∧ b.testBit j = true := by
  constructor
  · intro h
    obtain ⟨j, hj⟩ := Nat.exists_testBit_of_ne_zero h
    rw [Nat.testBit_and, Bool.and_eq_true] at hj
    exact ⟨j, hj⟩
  · rintro ⟨j, h1, h2⟩ h
    have : (a &&& b).testBit j = true := by rw [Nat.testBit_and, h1, h2]; rfl
    rw [h, Nat.zero_testBit] at this; cases this
theorem ntz_all : ((List.range 1024).all fun x => decide (x ≠ 0 → ntz x < 10 ∧ x.testBit (ntz x) = true) && (List.range (ntz x)).all (fun j => x == 0 || !x.testBit j)) = true := by decide +kernel
theorem ntz_lo {x : Nat} (h : x < 1024) (h0 : x ≠ 0) : ntz x < 10 ∧ x.testBit (ntz x) = true ∧ ∀ j, j < ntz x → x.testBit j = false := by
  have := List.all_eq_true.mp ntz_all x (List.mem_range.mpr h)
  rw [Bool.and_eq_true] at this
  obtain ⟨a, b⟩ := of_decide_eq_true this.1 h0
  refine ⟨a, b, fun j hj => ?_⟩
  have := List.all_eq_true.mp this.2 j (List.mem_range.mpr hj)
  rw [Bool.or_eq_true] at this
  rcases this with q | q
  · exact absurd (by simpa using q) h0
  · simpa using q
def lnP (σ : Nat → Int) (set i : Nat) : Bool := decide (0 < σ (70 + 3 * i)) && decide (nrN σ i &&& set ≠ 0)
