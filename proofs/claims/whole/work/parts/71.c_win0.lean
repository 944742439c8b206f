/-! the fewest returns -/
def gF (σ : Nat → Int) (n k : Nat) : Int := ptT σ (fun _ => 0) n (k + 1) k
theorem ptT_at (σ p : Nat → Int) (n : Nat) {j k : Nat} (h : j < k) : ptT σ p n k j = ptT σ p n (j + 1) j := by
  have := ptT_keep σ p n (j := j) (k := j + 1) (by omega) (k - (j + 1))
  rwa [show j + 1 + (k - (j + 1)) = k by omega] at this
theorem ptT_p (σ p q : Nat → Int) (n : Nat) : ∀ k j, j < k → ptT σ p n k j = ptT σ q n k j := by
  intro k
  induction k with
  | zero => intro j hj; omega
  | succ k ih =>
    intro j hj
    unfold ptT
    by_cases he : j = k
    · subst he
      rw [up_same, up_same]
      unfold ptV
      rw [mxT_congr (p := ptT σ p n j) (q := ptT σ q n j) ih]
    · rw [up_ne _ _ he, up_ne _ _ he]; exact ih j (by omega)
theorem gF_of (σ p : Nat → Int) (n : Nat) {j k : Nat} (h : j < k) : ptT σ p n k j = gF σ n j := by
  rw [ptT_at σ p n h]; exact ptT_p σ p _ n (j + 1) j (by omega)
theorem gF_eq (σ : Nat → Int) (n k : Nat) : gF σ n k = mxT (gF σ n) k n + (if smT σ k n = 0 ∧ k ≠ 0 then 1 else 0) := by
  unfold gF
  show ptT σ (fun _ => 0) n (k + 1) k = _
  rw [ptT, up_same]
  unfold ptV
  rw [mxT_congr (p := ptT σ (fun _ => 0) n k) (q := gF σ n) (fun j hj => gF_of σ _ n hj)]
  rfl
theorem gF_0 (σ : Nat → Int) (n k : Nat) (hk : k < 1024) : 0 ≤ gF σ n k := (ptT_r σ (fun _ => 0) n (k + 1) (by omega) k (by omega)).1
theorem mxT_ub {p : Nat → Int} {k : Nat} : ∀ h i, i < h → k.testBit i = true → p (wo k (2 ^ i)) ≤ mxT p k h := by
  intro h
  induction h with
  | zero => intro i hi; omega
  | succ h ih =>
    intro i hi hb
    unfold mxT
    by_cases he : i = h
    · subst he; rw [if_pos hb]; split <;> omega
    · have := ih i (by omega) hb
      split
      · split <;> omega
      · exact this
theorem mxT_ex {p : Nat → Int} {k : Nat} : ∀ h, mxT p k h = 0 ∨ ∃ i, i < h ∧ k.testBit i = true ∧ mxT p k h = p (wo k (2 ^ i)) := by
  intro h
  induction h with
  | zero => exact Or.inl rfl
  | succ h ih =>
    unfold mxT
    by_cases hb : k.testBit h = true
    · rw [if_pos hb]
      split
      · exact Or.inr ⟨h, by omega, hb, rfl⟩
      · rcases ih with q | ⟨i, q1, q2, q3⟩
        · exact Or.inl q
        · exact Or.inr ⟨i, by omega, q2, q3⟩
    · rw [if_neg hb]
      rcases ih with q | ⟨i, q1, q2, q3⟩
      · exact Or.inl q
      · exact Or.inr ⟨i, by omega, q2, q3⟩
theorem bit_ne {a b : Nat} : (2 ^ a).testBit b = decide (a = b) := Nat.testBit_two_pow
theorem smT_or {σ : Nat → Int} {k z : Nat} (hz : σ (71 + 3 * z) = 0) : ∀ h, smT σ (k ||| 2 ^ z) h = smT σ k h := by
  intro h
  induction h with
  | zero => rfl
  | succ h ih =>
    unfold smT
    rw [Nat.testBit_or, bit_ne, ih]
    by_cases he : z = h
    · subst he
      simp only [decide_true, Bool.or_true, if_true, hz]
      split <;> omega
    · simp [he]
theorem smT_wo {σ : Nat → Int} {k i : Nat} (hb : k.testBit i = true) : ∀ h, smT σ k h = smT σ (wo k (2 ^ i)) h + (if i < h then σ (71 + 3 * i) else 0) := by
  intro h
  induction h with
  | zero => rfl
  | succ h ih =>
    unfold smT
    rw [wo_bit, bit_ne, ih]
    by_cases he : i = h
    · subst he
      simp [hb]
    · have h1 : (i < h + 1) = (i < h) := by apply propext; constructor <;> intro <;> omega
      simp only [he, decide_false, Bool.not_false, Bool.and_true, h1]
      cases hq : k.testBit h
      · simp
      · simp only [if_true]; omega
theorem wo_or_ne {k z i : Nat} (h : i ≠ z) : wo (k ||| 2 ^ z) (2 ^ i) = wo k (2 ^ i) ||| 2 ^ z := by
  apply Nat.eq_of_testBit_eq
  intro j
  simp only [wo_bit, Nat.testBit_or, bit_ne]
  by_cases h1 : i = j
  · subst h1; simp [show ¬ z = i from fun e => h e.symm]
  · simp [h1]
theorem ex_bit {k : Nat} (h : k ≠ 0) {n : Nat} (hn : k < 2 ^ n) : ∃ i, i < n ∧ k.testBit i = true := by
  obtain ⟨i, hi⟩ := Nat.exists_testBit_of_ne_zero h
  refine ⟨i, ?_, hi⟩
  rcases Nat.lt_or_ge i n with q | q
  · exact q
  · have := Nat.testBit_lt_two_pow (Nat.lt_of_lt_of_le hn (Nat.pow_le_pow_right (by decide) q))
    rw [hi] at this; cases this
theorem gF_z {σ : Nat → Int} {n z : Nat} (hn : n ≤ 10) (hz : σ (71 + 3 * z) = 0) (hzn : z < n) : ∀ k, k < 2 ^ n → k.testBit z = false → gF σ n (k ||| 2 ^ z) = gF σ n k + 1 := by
  intro k
  induction k using Nat.strongRecOn with
  | _ k ih =>
    intro hk hb
    have hp : (2 : Nat) ^ n ≤ 1024 := Nat.pow_le_pow_right (n := 2) (by decide) hn
    have hor := or_lt hk hzn
    have hgt := or_gt hb
    have hself : (k ||| 2 ^ z).testBit z = true := by rw [Nat.testBit_or, bit_ne]; simp
    have e1 := gF_eq σ n (k ||| 2 ^ z)
    have e2 := gF_eq σ n k
    rw [smT_or hz] at e1
    have u1 := mxT_ub (p := gF σ n) n z hzn hself
    rw [wo_back hb] at u1
    have up1 : mxT (gF σ n) (k ||| 2 ^ z) n ≤ max (gF σ n k) (mxT (gF σ n) k n + 1) := by
      rcases mxT_ex (p := gF σ n) (k := k ||| 2 ^ z) n with q | ⟨i, q1, q2, q3⟩
      · rw [q]; have := gF_0 σ n k (by omega); omega
      · rw [q3]
        by_cases he : i = z
        · subst he; rw [wo_back hb]; omega
        · have hbi : k.testBit i = true := by rw [Nat.testBit_or, bit_ne] at q2; simpa [show ¬ z = i from fun e => he e.symm] using q2
          rw [wo_or_ne he]
          have hlt := wo_lt hbi
          rw [ih _ hlt (by omega) (by rw [wo_bit, hb]; rfl)]
          have := mxT_ub (p := gF σ n) n i q1 hbi
          omega
    by_cases h0 : k = 0
    · subst h0
      have m0 : mxT (gF σ n) 0 n = 0 := by
        rcases mxT_ex (p := gF σ n) (k := 0) n with q | ⟨i, q1, q2, q3⟩
        · exact q
        · rw [Nat.zero_testBit] at q2; cases q2
      have s0 : ∀ h, smT σ 0 h = 0 := fun h => by
        induction h with
        | zero => rfl
        | succ h ih => unfold smT; rw [Nat.zero_testBit]; simp [ih]
      rw [if_neg (by simp)] at e2
      rw [if_pos ⟨s0 n, by omega⟩] at e1
      have m1 : mxT (gF σ n) (0 ||| 2 ^ z) n ≤ gF σ n 0 := by
        rcases mxT_ex (p := gF σ n) (k := 0 ||| 2 ^ z) n with q | ⟨i, q1, q2, q3⟩
        · omega
        · have hiz : z = i := by simpa [bit_ne] using q2
          subst hiz
          rw [q3, wo_back hb]
          exact Int.le_refl _
      omega
    · obtain ⟨i, hi, hbi⟩ := ex_bit h0 hk
      have lo : mxT (gF σ n) k n + 1 ≤ mxT (gF σ n) (k ||| 2 ^ z) n := by
        have hx : ∃ i, i < n ∧ k.testBit i = true ∧ mxT (gF σ n) k n ≤ gF σ n (wo k (2 ^ i)) := by
          rcases mxT_ex (p := gF σ n) (k := k) n with q | ⟨i, q1, q2, q3⟩
          · exact ⟨i, hi, hbi, by rw [q]; exact gF_0 σ n _ (by have := wo_le k (2 ^ i); omega)⟩
          · exact ⟨i, q1, q2, by omega⟩
        obtain ⟨j, j1, j2, j3⟩ := hx
        have hjz : j ≠ z := fun e => by rw [e, hb] at j2; cases j2
        have hlt := wo_lt j2
        have := mxT_ub (p := gF σ n) (k := k ||| 2 ^ z) n j j1 (by rw [Nat.testBit_or, j2]; rfl)
        rw [wo_or_ne hjz, ih _ hlt (by omega) (by rw [wo_bit, hb]; rfl)] at this
        omega
      by_cases hs : smT σ k n = 0
      · rw [if_pos ⟨hs, h0⟩] at e2
        rw [if_pos ⟨hs, by omega⟩] at e1
        omega
      · rw [if_neg (fun q => hs q.1)] at e1 e2
        omega
/-- all houses, but for those below k that owe nothing -/
def zT (σ : Nat → Int) (n : Nat) : Nat → Nat
  | 0 => 2 ^ n - 1
  | k + 1 => if σ (71 + 3 * k) ≠ 0 then zT σ n k else wo (zT σ n k) (2 ^ k)
theorem zT_bit (σ : Nat → Int) (n : Nat) : ∀ k j, (zT σ n k).testBit j = (decide (j < n) && (decide (k ≤ j) || decide (σ (71 + 3 * j) ≠ 0))) := by
  intro k
  induction k with
  | zero => intro j; unfold zT; rw [Nat.testBit_two_pow_sub_one]; simp
  | succ k ih =>
    intro j
    unfold zT
    by_cases hz : σ (71 + 3 * k) = 0
    · rw [if_neg (by simpa using hz), wo_bit, bit_ne, ih]
      by_cases he : k = j
      · subst he; simp [hz, show ¬ k + 1 ≤ k by omega]
      · simp [he, show (k + 1 ≤ j) = (k ≤ j) by apply propext; constructor <;> intro <;> omega]
    · rw [if_pos hz, ih]
      by_cases he : k = j
      · subst he; simp [hz]
      · simp [show (k + 1 ≤ j) = (k ≤ j) by apply propext; constructor <;> intro <;> omega]
theorem zT_lt (σ : Nat → Int) (n : Nat) : ∀ k, zT σ n k < 2 ^ n := by
  intro k
  have h1 : 1 ≤ 2 ^ n := Nat.one_le_two_pow
  induction k with
  | zero => unfold zT; omega
  | succ k ih =>
    unfold zT
    split
    · exact ih
    · exact wo_ltn ih
theorem zT_g {σ : Nat → Int} {n : Nat} (hn : n ≤ 10) : ∀ k, k ≤ n → gF σ n (2 ^ n - 1) - (cnt 12 (2 ^ n - 1) : Int) = gF σ n (zT σ n k) - (cnt 12 (zT σ n k) : Int) := by
  intro k
  induction k with
  | zero => intro _; rfl
  | succ k ih =>
    intro hk
    rw [ih (by omega)]
    rw [show zT σ n (k + 1) = if σ (71 + 3 * k) ≠ 0 then zT σ n k else wo (zT σ n k) (2 ^ k) from rfl]
    by_cases hz : σ (71 + 3 * k) = 0
    · rw [if_neg (by simpa using hz)]
      have hb : (zT σ n k).testBit k = true := by rw [zT_bit]; simp; omega
      have hw0 : (wo (zT σ n k) (2 ^ k)).testBit k = false := by rw [wo_bit, bit_ne]; simp
      have e : zT σ n k = wo (zT σ n k) (2 ^ k) ||| 2 ^ k := by
        apply Nat.eq_of_testBit_eq
        intro j
        rw [Nat.testBit_or, wo_bit, bit_ne]
        by_cases he : k = j
        · subst he; simp [hb]
        · simp [he]
      have g := gF_z hn hz (by omega) _ (wo_ltn (zT_lt σ n k)) hw0
      have c := cnt_or 12 _ k hw0
      rw [← e] at g c
      rw [if_pos (by omega)] at c
      omega
    · rw [if_pos hz]
theorem owT_bit (σ : Nat → Int) : ∀ n j, (owT σ n).testBit j = (decide (j < n) && decide (σ (71 + 3 * j) ≠ 0)) := by
  intro n
  induction n with
  | zero => intro j; unfold owT; rw [Nat.zero_testBit]; simp
  | succ n ih =>
    intro j
    unfold owT
    have hl := owT_lt σ n
    by_cases hz : σ (71 + 3 * n) = 0
    · rw [if_neg (by simpa using hz), Nat.add_zero, ih]
      by_cases he : j = n
      · subst he; simp [hz]
      · simp [show (j < n + 1) = (j < n) by apply propext; constructor <;> intro <;> omega]
    · rw [if_pos hz, show owT σ n + 2 ^ n = 2 ^ n * 1 + owT σ n by omega, Nat.two_pow_add_eq_or_of_lt hl, Nat.mul_one, Nat.testBit_or, bit_ne, ih]
      by_cases he : n = j
      · subst he; simp [hz]
      · simp [he, show (j < n + 1) = (j < n) by apply propext; constructor <;> intro <;> omega]
theorem cnt_all : ∀ n k, k ≤ n → cnt k (2 ^ n - 1) = k := by
  intro n k
  induction k with
  | zero => intro _; rfl
  | succ k ih =>
    intro hk
    rw [cnt_s, ih (by omega), Nat.testBit_two_pow_sub_one]
    simp [show k < n by omega]
theorem cnt_alln {n : Nat} (hn : n ≤ 12) : cnt 12 (2 ^ n - 1) = n := by
  have h1 := cnt_all n n (Nat.le_refl _)
  have h2 : ∀ d, n + d ≤ 12 → cnt (n + d) (2 ^ n - 1) = n := by
    intro d
    induction d with
    | zero => intro _; exact h1
    | succ d ih =>
      intro hd
      rw [show n + (d + 1) = n + d + 1 by omega, cnt_s, ih (by omega), Nat.testBit_two_pow_sub_one]
      simp
  have := h2 (12 - n) (by omega)
  rwa [show n + (12 - n) = 12 by omega] at this
theorem win_eq (σ p : Nat → Int) (n : Nat) (hn : n ≤ 10) (h3 : (σ 3).toNat = n) : winF σ p = (n : Int) - gF σ n (2 ^ n - 1) := by
  have e : zT σ n n = owT σ n := by
    apply Nat.eq_of_testBit_eq
    intro j
    rw [zT_bit, owT_bit]
    by_cases h : j < n
    · simp [h, show ¬ n ≤ j by omega]
    · simp [h]
  have g := zT_g (σ := σ) hn n (Nat.le_refl _)
  rw [e, cnt_alln (by omega)] at g
  unfold winF
  rw [h3, gF_of σ p n (owT_lt σ n)]
  omega
theorem low_all : ((List.range 1024).all fun k => decide (k ≠ 0 → ntz k < 10 ∧ k.testBit (ntz k) = true ∧ k &&& (k - 1) = wo k (2 ^ ntz k))) = true := by decide +kernel
theorem low_n {k : Nat} (h : k < 1024) (h0 : k ≠ 0) : ntz k < 10 ∧ k.testBit (ntz k) = true ∧ k &&& (k - 1) = wo k (2 ^ ntz k) := of_decide_eq_true (List.all_eq_true.mp low_all k (List.mem_range.mpr h)) h0
