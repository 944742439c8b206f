/-! subsets, one after another -/
theorem and2 (a b : Nat) : a &&& b = 2 * (a / 2 &&& b / 2) + a % 2 * (b % 2) := by
  apply Nat.eq_of_testBit_eq
  intro i
  have hr : a % 2 * (b % 2) < 2 := by
    rcases Nat.mod_two_eq_zero_or_one a with h | h <;> rcases Nat.mod_two_eq_zero_or_one b with g | g <;> rw [h, g] <;> decide
  cases i with
  | zero =>
    rw [Nat.testBit_and, Nat.testBit_zero, Nat.testBit_zero, Nat.testBit_zero]
    rw [show (2 * (a / 2 &&& b / 2) + a % 2 * (b % 2)) % 2 = a % 2 * (b % 2) by omega]
    rcases Nat.mod_two_eq_zero_or_one a with h | h <;> rcases Nat.mod_two_eq_zero_or_one b with g | g <;> rw [h, g] <;> decide
  | succ i =>
    rw [Nat.testBit_and, Nat.testBit_succ, Nat.testBit_succ, Nat.testBit_succ, show (2 * (a / 2 &&& b / 2) + a % 2 * (b % 2)) / 2 = a / 2 &&& b / 2 by omega, Nat.testBit_and]
theorem half_sub {c o : Nat} (h : c &&& o = c) : c / 2 &&& o / 2 = c / 2 ∧ (c % 2 = 0 ∨ (c % 2 = 1 ∧ o % 2 = 1)) := by
  have := and2 c o
  rw [h] at this
  rcases Nat.mod_two_eq_zero_or_one c with p | p <;> rcases Nat.mod_two_eq_zero_or_one o with q | q <;> rw [p, q] at this <;> omega
theorem sub_le {c o : Nat} (h : c &&& o = c) : c ≤ o := by rw [← h]; exact Nat.and_le_right
theorem cpl : ∀ k o c, o < 2 ^ k → c &&& o = c → (2 ^ k - 1 - (o - c)) &&& o = c := by
  intro k
  induction k with
  | zero => intro o c ho hc; have : o = 0 := by simpa using ho
            subst this; simp at hc; subst hc; rfl
  | succ k ih =>
    intro o c ho hc
    rw [Nat.pow_succ] at ho ⊢
    obtain ⟨h1, h2⟩ := half_sub hc
    have ih := ih (o / 2) (c / 2) (by omega) h1
    have hle := sub_le h1
    rw [and2]
    have e1 : (2 ^ k * 2 - 1 - (o - c)) / 2 = 2 ^ k - 1 - (o / 2 - c / 2) := by omega
    rw [e1, ih]
    rcases h2 with h2 | ⟨h2, h3⟩
    · rcases Nat.mod_two_eq_zero_or_one o with q | q
      · rw [q]; omega
      · rw [q, show (2 ^ k * 2 - 1 - (o - c)) % 2 = 0 by omega]; omega
    · rw [h3, show (2 ^ k * 2 - 1 - (o - c)) % 2 = 1 by omega]; omega
theorem nxt_ok : ∀ k o c, o < 2 ^ k → c &&& o = c → c ≠ o → c < ((2 ^ k - (o - c)) &&& o) ∧ ∀ e, e &&& o = e → c < e → ((2 ^ k - (o - c)) &&& o) ≤ e := by
  intro k
  induction k with
  | zero => intro o c ho hc hne
            have : o = 0 := by simpa using ho
            subst this; simp at hc; exact absurd hc.symm hne
  | succ k ih =>
    intro o c ho hc hne
    rw [Nat.pow_succ] at ho ⊢
    obtain ⟨h1, h2⟩ := half_sub hc
    have hle := sub_le h1
    have hle0 := sub_le hc
    rcases (show c % 2 = o % 2 ∨ (c % 2 = 0 ∧ o % 2 = 1) by omega) with hq | ⟨hq1, hq2⟩
    · have hne2 : c / 2 ≠ o / 2 := by omega
      obtain ⟨i1, i2⟩ := ih (o / 2) (c / 2) (by omega) h1 hne2
      have e1 : (2 ^ k * 2 - (o - c)) / 2 = 2 ^ k - (o / 2 - c / 2) := by omega
      have e2 : (2 ^ k * 2 - (o - c)) % 2 = 0 := by omega
      rw [and2, e1, e2, Nat.zero_mul, Nat.add_zero]
      refine ⟨by omega, fun e he hce => ?_⟩
      obtain ⟨g1, g2⟩ := half_sub he
      have := i2 (e / 2) g1 (by omega)
      omega
    · have e1 : (2 ^ k * 2 - (o - c)) / 2 = 2 ^ k - 1 - (o / 2 - c / 2) := by omega
      have e2 : (2 ^ k * 2 - (o - c)) % 2 = 1 := by omega
      rw [and2, e1, e2, hq2, cpl k _ _ (by omega) h1]
      refine ⟨by omega, fun e he hce => by omega⟩
theorem nxt_sub (x o : Nat) : (x &&& o) &&& o = x &&& o := by rw [Nat.and_assoc, Nat.and_self]
theorem band_neg {d o : Nat} (hd : 0 < d) (hd2 : d ≤ 4096) (ho : o < 4096) : band (-(d : Int)) (o : Int) = (((4096 - d) &&& o : Nat) : Int) := by
  show (z (-(d : Int)) &&& z (o : Int)).toBitVec.toInt = _
  rw [Int32.toBitVec_and, zn_bv]
  have e : (z (-(d : Int))).toBitVec.toNat = 4294967296 - d := by
    show (BitVec.ofInt 32 (-(d : Int))).toNat = _
    rw [BitVec.toNat_ofInt]; omega
  refine bv_toInt ?_ (Nat.lt_of_le_of_lt Nat.and_le_right (by omega))
  rw [BitVec.toNat_and, e, bvn (by omega), show 4294967296 - d = 2 ^ 12 * 1048575 + (4096 - d) by omega]
  apply Nat.eq_of_testBit_eq
  intro i
  rw [Nat.testBit_and, Nat.testBit_and, Nat.testBit_two_pow_mul_add _ (by omega)]
  by_cases hi : i < 12
  · rw [if_pos hi]
  · have : o.testBit i = false := Nat.testBit_lt_two_pow (Nat.lt_of_lt_of_le ho ((show (2 : Nat) ^ 12 ≤ 2 ^ i from Nat.pow_le_pow_right (by decide) (by omega))))
    rw [this, Bool.and_false, Bool.and_false]
theorem wo0_iff (a b : Nat) : wo a b = 0 ↔ ∀ i, a.testBit i = true → b.testBit i = true := by
  constructor
  · intro h i hi
    have := wo_bit a b i
    rw [h, Nat.zero_testBit, hi] at this
    simpa using this
  · intro h
    apply Nat.eq_of_testBit_eq
    intro i
    rw [wo_bit, Nat.zero_testBit]
    cases hq : a.testBit i with
    | false => rfl
    | true => rw [h i hq]; rfl
theorem sub_iff (a b : Nat) : a &&& b = a ↔ ∀ i, a.testBit i = true → b.testBit i = true := by
  constructor
  · intro h i hi
    have : (a &&& b).testBit i = true := by rw [h]; exact hi
    rw [Nat.testBit_and, Bool.and_eq_true] at this
    exact this.2
  · intro h
    apply Nat.eq_of_testBit_eq
    intro i
    rw [Nat.testBit_and]
    cases hq : a.testBit i with
    | false => rfl
    | true => rw [h i hq]; rfl
theorem cnt_sub {j L : Nat} (h : wo j L = 0) : ∀ k, cnt k j ≤ cnt k L ∧ (cnt k j = cnt k L → ∀ i, i < k → j.testBit i = L.testBit i) := by
  intro k
  induction k with
  | zero => exact ⟨Nat.le_refl _, fun _ i hi => by omega⟩
  | succ k ih =>
    rw [cnt_s, cnt_s]
    have hb := (wo0_iff j L).mp h k
    have l1 := Bool.toNat_le (L.testBit k)
    have hle : (j.testBit k).toNat ≤ (L.testBit k).toNat := by
      cases hq : j.testBit k with
      | false => exact Nat.zero_le _
      | true => rw [hb hq]; exact Nat.le_refl _
    refine ⟨by omega, fun he i hi => ?_⟩
    by_cases hik : i = k
    · subst hik
      have : (j.testBit i).toNat = (L.testBit i).toNat := by omega
      cases hq : j.testBit i <;> cases hp : L.testBit i <;> rw [hq, hp] at this <;> first | rfl | cases this
    · exact ih.2 (by omega) i (by omega)
theorem cnt_sub_eq {j L : Nat} (h : wo j L = 0) (hL : L < 4096) (hj : j < 4096) (hc : cnt 12 L ≤ cnt 12 j) : j = L := by
  have h1 := cnt_sub h 12
  apply Nat.eq_of_testBit_eq
  intro i
  by_cases hi : i < 12
  · exact h1.2 (by omega) i hi
  · have hp : (4096 : Nat) ≤ 2 ^ i := (show (2 : Nat) ^ 12 ≤ 2 ^ i from Nat.pow_le_pow_right (by decide) (by omega))
    rw [Nat.testBit_lt_two_pow (Nat.lt_of_lt_of_le hL hp), Nat.testBit_lt_two_pow (Nat.lt_of_lt_of_le hj hp)]
/-- what may go out with s -/
def OKs (σ : Nat → Int) (L s k : Nat) : Prop := k.testBit s = true ∧ wo k L = 0 ∧ standB σ (wo L k) = true
theorem wo0_le {j L : Nat} (h : wo j L = 0) : j ≤ L := sub_le ((sub_iff j L).mpr ((wo0_iff j L).mp h))
theorem withT_best (σ : Nat → Int) (L s : Nat) : ∀ k, (withT σ L s k = -1 ∧ ∀ j, j < k → ¬ OKs σ L s j) ∨ ∃ b : Nat, withT σ L s k = (b : Int) ∧ OKs σ L s b ∧ ∀ j, j < k → OKs σ L s j → cnt 12 b ≤ cnt 12 j ∧ (j < b → cnt 12 b < cnt 12 j) := by
  intro k
  induction k with
  | zero => exact Or.inl ⟨rfl, fun j hj => by omega⟩
  | succ k ih =>
    have hok : ∀ b : Int, withOk σ L s b k = true ↔ OKs σ L s k ∧ (b < 0 ∨ cnt 12 k < cnt 12 b.toNat) := by
      intro b
      unfold withOk OKs
      simp only [Bool.and_eq_true, Bool.or_eq_true, decide_eq_true_eq]
      constructor
      · rintro ⟨a1, a2, a3, a4⟩; exact ⟨⟨a1, a2, a4⟩, a3⟩
      · rintro ⟨⟨a1, a2, a4⟩, a3⟩; exact ⟨a1, a2, a3, a4⟩
    unfold withT
    rcases ih with ⟨h1, h2⟩ | ⟨b, h1, h2, h3⟩
    · rw [h1]
      by_cases hk : OKs σ L s k
      · rw [if_pos ((hok _).mpr ⟨hk, Or.inl (by decide)⟩)]
        refine Or.inr ⟨k, rfl, hk, fun j hj hoj => ?_⟩
        by_cases he : j = k
        · subst he; exact ⟨Nat.le_refl _, fun q => by omega⟩
        · exact absurd hoj (h2 j (by omega))
      · rw [if_neg (fun q => hk ((hok _).mp q).1)]
        refine Or.inl ⟨rfl, fun j hj => ?_⟩
        by_cases he : j = k
        · subst he; exact hk
        · exact h2 j (by omega)
    · rw [h1]
      by_cases hk : OKs σ L s k ∧ cnt 12 k < cnt 12 b
      · rw [if_pos ((hok _).mpr ⟨hk.1, Or.inr (by rw [Int.toNat_natCast]; exact hk.2)⟩)]
        refine Or.inr ⟨k, rfl, hk.1, fun j hj hoj => ?_⟩
        by_cases he : j = k
        · subst he; exact ⟨Nat.le_refl _, fun q => by omega⟩
        · have := h3 j (by omega) hoj; exact ⟨by omega, fun _ => by omega⟩
      · rw [if_neg (fun q => hk (by have := (hok _).mp q; rw [Int.toNat_natCast] at this; exact ⟨this.1, by rcases this.2 with u | u; omega; exact u⟩))]
        refine Or.inr ⟨b, rfl, h2, fun j hj hoj => ?_⟩
        by_cases he : j = k
        · subst he
          have : ¬ cnt 12 j < cnt 12 b := fun q => hk ⟨hoj, q⟩
          refine ⟨by omega, fun q => ?_⟩
          exfalso
          have hbk : b < j + 1 ∨ j < b := by omega
          rcases withT_r σ L s j with u | u
          · omega
          · omega
        · exact h3 j (by omega) hoj
def BestU (σ : Nat → Int) (L s b : Nat) : Prop := OKs σ L s b ∧ ∀ j, OKs σ L s j → cnt 12 b ≤ cnt 12 j ∧ (j < b → cnt 12 b < cnt 12 j)
theorem BestU.uni {σ : Nat → Int} {L s b c : Nat} (h1 : BestU σ L s b) (h2 : BestU σ L s c) : b = c := by
  have a := h1.2 c h2.1
  have e := h2.2 b h1.1
  rcases Nat.lt_trichotomy b c with q | q | q
  · have := e.2 q; omega
  · exact q
  · have := a.2 q; omega
theorem stand0 (σ : Nat → Int) : standB σ 0 = true := by
  unfold standB
  rw [allB_iff]
  intro k _
  rw [Nat.zero_testBit]; rfl
theorem OKs_L (σ : Nat → Int) {L s : Nat} (h : L.testBit s = true) : OKs σ L s L := by
  have e : wo L L = 0 := (wo0_iff L L).mpr (fun _ q => q)
  exact ⟨h, e, by rw [e]; exact stand0 σ⟩
theorem with_eq (σ : Nat → Int) {L s N b : Nat} (hL : L < 2 ^ N) (hs : L.testBit s = true) (hb : BestU σ L s b) : withT σ L s (2 ^ N) = (b : Int) := by
  rcases withT_best σ L s (2 ^ N) with ⟨h1, h2⟩ | ⟨c, h1, h2, h3⟩
  · exact absurd (OKs_L σ hs) (h2 L hL)
  · have : BestU σ L s c := ⟨h2, fun j hj => h3 j (Nat.lt_of_le_of_lt (wo0_le hj.2.1) hL) hj⟩
    rw [h1, this.uni hb]
theorem or2 (a b : Nat) : a ||| b = 2 * (a / 2 ||| b / 2) + (a % 2 ||| b % 2) := by
  apply Nat.eq_of_testBit_eq
  intro i
  have hr : (a % 2 ||| b % 2) < 2 := Nat.or_lt_two_pow (n := 1) (Nat.mod_lt _ (by decide)) (Nat.mod_lt _ (by decide))
  cases i with
  | zero =>
    rw [Nat.testBit_or, Nat.testBit_zero, Nat.testBit_zero, Nat.testBit_zero]
    rw [show (2 * (a / 2 ||| b / 2) + (a % 2 ||| b % 2)) % 2 = (a % 2 ||| b % 2) by omega]
    rcases Nat.mod_two_eq_zero_or_one a with h | h <;> rcases Nat.mod_two_eq_zero_or_one b with g | g <;> rw [h, g] <;> decide
  | succ i =>
    rw [Nat.testBit_or, Nat.testBit_succ, Nat.testBit_succ, Nat.testBit_succ, show (2 * (a / 2 ||| b / 2) + (a % 2 ||| b % 2)) / 2 = a / 2 ||| b / 2 by omega, Nat.testBit_or]
theorem or_add : ∀ n c : Nat, c.testBit n = false → c ||| 2 ^ n = c + 2 ^ n := by
  intro n
  induction n with
  | zero =>
    intro c hc
    rw [Nat.testBit_zero] at hc
    have h0 : c % 2 = 0 := by have := of_decide_eq_false hc; omega
    rw [or2, h0]
    simp
    omega
  | succ n ih =>
    intro c hc
    rw [Nat.testBit_succ] at hc
    have := ih _ hc
    rw [or2, Nat.pow_succ, Nat.mul_div_cancel _ (by decide), Nat.mul_mod_left, Nat.or_zero, this]
    omega
