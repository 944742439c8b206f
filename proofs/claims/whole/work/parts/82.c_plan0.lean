/-! counting ways and coming: the same sets -/
theorem wyK_W {ok : Nat → Nat → Bool} {set : Nat} {W W' : Nat → Int} {n : Nat} (hs : W set = W' set) (h : ∀ j, j < 2 ^ n → W j = W' j) (hset : set < 2 ^ n) : ∀ m, m ≤ n → ∀ j, j < 2 ^ n → wyK ok set W m j = wyK ok set W' m j := by
  intro m
  induction m with
  | zero => intro _; exact h
  | succ m ih =>
    intro hm j hj
    have ih := ih (by omega)
    unfold wyK
    split
    · by_cases he : j = set ||| 2 ^ m
      · subst he; rw [up_same, up_same, ih _ hj, hs]
      · rw [up_ne _ _ he, up_ne _ _ he]; exact ih j hj
    · exact ih j hj
theorem wyT_W {ok : Nat → Nat → Bool} {n most : Nat} (W W' : Nat → Int) : ∀ k, k ≤ 2 ^ n → ∀ j, j < 2 ^ n → wyT ok n most W k j = wyT ok n most W' k j := by
  intro k
  induction k with
  | zero => intro _ j hj; unfold wyT wy0; rw [if_pos hj, if_pos hj]
  | succ k ih =>
    intro hk j hj
    have ih := ih (by omega)
    unfold wyT
    rw [ih k (by omega)]
    split
    · exact wyK_W (ih k (by omega)) ih (by omega) n (Nat.le_refl _) j hj
    · exact ih j hj
theorem cnt_full {n k : Nat} (hn : n ≤ 12) (hk : k < 2 ^ n) (h : n ≤ cnt 12 k) : ∀ s, s < n → k.testBit s = true := by
  have hle : cnt 12 k ≤ cnt n k := by
    have : ∀ d, n + d ≤ 12 → cnt (n + d) k = cnt n k := by
      intro d
      induction d with
      | zero => intro _; rfl
      | succ d ih =>
        intro hd
        rw [show n + (d + 1) = n + d + 1 by omega, cnt_s, ih (by omega), Nat.testBit_lt_two_pow (Nat.lt_of_lt_of_le hk (Nat.pow_le_pow_right (by decide) (by omega)))]
        rfl
    have e := this (12 - n) (by omega)
    rw [show n + (12 - n) = 12 by omega] at e
    omega
  have hc : ∀ m, m ≤ n → m ≤ cnt m k → ∀ s, s < m → k.testBit s = true := by
    intro m
    induction m with
    | zero => intro _ _ s hs; omega
    | succ m ih =>
      intro hm hcm s hs
      rw [cnt_s] at hcm
      have h1 := cnt_le m k
      have h2 := Bool.toNat_le (k.testBit m)
      by_cases he : s = m
      · subst he
        cases hq : k.testBit s with
        | true => rfl
        | false => rw [hq] at hcm; simp at hcm; omega
      · exact ih (by omega) (by omega) s (by omega)
  exact hc n (Nat.le_refl _) (by omega)
theorem okW_f (σ τ : Nat → Int) (s set : Nat) : okW σ τ false s set = mayF σ τ s set := by unfold okW; simp
theorem wy_cm {σ τ : Nat → Int} {n : Nat} (hn : n ≤ 12) (W C0 : Nat → Int) : ∀ k, k ≤ 2 ^ n → ∀ j, j < 2 ^ n → (wyT (okW σ τ false) n n W k j ≠ 0 ↔ cmT σ τ n C0 k j ≠ 0) := by
  intro k
  induction k with
  | zero => intro _ j hj; unfold wyT wy0 cmT cm0; rw [if_pos hj, if_pos hj]
  | succ k ih =>
    intro hk j hj
    have ih := ih (by omega)
    have hik := ih k (by omega)
    have hij := ih j hj
    have hrk := wyT_r (okW_b σ τ false) (most := n) hn (W := W) (k := k) (by omega) (T := k) (by omega)
    have hrj := wyT_r (okW_b σ τ false) (most := n) hn (W := W) (k := k) (by omega) (T := j) hj
    have h01 := cmT_01 σ τ n C0 k j hj
    unfold wyT cmT
    by_cases hc : cmT σ τ n C0 k k ≠ 0
    · rw [if_pos hc]
      have hwk := hik.mpr hc
      by_cases hm : cnt 12 k < n
      · rw [if_pos ⟨hwk, hm⟩]
        rcases wyK_v (okW_b σ τ false) (set := k) (W := wyT (okW σ τ false) n n W k) (T := j) n with ⟨s, s1, s2, s3, s4⟩ | ⟨s1, s2⟩
        · rw [s4, s3, cmK_set (by rw [← okW_f]; exact s2) n s1]
          rw [s3] at hrj
          constructor
          · intro _; decide
          · intro _; omega
        · rw [s2]
          constructor
          · intro q
            have := hij.mp q
            rw [cmK_up (by rcases h01 with u | u; exact absurd u this; exact u)]; decide
          · intro q
            rcases cmK_by n q with u | ⟨s, u1, u2, u3⟩
            · exact hij.mpr u
            · exact absurd u3 (s1 s u1 (by rw [okW_f]; exact u2))
      · rw [if_neg (fun q => hm q.2)]
        have hfull := cnt_full hn (show k < 2 ^ n by omega) (by omega)
        constructor
        · intro q
          have := hij.mp q
          rw [cmK_up (by rcases h01 with u | u; exact absurd u this; exact u)]; decide
        · intro q
          rcases cmK_by n q with u | ⟨s, u1, u2, u3⟩
          · exact hij.mpr u
          · have := hfull s u1
            rw [mayF_L, this] at u2; cases u2
    · rw [if_neg hc, if_neg (fun q => hc (hik.mp q.1))]
      exact hij
/-- what is left, as the class holds it -/
def fcp (v : Int) : Int := if v < 100000000 then v else 1000000
theorem lvK_le0 {σ τ : Nat → Int} {so : Nat} {C Lf : Nat → Int} {set : Nat} : ∀ m, lvK σ τ so C Lf set m ≤ 100000000 := by
  intro m
  induction m with
  | zero => unfold lvK; split <;> omega
  | succ m ih => unfold lvK; split <;> omega
theorem lf_dich {σ τ : Nat → Int} (hL : LW σ τ) {n so : Nat} (hn : n ≤ 12) (hso : so < 2 ^ n) {C L0 : Nat → Int} : ∀ d set, set + d = so → (lfD σ τ n so C L0 (so + 1) set = 100000000 ∨ (0 ≤ lfD σ τ n so C L0 (so + 1) set ∧ lfD σ τ n so C L0 (so + 1) set ≤ 9999 * (12 - (cnt 12 set : Int)))) := by
  intro d
  induction d using Nat.strongRecOn with
  | _ d ih =>
    intro set hsd
    have hf := lf_fix (σ := σ) (τ := τ) (n := n) (C := C) (L0 := L0) (set := set) (so := so) (by omega)
    rw [hf]
    have hcl := cnt_le 12 set
    by_cases hss : set = so
    · right
      have e : ∀ m, lvK σ τ so C (lfD σ τ n so C L0 (so + 1)) set m = 0 := by
        intro m
        induction m with
        | zero => unfold lvK; rw [if_pos hss]
        | succ m ihm =>
          unfold lvK
          rw [ihm]
          split
          · rename_i q
            have := q.2.2.1
            rw [mayF_L, hss, q.1] at this; cases this
          · rfl
      unfold lvV
      split
      · rw [e]; omega
      · rw [e]; omega
    · unfold lvV
      split
      · rename_i hw
        rcases lvK_ex (σ := σ) (τ := τ) (C := C) (Lf := lfD σ τ n so C L0 (so + 1)) hss n with q | ⟨s, s1, s2, s3, s4, s5⟩
        · exact Or.inl q
        · have hnb : set.testBit s = false := by
            rw [mayF_L, Bool.and_eq_true] at s4; simpa using s4.1
          have hgt := or_gt hnb
          have hle := sub_or hw s2
          have hlr := liftF_r hL (s := s) (by omega) set
          have hc1 := cnt_or 12 set s hnb
          rw [if_pos (by omega)] at hc1
          have hle0 := lvK_le0 (σ := σ) (τ := τ) (so := so) (C := C) (Lf := lfD σ τ n so C L0 (so + 1)) (set := set) n
          rcases ih (so - (set ||| 2 ^ s)) (by omega) (set ||| 2 ^ s) (by omega) with u | u
          · left; omega
          · right; omega
      · left
        unfold lvK
        rw [if_neg hss]
