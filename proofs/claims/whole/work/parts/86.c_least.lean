/-! what stood in the rows before has no part in the answers -/
theorem cmK_W {σ τ : Nat → Int} {set n : Nat} {C C' : Nat → Int} (h : ∀ j, j < 2 ^ n → C j = C' j) : ∀ m j, j < 2 ^ n → cmK σ τ set C m j = cmK σ τ set C' m j := by
  intro m
  induction m with
  | zero => exact h
  | succ m ih =>
    intro j hj
    unfold cmK
    split
    · by_cases he : j = set ||| 2 ^ m
      · subst he; rw [up_same, up_same]
      · rw [up_ne _ _ he, up_ne _ _ he]; exact ih j hj
    · exact ih j hj
theorem cmT_W {σ τ : Nat → Int} {n : Nat} (C C' : Nat → Int) : ∀ k, k ≤ 2 ^ n → ∀ j, j < 2 ^ n → cmT σ τ n C k j = cmT σ τ n C' k j := by
  intro k
  induction k with
  | zero => intro _ j hj; unfold cmT cm0; rw [if_pos hj, if_pos hj]
  | succ k ih =>
    intro hk j hj
    have ih := ih (by omega)
    unfold cmT
    rw [ih k (by omega)]
    split
    · exact cmK_W ih n j hj
    · exact ih j hj
theorem soT_W {σ τ : Nat → Int} {n : Nat} (C C' : Nat → Int) : ∀ k, k ≤ 2 ^ n → soT σ τ n C k = soT σ τ n C' k := by
  intro k
  induction k with
  | zero => intro _; rfl
  | succ k ih =>
    intro hk
    unfold soT
    rw [ih (by omega), cmT_W C C' k (by omega) k (by omega)]
theorem lvK_W {σ τ : Nat → Int} {so set : Nat} {C C' Lf Lg : Nat → Int} (hC : C set = C' set) (h : ∀ s, so.testBit s = true → Lf (set ||| 2 ^ s) = Lg (set ||| 2 ^ s)) : ∀ m, lvK σ τ so C Lf set m = lvK σ τ so C' Lg set m := by
  intro m
  induction m with
  | zero => rfl
  | succ m ih =>
    unfold lvK
    rw [ih, hC]
    by_cases hb : so.testBit m = true
    · rw [h m hb]
    · rw [if_neg (fun q => hb q.1), if_neg (fun q => hb q.1)]
theorem lf_W {σ τ : Nat → Int} {n so : Nat} (hso : so < 2 ^ n) {C C' L L' : Nat → Int} (hC : ∀ j, j < 2 ^ n → C j = C' j) : ∀ d set, set + d = so → lfD σ τ n so C L (so + 1) set = lfD σ τ n so C' L' (so + 1) set := by
  intro d
  induction d using Nat.strongRecOn with
  | _ d ih =>
    intro set hsd
    rw [lf_fix (σ := σ) (τ := τ) (n := n) (C := C) (L0 := L) (set := set) (so := so) (by omega), lf_fix (σ := σ) (τ := τ) (n := n) (C := C') (L0 := L') (set := set) (so := so) (by omega)]
    unfold lvV
    split
    · rename_i hw
      refine lvK_W (hC set (by omega)) (fun s hs => ?_) n
      have hle := sub_or hw hs
      by_cases hb : set.testBit s = true
      · have e : set ||| 2 ^ s = set := by
          apply Nat.eq_of_testBit_eq
          intro i
          rw [Nat.testBit_or, bit_ne]
          by_cases he : s = i
          · subst he; simp [hb]
          · simp [he]
        sorry
      · have hb' : set.testBit s = false := by simpa using hb
        have hgt := or_gt hb'
        exact ih (so - (set ||| 2 ^ s)) (by omega) _ (by omega)
    · rfl
