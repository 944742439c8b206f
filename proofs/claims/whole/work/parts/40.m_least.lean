/-! what the reference's tables come to -/
theorem cnt_or : ∀ (k set s : Nat), set.testBit s = false → cnt k (set ||| 2 ^ s) = cnt k set + (if s < k then 1 else 0) := by
  intro k
  induction k with
  | zero => intro set s _; rfl
  | succ k ih =>
    intro set s h
    rw [cnt_s, cnt_s, ih set s h, Nat.testBit_or, Nat.testBit_two_pow]
    by_cases he : s = k
    · subst he; rw [h]; simp
    · rw [decide_eq_false he, Bool.or_false]
      by_cases h2 : s < k
      · rw [if_pos h2, if_pos (by omega)]; omega
      · rw [if_neg h2, if_neg (by omega)]; omega
section COMES
variable {σ τ : Nat → Int} {n : Nat} {C0 : Nat → Int}
theorem cmK_lo {set : Nat} {C : Nat → Int} : ∀ s j, j ≤ set → cmK σ τ set C s j = C j := by
  intro s
  induction s with
  | zero => intro j _; rfl
  | succ s ih =>
    intro j hj
    unfold cmK
    split
    · rename_i q
      have := or_gt (mayF_bit q)
      rw [up_ne _ _ (by omega)]; exact ih j hj
    · exact ih j hj
theorem cmK_up {set : Nat} {C : Nat → Int} {j : Nat} (h : C j = 1) : ∀ s, cmK σ τ set C s j = 1 := by
  intro s
  induction s with
  | zero => exact h
  | succ s ih =>
    unfold cmK
    split
    · by_cases he : j = set ||| 2 ^ s
      · subst he; rw [up_same]
      · rw [up_ne _ _ he]; exact ih
    · exact ih
theorem cmK_set {set s : Nat} {C : Nat → Int} (h : mayF σ τ s set = true) : ∀ m, s < m → cmK σ τ set C m (set ||| 2 ^ s) = 1 := by
  intro m
  induction m with
  | zero => intro h; omega
  | succ m ih =>
    intro hm
    unfold cmK
    by_cases he : s = m
    · subst he; rw [if_pos h, up_same]
    · have := ih (by omega)
      split
      · by_cases h2 : set ||| 2 ^ s = set ||| 2 ^ m
        · rw [h2, up_same]
        · rw [up_ne _ _ h2]; exact this
      · exact this
theorem cmK_by {set : Nat} {C : Nat → Int} {j : Nat} : ∀ m, cmK σ τ set C m j ≠ 0 → C j ≠ 0 ∨ ∃ s, s < m ∧ mayF σ τ s set = true ∧ j = set ||| 2 ^ s := by
  intro m
  induction m with
  | zero => exact fun h => Or.inl h
  | succ m ih =>
    intro h
    unfold cmK at h
    split at h
    · rename_i q
      by_cases he : j = set ||| 2 ^ m
      · exact Or.inr ⟨m, by omega, q, he⟩
      · rw [up_ne _ _ he] at h
        rcases ih h with r | ⟨s, r1, r2⟩
        · exact Or.inl r
        · exact Or.inr ⟨s, by omega, r2⟩
    · rcases ih h with r | ⟨s, r1, r2⟩
      · exact Or.inl r
      · exact Or.inr ⟨s, by omega, r2⟩
theorem cmT_lo {k j : Nat} (hj : j ≤ k) : ∀ d, cmT σ τ n C0 (k + d) j = cmT σ τ n C0 k j := by
  intro d
  induction d with
  | zero => rfl
  | succ d ih =>
    show (if cmT σ τ n C0 (k + d) (k + d) ≠ 0 then cmK σ τ (k + d) (cmT σ τ n C0 (k + d)) n else cmT σ τ n C0 (k + d)) j = _
    split
    · rw [cmK_lo n j (by omega)]; exact ih
    · exact ih
theorem cmT_up {k j : Nat} (h : cmT σ τ n C0 k j = 1) : ∀ d, cmT σ τ n C0 (k + d) j = 1 := by
  intro d
  induction d with
  | zero => exact h
  | succ d ih =>
    show (if cmT σ τ n C0 (k + d) (k + d) ≠ 0 then cmK σ τ (k + d) (cmT σ τ n C0 (k + d)) n else cmT σ τ n C0 (k + d)) j = _
    split
    · exact cmK_up ih n
    · exact ih
/-- who comes: the empty set, and what may be laid upon who comes -/
theorem com_0 : cmT σ τ n C0 (2 ^ n) 0 = 1 := by
  have h1 : 1 ≤ (2 ^ n : Nat) := Nat.one_le_two_pow
  have := cmT_lo (σ := σ) (τ := τ) (n := n) (C0 := C0) (k := 0) (j := 0) (Nat.le_refl _) (2 ^ n)
  rw [Nat.zero_add] at this
  rw [this]
  show (if 0 < 2 ^ n then (if (0 : Nat) = 0 then (1 : Int) else 0) else C0 0) = 1
  rw [if_pos (by omega), if_pos rfl]
theorem com_at {k : Nat} (hk : k < 2 ^ n) : cmT σ τ n C0 (2 ^ n) k = cmT σ τ n C0 k k := by
  have := cmT_lo (σ := σ) (τ := τ) (n := n) (C0 := C0) (k := k) (j := k) (Nat.le_refl _) (2 ^ n - k)
  rwa [show k + (2 ^ n - k) = 2 ^ n by omega] at this
theorem com_s {k s : Nat} (hk : k < 2 ^ n) (hs : s < n) (hc : cmT σ τ n C0 (2 ^ n) k ≠ 0) (hm : mayF σ τ s k = true) : cmT σ τ n C0 (2 ^ n) (k ||| 2 ^ s) = 1 := by
  rw [com_at hk] at hc
  have h1 : cmT σ τ n C0 (k + 1) (k ||| 2 ^ s) = 1 := by
    show (if cmT σ τ n C0 k k ≠ 0 then cmK σ τ k (cmT σ τ n C0 k) n else cmT σ τ n C0 k) (k ||| 2 ^ s) = 1
    rw [if_pos hc]
    exact cmK_set hm n hs
  have := cmT_up h1 (2 ^ n - (k + 1))
  rwa [show k + 1 + (2 ^ n - (k + 1)) = 2 ^ n by omega] at this
theorem com_b : ∀ k, k ≤ 2 ^ n → ∀ j, j < 2 ^ n → j ≠ 0 → cmT σ τ n C0 k j ≠ 0 → ∃ set s, set < k ∧ s < n ∧ cmT σ τ n C0 (2 ^ n) set ≠ 0 ∧ mayF σ τ s set = true ∧ j = set ||| 2 ^ s := by
  intro k
  induction k with
  | zero => intro _ j hj h0 h; exfalso; apply h; show (if j < 2 ^ n then (if j = 0 then (1 : Int) else 0) else C0 j) = 0; rw [if_pos hj, if_neg h0]
  | succ k ih =>
    intro hk j hj h0 h
    have h : (if cmT σ τ n C0 k k ≠ 0 then cmK σ τ k (cmT σ τ n C0 k) n else cmT σ τ n C0 k) j ≠ 0 := h
    split at h
    · rename_i q
      rcases cmK_by n h with r | ⟨s, r1, r2, r3⟩
      · obtain ⟨set, s, a, b⟩ := ih (by omega) j hj h0 r
        exact ⟨set, s, by omega, b⟩
      · exact ⟨k, s, by omega, r1, by rw [com_at (by omega)]; exact q, r2, r3⟩
    · obtain ⟨set, s, a, b⟩ := ih (by omega) j hj h0 h
      exact ⟨set, s, by omega, b⟩
theorem so_com : ∀ k, k ≤ 2 ^ n → cmT σ τ n C0 (2 ^ n) (soT σ τ n C0 k) ≠ 0 := by
  intro k
  induction k with
  | zero => intro _; show cmT σ τ n C0 (2 ^ n) 0 ≠ 0; rw [com_0]; decide
  | succ k ih =>
    intro hk
    unfold soT
    split
    · rename_i q; rw [com_at (by omega)]; exact q.1
    · exact ih (by omega)
end COMES
section LEFT
variable {σ τ : Nat → Int} {n so : Nat} {C L0 : Nat → Int}
theorem lvK_congr {Lf Lg : Nat → Int} {set : Nat} (h : ∀ j, set < j → Lf j = Lg j) : ∀ s, lvK σ τ so C Lf set s = lvK σ τ so C Lg set s := by
  intro s
  induction s with
  | zero => rfl
  | succ s ih =>
    unfold lvK
    by_cases hm : mayF σ τ s set = true
    · rw [ih, h _ (or_gt (mayF_bit hm))]
    · rw [if_neg (fun q => hm q.2.2.1), if_neg (fun q => hm q.2.2.1), ih]
theorem lfD_hi {d j : Nat} (hj : so < j + d) : ∀ e, d + e ≤ so + 1 → lfD σ τ n so C L0 (d + e) j = lfD σ τ n so C L0 d j := by
  intro e
  induction e with
  | zero => intro _; rfl
  | succ e ih =>
    intro he
    show up (lfD σ τ n so C L0 (d + e)) (so - (d + e)) _ j = _
    by_cases h : so - (d + e) = j
    · exfalso; omega
    · rw [up_ne _ _ (fun q => h q.symm)]; exact ih (by omega)
/-- the least left, by what lies ahead -/
theorem lf_fix {set : Nat} (hs : set ≤ so) : lfD σ τ n so C L0 (so + 1) set = lvV σ τ n so C (lfD σ τ n so C L0 (so + 1)) set := by
  have e1 : lfD σ τ n so C L0 (so - set + 1) set = lvV σ τ n so C (lfD σ τ n so C L0 (so - set)) set := by
    show up _ (so - (so - set)) _ set = _
    rw [show so - (so - set) = set by omega, up_same]
  have e2 := lfD_hi (σ := σ) (τ := τ) (n := n) (so := so) (C := C) (L0 := L0) (d := so - set + 1) (j := set) (by omega) (so - (so - set)) (by omega)
  rw [show so - set + 1 + (so - (so - set)) = so + 1 by omega] at e2
  rw [e2, e1]
  have hc : ∀ j, set < j → j ≤ so → lfD σ τ n so C L0 (so - set) j = lfD σ τ n so C L0 (so + 1) j := by
    intro j h1 h2
    have := lfD_hi (σ := σ) (τ := τ) (n := n) (so := so) (C := C) (L0 := L0) (d := so - set) (j := j) (by omega) (set + 1) (by omega)
    rw [show so - set + (set + 1) = so + 1 by omega] at this
    exact this.symm
  unfold lvV
  split
  · rename_i hw
    have key : ∀ s, lvK σ τ so C (lfD σ τ n so C L0 (so - set)) set s = lvK σ τ so C (lfD σ τ n so C L0 (so + 1)) set s := by
      intro s
      induction s with
      | zero => rfl
      | succ s ih =>
        unfold lvK
        by_cases hm : so.testBit s = true ∧ mayF σ τ s set = true
        · rw [ih, hc _ (or_gt (mayF_bit hm.2)) (sub_or hw hm.1)]
        · rw [if_neg (fun q => hm ⟨q.1, q.2.2.1⟩), if_neg (fun q => hm ⟨q.1, q.2.2.1⟩), ih]
    exact key n
  · rfl
theorem lvK_le {Lf : Nat → Int} {set s : Nat} (h1 : so.testBit s = true) (h2 : C set ≠ 0) (h3 : mayF σ τ s set = true) : ∀ m, s < m → lvK σ τ so C Lf set m ≤ liftF σ τ s set + Lf (set ||| 2 ^ s) := by
  intro m
  induction m with
  | zero => intro h; omega
  | succ m ih =>
    intro hm
    unfold lvK
    by_cases he : s = m
    · subst he
      split
      · omega
      · rename_i q
        rcases (show liftF σ τ s set + Lf (set ||| 2 ^ s) < lvK σ τ so C Lf set s ∨ lvK σ τ so C Lf set s ≤ liftF σ τ s set + Lf (set ||| 2 ^ s) by omega) with r | r
        · exact absurd ⟨h1, h2, h3, r⟩ q
        · exact r
    · have := ih (by omega)
      split <;> omega
theorem lvK_ex {Lf : Nat → Int} {set : Nat} (hne : set ≠ so) : ∀ m, lvK σ τ so C Lf set m = 100000000 ∨ ∃ s, s < m ∧ so.testBit s = true ∧ C set ≠ 0 ∧ mayF σ τ s set = true ∧ liftF σ τ s set + Lf (set ||| 2 ^ s) = lvK σ τ so C Lf set m := by
  intro m
  induction m with
  | zero => left; unfold lvK; rw [if_neg hne]
  | succ m ih =>
    unfold lvK
    split
    · rename_i q; right; exact ⟨m, by omega, q.1, q.2.1, q.2.2.1, rfl⟩
    · rcases ih with r | ⟨s, r1, r2⟩
      · exact Or.inl r
      · exact Or.inr ⟨s, by omega, r2⟩
end LEFT
theorem wo_or {set so s : Nat} (h : wo set so = 0) (hs : so.testBit s = true) : wo (set ||| 2 ^ s) so = 0 := by
  apply Nat.eq_of_testBit_eq
  intro i
  have h1 := wo_bit set so i
  rw [h, Nat.zero_testBit] at h1
  rw [wo_bit, Nat.testBit_or, Nat.testBit_two_pow, Nat.zero_testBit]
  by_cases he : s = i
  · subst he; rw [hs]; simp
  · rw [decide_eq_false he, Bool.or_false]; exact h1.symm
theorem wo_le_sub {set so : Nat} (h : wo set so = 0) : set ≤ so := by
  apply Nat.le_of_testBit
  intro i hi
  have h1 := wo_bit set so i
  rw [h, Nat.zero_testBit, hi] at h1
  cases hc : so.testBit i
  · rw [hc] at h1; cases h1
  · rfl
theorem wo_of_or {set so s : Nat} (h : wo (set ||| 2 ^ s) so = 0) : wo set so = 0 ∧ so.testBit s = true := by
  have hb : ∀ i, ((set ||| 2 ^ s).testBit i && !so.testBit i) = false := fun i => by have := wo_bit (set ||| 2 ^ s) so i; rw [h, Nat.zero_testBit] at this; exact this.symm
  constructor
  · apply Nat.eq_of_testBit_eq
    intro i
    rw [wo_bit, Nat.zero_testBit]
    have := hb i
    rw [Nat.testBit_or] at this
    cases hs : set.testBit i
    · rfl
    · rw [hs] at this; simpa using this
  · have := hb s
    rw [Nat.testBit_or, Nat.testBit_two_pow_self] at this
    simpa using this
/-- from the empty set the sought one can be come to: the least left is a true number -/
theorem lf_0 {σ τ : Nat → Int} (hL : LW σ τ) {n : Nat} (hn : n ≤ 12) {C0 L0 : Nat → Int} : ∀ T, T < 2 ^ n → cmT σ τ n C0 (2 ^ n) T ≠ 0 → wo T (soT σ τ n C0 (2 ^ n)) = 0 → lfD σ τ n (soT σ τ n C0 (2 ^ n)) (cmT σ τ n C0 (2 ^ n)) L0 (soT σ τ n C0 (2 ^ n) + 1) T ≤ 9999 * (12 - (cnt 12 T : Int)) → lfD σ τ n (soT σ τ n C0 (2 ^ n)) (cmT σ τ n C0 (2 ^ n)) L0 (soT σ τ n C0 (2 ^ n) + 1) 0 ≤ 9999 * 12 := by
  intro T
  induction T using Nat.strongRecOn with
  | _ T ih =>
    intro hT hc hw hl
    by_cases h0 : T = 0
    · subst h0
      have : cnt 12 0 = 0 := by decide
      rw [this] at hl; omega
    · obtain ⟨set, s, a1, a2, a3, a4, a5⟩ := com_b (2 ^ n) (Nat.le_refl _) T hT h0 hc
      have hb := mayF_bit a4
      have hgt := or_gt hb
      rw [a5] at hw hl
      obtain ⟨w1, w2⟩ := wo_of_or hw
      have hcnt := cnt_or 12 set s hb
      rw [if_pos (by omega)] at hcnt
      rw [hcnt] at hl
      refine ih set (by omega) (by omega) a3 w1 ?_
      rw [lf_fix (wo_le_sub w1)]
      unfold lvV
      rw [if_pos w1]
      have := lvK_le (Lf := lfD σ τ n (soT σ τ n C0 (2 ^ n)) (cmT σ τ n C0 (2 ^ n)) L0 (soT σ τ n C0 (2 ^ n) + 1)) w2 a3 a4 n a2
      have hlr := liftF_r hL (s := s) (by omega) set
      omega
/-- the first stone of a least order upon a set -/
def nsF (σ τ : Nat → Int) (so : Nat) (Lf : Nat → Int) (set : Nat) : Nat → Nat → Nat
  | 0, s => s
  | d + 1, s => if so.testBit s = true ∧ mayF σ τ s set = true ∧ liftF σ τ s set + Lf (set ||| 2 ^ s) = Lf set then s else nsF σ τ so Lf set d (s + 1)
def ptS (σ τ : Nat → Int) (so : Nat) (Lf : Nat → Int) : Nat → Nat
  | 0 => 0
  | k + 1 => ptS σ τ so Lf k ||| 2 ^ nsF σ τ so Lf (ptS σ τ so Lf k) 12 0
theorem nsF_ok {σ τ : Nat → Int} {so : Nat} {Lf : Nat → Int} {set j : Nat} (hj : so.testBit j = true ∧ mayF σ τ j set = true ∧ liftF σ τ j set + Lf (set ||| 2 ^ j) = Lf set) : ∀ (d s : Nat), s ≤ j → j < s + d → (so.testBit (nsF σ τ so Lf set d s) = true ∧ mayF σ τ (nsF σ τ so Lf set d s) set = true ∧ liftF σ τ (nsF σ τ so Lf set d s) set + Lf (set ||| 2 ^ nsF σ τ so Lf set d s) = Lf set) ∧ nsF σ τ so Lf set d s ≤ j := by
  intro d
  induction d with
  | zero => intro s h1 h2; omega
  | succ d ih =>
    intro s h1 h2
    unfold nsF
    split
    · rename_i q; exact ⟨q, h1⟩
    · rename_i q
      have hjk : j ≠ s := fun e => q (e ▸ hj)
      exact ih (s + 1) (by omega) (by omega)
/-- what holds upon the way -/
theorem pt_ok {σ τ : Nat → Int} (hL : LW σ τ) {n : Nat} (hn : n ≤ 12) {C0 L0 : Nat → Int} {so : Nat} {C Lf : Nat → Int} (hso : so = soT σ τ n C0 (2 ^ n)) (hC : C = cmT σ τ n C0 (2 ^ n)) (hLf : Lf = lfD σ τ n so C L0 (so + 1)) :
    ∀ k, k ≤ cnt 12 so → (C (ptS σ τ so Lf k) ≠ 0 ∧ wo (ptS σ τ so Lf k) so = 0 ∧ Lf (ptS σ τ so Lf k) < 100000000 ∧ cnt 12 (ptS σ τ so Lf k) = k ∧ ptS σ τ so Lf k < 2 ^ n) ∧ (k < cnt 12 so → ∃ j, j < n ∧ so.testBit j = true ∧ mayF σ τ j (ptS σ τ so Lf k) = true ∧ liftF σ τ j (ptS σ τ so Lf k) + Lf (ptS σ τ so Lf k ||| 2 ^ j) = Lf (ptS σ τ so Lf k)) := by
  have hp1 : 1 ≤ (2 ^ n : Nat) := Nat.one_le_two_pow
  have hsl : so < 2 ^ n := by rw [hso]; exact (soT_lt σ τ n C0 (2 ^ n)).2 (by omega)
  have step : ∀ set, C set ≠ 0 → wo set so = 0 → Lf set < 100000000 → set ≠ so → ∃ j, j < n ∧ so.testBit j = true ∧ mayF σ τ j set = true ∧ liftF σ τ j set + Lf (set ||| 2 ^ j) = Lf set := by
    intro set h1 h2 h3 h4
    have hfix := lf_fix (σ := σ) (τ := τ) (n := n) (C := C) (L0 := L0) (wo_le_sub h2)
    rw [← hLf] at hfix
    unfold lvV at hfix
    rw [if_pos h2] at hfix
    rcases lvK_ex (σ := σ) (τ := τ) (C := C) (Lf := Lf) h4 n with r | ⟨s, r1, r2, r3, r4, r5⟩
    · omega
    · exact ⟨s, r1, r2, r4, by rw [r5, hfix]⟩
  intro k
  induction k with
  | zero =>
    intro _
    have b0 : C 0 ≠ 0 := by rw [hC, com_0]; decide
    have b1 : wo 0 so = 0 := by unfold wo; simp
    have b2 : Lf 0 < 100000000 := by
      have h1 := so_com (σ := σ) (τ := τ) (n := n) (C0 := C0) (2 ^ n) (Nat.le_refl _)
      have hw : wo (soT σ τ n C0 (2 ^ n)) (soT σ τ n C0 (2 ^ n)) = 0 := by unfold wo; rw [Nat.and_self, Nat.xor_self]
      have hl : lfD σ τ n (soT σ τ n C0 (2 ^ n)) (cmT σ τ n C0 (2 ^ n)) L0 (soT σ τ n C0 (2 ^ n) + 1) (soT σ τ n C0 (2 ^ n)) ≤ 9999 * (12 - (cnt 12 (soT σ τ n C0 (2 ^ n)) : Int)) := by
        rw [lf_fix (Nat.le_refl _)]
        unfold lvV
        rw [if_pos hw]
        have hcl := cnt_le 12 (soT σ τ n C0 (2 ^ n))
        have : ∀ m, lvK σ τ (soT σ τ n C0 (2 ^ n)) (cmT σ τ n C0 (2 ^ n)) (lfD σ τ n (soT σ τ n C0 (2 ^ n)) (cmT σ τ n C0 (2 ^ n)) L0 (soT σ τ n C0 (2 ^ n) + 1)) (soT σ τ n C0 (2 ^ n)) m = 0 := by
          intro m
          induction m with
          | zero => unfold lvK; rw [if_pos rfl]
          | succ m ih =>
            unfold lvK
            rw [ih, if_neg]
            rintro ⟨q1, -, q3, -⟩
            rw [mayF_bit q3] at q1; cases q1
        rw [this]; omega
      have := lf_0 hL hn _ (by rw [← hso]; exact hsl) h1 hw hl
      rw [hLf, hso, hC]; omega
    refine ⟨⟨b0, b1, b2, by show cnt 12 0 = 0; decide, by show 0 < 2 ^ n; omega⟩, fun hk => step 0 b0 b1 b2 (fun e => ?_)⟩
    rw [← e] at hk; exact absurd hk (by decide)
  | succ k ih =>
    intro hk
    obtain ⟨⟨a1, a2, a3, a4, a5⟩, a6⟩ := ih (by omega)
    obtain ⟨j, j1, j2, j3, j4⟩ := a6 (by omega)
    obtain ⟨⟨s1, s2, s3⟩, s4⟩ := nsF_ok (so := so) (Lf := Lf) ⟨j2, j3, j4⟩ 12 0 (by omega) (by omega)
    have hsn : nsF σ τ so Lf (ptS σ τ so Lf k) 12 0 < n := by omega
    have e1 : ptS σ τ so Lf (k + 1) = ptS σ τ so Lf k ||| 2 ^ nsF σ τ so Lf (ptS σ τ so Lf k) 12 0 := rfl
    rw [e1]
    generalize nsF σ τ so Lf (ptS σ τ so Lf k) 12 0 = s at *
    have hlr := liftF_r hL (s := s) (by omega) (ptS σ τ so Lf k)
    have b0 : C (ptS σ τ so Lf k ||| 2 ^ s) ≠ 0 := by
      rw [hC] at a1 ⊢
      rw [com_s a5 hsn a1 s2]; decide
    have b1 := wo_or a2 s1
    have hcnt := cnt_or 12 (ptS σ τ so Lf k) s (mayF_bit s2)
    rw [if_pos (by omega), a4] at hcnt
    refine ⟨⟨b0, b1, by omega, hcnt, or_lt a5 hsn⟩, fun hk2 => step _ b0 b1 (by omega) (fun e => ?_)⟩
    rw [e] at hcnt; omega
def leastF (σ τ : Nat → Int) (so : Nat) (Lf : Nat → Int) (w : Int) : Int := if w = -1 then (cnt 12 so : Int) else if w = -2 then Lf 0 else if 0 ≤ w ∧ w < (cnt 12 so : Int) then (nsF σ τ so Lf (ptS σ τ so Lf w.toNat) 12 0 : Int) else -3

theorem m_least (w : Int) (h1 : InR w) (N : Nat) (hN : N ≤ 12) (S : ST) (M : MT) (hL : LW (M 78) (M 80)) (h0 : M 78 0 = N) (hnb : NB M) : Ct E1 yX12_least cX12_least 5 (some .int) rm_X12_least [.ref 77, .int (z w)] S M (Qi (leastF (M 78) (M 80) (soT (M 78) (M 80) N (M 86) (2 ^ N)) (lfD (M 78) (M 80) N (soT (M 78) (M 80) N (M 86) (2 ^ N)) (cmT (M 78) (M 80) N (M 86) (2 ^ N)) (M 87) (soT (M 78) (M 80) N (M 86) (2 ^ N) + 1)) w) scr6 S M (fun M1 => NB M1 ∧ ∀ j, j ≠ 27 → M1 77 j = M 77 j)) := by
  have hp := p2_le hN
  have hp1 : 1 ≤ (2 ^ N : Nat) := Nat.one_le_two_pow
  have hsl := (soT_lt (M 78) (M 80) N (M 86) (2 ^ N)).2 (by omega)
  have hpt := pt_ok hL hN (C0 := M 86) (L0 := M 87) rfl rfl rfl
  have hLr := lfD_r hL (n := N) (so := soT (M 78) (M 80) N (M 86) (2 ^ N)) (C := cmT (M 78) (M 80) N (M 86) (2 ^ N)) (Lf := M 87) hN _ (Nat.le_refl _)
  refine Ct.mk [.ref 77, .int (z w), mkV, mkV, mkV] (by decide) rfl (Nat.le_of_ble_eq_true rfl) (fun X K => ?_)
  unfold leastF at K
  refine wp_iload_n (n := 1) K dX12_least_0 rfl rfl ?_
  refine wp_bipush (n := 3) K dX12_least_1 rfl rfl ?_
  refine wp_icmp_ge (n := 6) K dX12_least_3 rfl (tgt := 9) (by decide) ⟨by omega, by omega⟩ ⟨by omega, by omega⟩ (fun c3 => ?_) (fun c3 => ?_)
  rotate_left
  · rw [if_neg (by omega), if_neg (by omega), if_neg (by omega)] at K
    refine wp_bipush (n := 8) K dX12_least_6 rfl rfl ?_
    refine ret_qi K dX12_least_8 ?_ rfl ?_ ?_ ⟨Nat.le_refl _, Nat.le_refl _⟩
    · rfl
    · exact fun _ _ => rfl
    · exact ⟨hnb, fun _ _ => rfl⟩
  refine wp_aload_n (n := 10) K dX12_least_9 rfl rfl ?_
  refine wp_invV_qn (n := 13) K dX12_least_10 rfl cf_X12_312 (m_findLeft N hN _ _ hL h0 hnb) rfl rfl rfl (liS rfl) rfl (by decide) ⟨Nat.le_refl _, Nat.le_refl _⟩ (Nat.le_of_ble_eq_true rfl) (fun M1 hM1 gM1 => ?_)
  obtain ⟨f1, f2, f3, f4, f5⟩ := gM1
  generalize lfD (M 78) (M 80) N (soT (M 78) (M 80) N (M 86) (2 ^ N)) (cmT (M 78) (M 80) N (M 86) (2 ^ N)) (M 87) (soT (M 78) (M 80) N (M 86) (2 ^ N) + 1) = Lf at *
  generalize cmT (M 78) (M 80) N (M 86) (2 ^ N) = C at *
  generalize soT (M 78) (M 80) N (M 86) (2 ^ N) = so at *
  have e27 : M1 77 27 = (so : Int) := by rw [f4, up_same]
  have keep : ∀ j, j ≠ 27 → M1 77 j = M 77 j := fun j hj => by rw [f4, up_ne _ _ hj]
  have hcl := cnt_le 12 so
  refine wp_iload_n (n := 14) K dX12_least_13 rfl rfl ?_
  refine wp_iconst (n := 15) K dX12_least_14 rfl ?_
  refine wp_icmp_ne (n := 18) K dX12_least_15 rfl (tgt := 26) (by decide) ⟨by omega, by omega⟩ ⟨by omega, by omega⟩ (fun c15 => ?_) (fun c15 => ?_)
  rotate_left
  · rw [if_pos c15] at K
    refine wp_aload_n (n := 19) K dX12_least_18 rfl rfl ?_
    refine wp_getI (n := 22) K dX12_least_19 rfl fl_X12_305 rfl (liS rfl) rfl ?_
    try simp only [up_same, up_up, up_ne, ne_eq, Nat.reduceEqDiff, not_false_eq_true, Int.reduceToNat, Int.toNat_natCast]
    rw [e27]
    refine wp_invS_i (n := 25) K dX12_least_22 rfl cf_X12_70 (m_bits _ (by omega) _ _) rfl rfl (by decide) ⟨Nat.le_refl _, Nat.le_refl _⟩ (Nat.le_of_ble_eq_true rfl) ?_
    refine ret_qi K dX12_least_25 ?_ rfl ?_ ?_ ⟨Nat.le_refl _, Nat.le_refl _⟩
    · rfl
    · exact f1
    · exact ⟨f2, keep⟩
  rw [if_neg c15] at K
  refine wp_iload_n (n := 27) K dX12_least_26 rfl rfl ?_
  refine wp_bipush (n := 29) K dX12_least_27 rfl rfl ?_
  refine wp_icmp_ne (n := 32) K dX12_least_29 rfl (tgt := 39) (by decide) ⟨by omega, by omega⟩ ⟨by omega, by omega⟩ (fun c29 => ?_) (fun c29 => ?_)
  rotate_left
  · rw [if_pos c29] at K
    refine wp_aload_n (n := 33) K dX12_least_32 rfl rfl ?_
    refine wp_getF (n := 36) K dX12_least_33 rfl fl_X12_46 rfl (liS rfl) rfl rfl ?_
    refine wp_iconst (n := 37) K dX12_least_36 rfl ?_
    refine wp_iald (n := 38) K dX12_least_37 rfl rfl (liS rfl) ⟨by omega, by omega, by omega⟩ ?_
    try simp only [up_same, up_up, up_ne, ne_eq, Nat.reduceEqDiff, not_false_eq_true, Int.reduceToNat, Int.toNat_natCast]
    refine ret_qi K dX12_least_38 ?_ rfl ?_ ?_ ⟨Nat.le_refl _, Nat.le_refl _⟩
    · rw [f5]
    · exact f1
    · exact ⟨f2, keep⟩
  rw [if_neg c29] at K
  refine wp_iload_n (n := 40) K dX12_least_39 rfl rfl ?_
  refine wp_aload_n (n := 41) K dX12_least_40 rfl rfl ?_
  refine wp_getI (n := 44) K dX12_least_41 rfl fl_X12_305 rfl (liS rfl) rfl ?_
  try simp only [up_same, up_up, up_ne, ne_eq, Nat.reduceEqDiff, not_false_eq_true, Int.reduceToNat, Int.toNat_natCast]
  rw [e27]
  refine wp_invS_i (n := 47) K dX12_least_44 rfl cf_X12_70 (m_bits _ (by omega) _ _) rfl rfl (by decide) ⟨Nat.le_refl _, Nat.le_refl _⟩ (Nat.le_of_ble_eq_true rfl) ?_
  refine wp_icmp_lt (n := 50) K dX12_least_47 rfl (tgt := 53) (by decide) ⟨by omega, by omega⟩ ⟨by omega, by omega⟩ (fun c47 => ?_) (fun c47 => ?_)
  rotate_left
  · rw [if_neg (by omega)] at K
    refine wp_bipush (n := 52) K dX12_least_50 rfl rfl ?_
    refine ret_qi K dX12_least_52 ?_ rfl ?_ ?_ ⟨Nat.le_refl _, Nat.le_refl _⟩
    · rfl
    · exact f1
    · exact ⟨f2, keep⟩
  rw [if_pos (by omega)] at K
  obtain ⟨W, rfl⟩ : ∃ W : Nat, w = W := ⟨w.toNat, by omega⟩
  rw [Int.toNat_natCast] at K
  refine wp_iconst (n := 54) K dX12_least_53 rfl ?_
  refine wp_istore_n (n := 55) K dX12_least_54 rfl (by decide) ?_
  refine wp_iconst (n := 56) K dX12_least_55 rfl ?_
  refine wp_istore_n (n := 57) K dX12_least_56 rfl (by decide) ?_
  refine wp_iconst (n := 58) K dX12_least_57 rfl ?_
  refine wp_istore (n := 60) K dX12_least_58 rfl (by decide) ?_
  have key := dn (W + 1) (Q := fun k => ∀ (M2 : MT) (last : Int), (∀ a, a ∉ scr6 → M2 a = M a) → NB M2 → M2 77 = M1 77 → M2 87 = Lf → (k = 0 ∨ ∃ k', k = k' + 1 ∧ last = (nsF (M 78) (M 80) so Lf (ptS (M 78) (M 80) so Lf k') 12 0 : Int)) → Wp E1 X 60 [.ref 77, .int (z (W : Int)), .int (z (ptS (M 78) (M 80) so Lf k : Int)), .int (z last), .int (z (k : Int))] [] S M2) (fun k hk ih M2 last r1 r2 r3 r4 r5 => ?_) 0 (by omega)
  · exact key M1 (-1) f1 f2 rfl f5 (Or.inl rfl)
  refine wp_iload (n := 62) K dX12_least_60 rfl rfl ?_
  refine wp_iload_n (n := 63) K dX12_least_62 rfl rfl ?_
  refine wp_icmp_gt (n := 66) K dX12_least_63 rfl (tgt := 132) (by decide) ⟨by omega, by omega⟩ ⟨by omega, by omega⟩ (fun c63 => ?_) (fun c63 => ?_)
  · rcases r5 with r | ⟨k', e1, e2⟩
    · omega
    · have : k' = W := by omega
      subst this
      refine wp_iload_n (n := 133) K dX12_least_132 rfl rfl ?_
      refine ret_qi K dX12_least_133 ?_ rfl ?_ ?_ ⟨Nat.le_refl _, Nat.le_refl _⟩
      · exact e2
      · exact r1
      · exact ⟨r2, fun j hj => by rw [r3]; exact keep j hj⟩
  · have ih := ih (by omega)
    have hptk := hpt k (by omega)
    rw [show ptS (M 78) (M 80) so Lf (k + 1) = ptS (M 78) (M 80) so Lf k ||| 2 ^ nsF (M 78) (M 80) so Lf (ptS (M 78) (M 80) so Lf k) 12 0 from rfl] at ih
    generalize hset : ptS (M 78) (M 80) so Lf k = set at *
    obtain ⟨⟨a1, a2, a3, a4, a5⟩, a6⟩ := hptk
    obtain ⟨j, j1, j2, j3, j4⟩ := a6 (by omega)
    have hns := nsF_ok (so := so) (Lf := Lf) ⟨j2, j3, j4⟩ 12 0 (by omega) (by omega)
    generalize hR : nsF (M 78) (M 80) so Lf set 12 0 = R at *
    refine wp_iconst (n := 67) K dX12_least_66 rfl ?_
    refine wp_istore_n (n := 68) K dX12_least_67 rfl (by decide) ?_
    have scan : ∀ (d s : Nat), d + s = 12 → s ≤ R → R = nsF (M 78) (M 80) so Lf set d s → ∀ (M3 : MT), (∀ a, a ∉ scr6 → M3 a = M a) → NB M3 → M3 77 = M1 77 → M3 87 = Lf → Wp E1 X 68 [.ref 77, .int (z (W : Int)), .int (z (set : Int)), .int (z (s : Int)), .int (z (k : Int))] [] S M3 := by
      intro d
      induction d with
      | zero => intro s q1 q2 q3; unfold nsF at q3; omega
      | succ d ihd =>
        intro s q1 q2 q3 M3 t1 t2 t3 t4
        unfold nsF at q3
        have g78 : M3 78 = M 78 := t1 _ (by decide)
        have g80 : M3 80 = M 80 := t1 _ (by decide)
        have next : ¬ (so.testBit s = true ∧ mayF (M 78) (M 80) s set = true ∧ liftF (M 78) (M 80) s set + Lf (set ||| 2 ^ s) = Lf set) → ∀ (M4 : MT), (∀ a, a ∉ scr6 → M4 a = M a) → NB M4 → M4 77 = M1 77 → M4 87 = Lf → Wp E1 X 114 [.ref 77, .int (z (W : Int)), .int (z (set : Int)), .int (z (s : Int)), .int (z (k : Int))] [] S M4 := by
          intro hno M4 u1 u2 u3 u4
          rw [if_neg hno] at q3
          have hsR : s ≠ R := fun e => hno (by rw [e]; exact hns.1)
          refine wp_iinc (n := 117) K dX12_least_114 rfl rfl (by decide) ?_
          refine wp_goto K dX12_least_117 (tgt := 68) (by decide) ?_
          exact ihd (s + 1) (by omega) (by omega) q3 M4 u1 u2 u3 u4
        refine wp_aload_n (n := 69) K dX12_least_68 rfl rfl ?_
        refine wp_getI (n := 72) K dX12_least_69 rfl fl_X12_305 rfl (liS rfl) rfl ?_
        try simp only [up_same, up_up, up_ne, ne_eq, Nat.reduceEqDiff, not_false_eq_true, Int.reduceToNat, Int.toNat_natCast]
        refine wp_iload_n (n := 73) K dX12_least_72 rfl rfl ?_
        rw [t3, e27]
        refine wp_invS_i (n := 76) K dX12_least_73 rfl cf_X12_249 (m_has _ _ (by omega) (by omega) _ _) rfl rfl (by decide) ⟨Nat.le_refl _, Nat.le_refl _⟩ (Nat.le_of_ble_eq_true rfl) ?_
        refine wp_if_eq_b (n := 79) K dX12_least_76 rfl (tgt := 114) (by decide) (fun c76 => ?_) (fun c76 => ?_)
        · exact next (fun q => by rw [c76] at q; cases q.1) M3 t1 t2 t3 t4
        refine wp_aload_n (n := 80) K dX12_least_79 rfl rfl ?_
        refine wp_iload_n (n := 81) K dX12_least_80 rfl rfl ?_
        refine wp_iload_n (n := 82) K dX12_least_81 rfl rfl ?_
        refine wp_invV_qi (n := 85) K dX12_least_82 rfl cf_X12_275 (m_may _ _ (by omega) (by omega) _ _ (by rw [g78, g80]; exact hL) t2) rfl rfl rfl (liS rfl) rfl (by decide) ⟨Nat.le_refl _, Nat.le_refl _⟩ (Nat.le_of_ble_eq_true rfl) (fun M4 hM4 gM4 => ?_)
        refine wp_if_eq_b (n := 88) K dX12_least_85 rfl (tgt := 114) (by decide) (fun c85 => ?_) (fun c85 => ?_)
        · rw [g78, g80] at c85
          exact next (fun q => by rw [c85] at q; cases q.2.1) M4 (fun a ha => (hM4 a (fun q => ha (by simp at q ⊢; omega))).trans (t1 a ha)) gM4 ((hM4 _ (by decide)).trans t3) ((hM4 _ (by decide)).trans t4)
        rw [g78, g80] at c85
        have k78 : M4 78 = M 78 := (hM4 _ (by decide)).trans g78
        have k80 : M4 80 = M 80 := (hM4 _ (by decide)).trans g80
        refine wp_aload_n (n := 89) K dX12_least_88 rfl rfl ?_
        refine wp_iload_n (n := 90) K dX12_least_89 rfl rfl ?_
        refine wp_iload_n (n := 91) K dX12_least_90 rfl rfl ?_
        refine wp_invV_qi (n := 94) K dX12_least_91 rfl cf_X12_278 (m_lift _ _ (by omega) (by omega) _ _ (by rw [k78, k80]; exact hL) gM4) rfl rfl rfl (liS rfl) rfl (by decide) ⟨Nat.le_refl _, Nat.le_refl _⟩ (Nat.le_of_ble_eq_true rfl) (fun M5 hM5 gM5 => ?_)
        rw [k78, k80]
        have u1 : ∀ a, a ∉ scr6 → M5 a = M a := fun a ha => (hM5 a (fun q => ha (by simp at q ⊢; omega))).trans ((hM4 a (fun q => ha (by simp at q ⊢; omega))).trans (t1 a ha))
        have u3 : M5 77 = M1 77 := (hM5 _ (by decide)).trans ((hM4 _ (by decide)).trans t3)
        have u4 : M5 87 = Lf := (hM5 _ (by decide)).trans ((hM4 _ (by decide)).trans t4)
        have hps : (2 ^ s : Nat) < 4096 := Nat.pow_lt_pow_right (by decide) (show s < 12 by omega)
        have hsn : s < N := by omega
        have hlr := liftF_r hL (s := s) (by omega) set
        have hol := or_lt (n := N) a5 hsn
        have hLo := hLr (set ||| 2 ^ s) (by omega) (sub_or a2 c76)
        have hLs := hLr set (by omega) (wo_le_sub a2)
        refine wp_aload_n (n := 95) K dX12_least_94 rfl rfl ?_
        refine wp_getF (n := 98) K dX12_least_95 rfl fl_X12_46 rfl (liS rfl) rfl rfl ?_
        refine wp_iload_n (n := 99) K dX12_least_98 rfl rfl ?_
        refine wp_iconst (n := 100) K dX12_least_99 rfl ?_
        refine wp_iload_n (n := 101) K dX12_least_100 rfl rfl ?_
        refine wp_ishl (n := 102) K dX12_least_101 rfl ?_
        refine wp_ior (n := 103) K dX12_least_102 rfl ?_
        rw [bshl_1 (by omega), bor_n (by omega) (by omega)]
        refine wp_iald (n := 104) K dX12_least_103 rfl rfl (liS rfl) ⟨by omega, by omega, by omega⟩ ?_
        rw [Int.toNat_natCast, u4]
        refine wp_iadd (n := 105) K dX12_least_104 rfl ?_
        refine wp_aload_n (n := 106) K dX12_least_105 rfl rfl ?_
        refine wp_getF (n := 109) K dX12_least_106 rfl fl_X12_46 rfl (liS rfl) rfl rfl ?_
        refine wp_iload_n (n := 110) K dX12_least_109 rfl rfl ?_
        refine wp_iald (n := 111) K dX12_least_110 rfl rfl (liS rfl) ⟨by omega, by omega, by omega⟩ ?_
        try simp only [up_same, up_up, up_ne, ne_eq, Nat.reduceEqDiff, not_false_eq_true, Int.reduceToNat, Int.toNat_natCast]
        rw [u4]
        refine wp_icmp_eq (n := 114) K dX12_least_111 rfl (tgt := 120) (by decide) ⟨by omega, by omega⟩ ⟨by omega, by omega⟩ (fun c111 => ?_) (fun c111 => ?_)
        · rw [if_pos ⟨c76, c85, c111⟩] at q3
          subst q3
          refine wp_iload_n (n := 121) K dX12_least_120 rfl rfl ?_
          refine wp_iconst (n := 122) K dX12_least_121 rfl ?_
          refine wp_iload_n (n := 123) K dX12_least_122 rfl rfl ?_
          refine wp_ishl (n := 124) K dX12_least_123 rfl ?_
          rw [bshl_1 (by omega)]
          refine wp_ior (n := 125) K dX12_least_124 rfl ?_
          rw [bor_n (by omega) (by omega)]
          refine wp_istore_n (n := 126) K dX12_least_125 rfl (by decide) ?_
          refine wp_iinc (n := 129) K dX12_least_126 rfl rfl (by decide) ?_
          refine wp_goto K dX12_least_129 (tgt := 60) (by decide) ?_
          exact ih M5 _ u1 gM5 u3 u4 (Or.inr ⟨k, rfl, by rw [hset, hR]⟩)
        · exact next (fun q => c111 q.2.2) M5 u1 gM5 u3 u4
    exact scan 12 0 rfl (by omega) hR.symm M2 r1 r2 r3 r4
