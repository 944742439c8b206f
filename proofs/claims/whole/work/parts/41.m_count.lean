def fct : Nat → Nat
  | 0 => 1
  | k + 1 => (k + 1) * fct k
theorem fct_pos (k : Nat) : 1 ≤ fct k := by
  induction k with
  | zero => exact Nat.le_refl _
  | succ k ih => unfold fct; exact Nat.le_trans ih (Nat.le_mul_of_pos_left _ (by omega))
theorem fct_mono {a b : Nat} (h : a ≤ b) : fct a ≤ fct b := by
  induction b with
  | zero => rw [show a = 0 by omega]; exact Nat.le_refl _
  | succ b ih =>
    by_cases he : a = b + 1
    · rw [he]; exact Nat.le_refl _
    · have := ih (by omega)
      show fct a ≤ (b + 1) * fct b
      exact Nat.le_trans this (Nat.le_mul_of_pos_left _ (by omega))
theorem fct_12 : fct 12 = 479001600 := by decide
/-! ways to sets: each set that has some sends them on -/
def wy0 (W : Nat → Int) (k : Nat) : Nat → Int := fun j => if j < k then (if j = 0 then 1 else 0) else W j
def wyK (ok : Nat → Nat → Bool) (set : Nat) (W : Nat → Int) : Nat → Nat → Int
  | 0 => W
  | s + 1 => if ok s set = true then up (wyK ok set W s) (set ||| 2 ^ s) (wyK ok set W s (set ||| 2 ^ s) + W set) else wyK ok set W s
def wyT (ok : Nat → Nat → Bool) (n most : Nat) (W : Nat → Int) : Nat → Nat → Int
  | 0 => wy0 W (2 ^ n)
  | k + 1 => if wyT ok n most W k k ≠ 0 ∧ cnt 12 k < most then wyK ok k (wyT ok n most W k) n else wyT ok n most W k
def okB (ok : Nat → Nat → Bool) : Prop := ∀ s set, ok s set = true → set.testBit s = false
theorem or_inj {k s s' : Nat} (h1 : k.testBit s = false) (h2 : k.testBit s' = false) (h : k ||| 2 ^ s = k ||| 2 ^ s') : s = s' := by
  have : (k ||| 2 ^ s').testBit s = true := by rw [← h, Nat.testBit_or, Nat.testBit_two_pow_self]; simp
  rw [Nat.testBit_or, h1, Nat.testBit_two_pow, Bool.false_or] at this
  exact (of_decide_eq_true this).symm
theorem wo_back {k s : Nat} (h : k.testBit s = false) : wo (k ||| 2 ^ s) (2 ^ s) = k := by
  apply Nat.eq_of_testBit_eq
  intro i
  rw [wo_bit, Nat.testBit_or, Nat.testBit_two_pow]
  by_cases he : s = i
  · subst he; rw [h]; simp
  · rw [decide_eq_false he]; simp
/-- ahead of s: what a place holds -/
theorem wyK_v {ok : Nat → Nat → Bool} (hok : okB ok) {set : Nat} {W : Nat → Int} {T : Nat} : ∀ m, (∃ s, s < m ∧ ok s set = true ∧ T = set ||| 2 ^ s ∧ wyK ok set W m T = W T + W set) ∨ ((∀ s, s < m → ok s set = true → T ≠ set ||| 2 ^ s) ∧ wyK ok set W m T = W T) := by
  intro m
  induction m with
  | zero => right; exact ⟨fun s h => by omega, rfl⟩
  | succ m ih =>
    by_cases hm : ok m set = true
    · have hb := hok m set hm
      by_cases hT : T = set ||| 2 ^ m
      · left
        refine ⟨m, by omega, hm, hT, ?_⟩
        show (if ok m set = true then up (wyK ok set W m) (set ||| 2 ^ m) _ else _) T = _
        rw [if_pos hm, hT, up_same]
        rcases ih with ⟨s, q1, q2, q3, -⟩ | ⟨-, q⟩
        · exfalso; have := or_inj (hok s set q2) hb (q3.symm.trans hT); omega
        · rw [hT] at q; rw [q]
      · have e : wyK ok set W (m + 1) T = wyK ok set W m T := by
          show (if ok m set = true then up (wyK ok set W m) (set ||| 2 ^ m) _ else _) T = _
          rw [if_pos hm, up_ne _ _ hT]
        rcases ih with ⟨s, q1, q2, q3, q4⟩ | ⟨q1, q2⟩
        · left; exact ⟨s, by omega, q2, q3, e.trans q4⟩
        · right; exact ⟨fun s hs ho he => by rcases (show s < m ∨ s = m by omega) with r | r; exact q1 s r ho he; exact hT (r ▸ he), e.trans q2⟩
    · have e : wyK ok set W (m + 1) T = wyK ok set W m T := by
        show (if ok m set = true then _ else wyK ok set W m) T = _
        rw [if_neg hm]
      rcases ih with ⟨s, q1, q2, q3, q4⟩ | ⟨q1, q2⟩
      · left; exact ⟨s, by omega, q2, q3, e.trans q4⟩
      · right; exact ⟨fun s hs ho he => by rcases (show s < m ∨ s = m by omega) with r | r; exact q1 s r ho he; exact hm (r ▸ ho), e.trans q2⟩
def gT (k T : Nat) : Nat → Nat
  | 0 => 0
  | s + 1 => gT k T s + (if T.testBit s = true ∧ wo T (2 ^ s) < k then 1 else 0)
theorem gT_le (k T : Nat) (m : Nat) : gT k T m ≤ cnt m T := by
  induction m with
  | zero => exact Nat.le_refl _
  | succ m ih =>
    unfold gT cnt
    split
    · rename_i q; rw [q.1]; simp; omega
    · omega
theorem gT_mono (k T : Nat) (m : Nat) : gT k T m ≤ gT (k + 1) T m ∧ ∀ s, s < m → T.testBit s = true → wo T (2 ^ s) = k → gT k T m + 1 ≤ gT (k + 1) T m := by
  induction m with
  | zero => exact ⟨Nat.le_refl _, fun s h => by omega⟩
  | succ m ih =>
    have h0 : gT k T (m + 1) ≤ gT (k + 1) T (m + 1) := by
      unfold gT
      split
      · rename_i q; rw [if_pos ⟨q.1, by omega⟩]; omega
      · split <;> omega
    refine ⟨h0, fun s hs hb hw => ?_⟩
    by_cases he : s = m
    · subst he
      unfold gT
      rw [if_neg (by omega), if_pos ⟨hb, by omega⟩]; omega
    · have := ih.2 s (by omega) hb hw
      unfold gT
      split
      · rename_i q; rw [if_pos ⟨q.1, by omega⟩]; omega
      · split <;> omega
theorem wyT_b {ok : Nat → Nat → Bool} (hok : okB ok) {n most : Nat} (hn : n ≤ 12) {W : Nat → Int} : ∀ k, k ≤ 2 ^ n → (wyT ok n most W k 0 = 1) ∧ ∀ T, T < 2 ^ n → T ≠ 0 → 0 ≤ wyT ok n most W k T ∧ wyT ok n most W k T ≤ ((gT k T 12 * fct (cnt 12 T - 1) : Nat) : Int) := by
  have hp1 : 1 ≤ (2 ^ n : Nat) := Nat.one_le_two_pow
  intro k
  induction k with
  | zero =>
    intro _
    refine ⟨by show (if 0 < 2 ^ n then (if (0 : Nat) = 0 then (1 : Int) else 0) else W 0) = 1; rw [if_pos (by omega), if_pos rfl], fun T hT h0 => ?_⟩
    have : wyT ok n most W 0 T = 0 := by show (if T < 2 ^ n then (if T = 0 then (1 : Int) else 0) else W T) = 0; rw [if_pos hT, if_neg h0]
    rw [this]; omega
  | succ k ih =>
    intro hk
    obtain ⟨i1, i2⟩ := ih (by omega)
    have hval : 0 ≤ wyT ok n most W k k ∧ wyT ok n most W k k ≤ (fct (cnt 12 k) : Int) := by
      by_cases h0 : k = 0
      · subst h0; rw [i1]; have := fct_pos (cnt 12 0); omega
      · have h1 := i2 k (by omega) h0
        have h2 := gT_le k k 12
        by_cases hc : cnt 12 k = 0
        · rw [hc] at h2; rw [show gT k k 12 = 0 by omega, Nat.zero_mul] at h1; omega
        · have h3 : gT k k 12 * fct (cnt 12 k - 1) ≤ cnt 12 k * fct (cnt 12 k - 1) := Nat.mul_le_mul_right _ h2
          have h4 : cnt 12 k * fct (cnt 12 k - 1) = fct (cnt 12 k) := by
            obtain ⟨m, hm⟩ : ∃ m, cnt 12 k = m + 1 := ⟨cnt 12 k - 1, by omega⟩
            rw [hm]; rfl
          omega
    have same : ∀ T, T < 2 ^ n → T ≠ 0 → wyT ok n most W (k + 1) T = wyT ok n most W k T → 0 ≤ wyT ok n most W (k + 1) T ∧ wyT ok n most W (k + 1) T ≤ ((gT (k + 1) T 12 * fct (cnt 12 T - 1) : Nat) : Int) := by
      intro T hT h0 e
      have h1 := i2 T hT h0
      have h2 := Nat.mul_le_mul_right (fct (cnt 12 T - 1)) (gT_mono k T 12).1
      rw [e]; omega
    have e : wyT ok n most W (k + 1) = if wyT ok n most W k k ≠ 0 ∧ cnt 12 k < most then wyK ok k (wyT ok n most W k) n else wyT ok n most W k := rfl
    by_cases hc : wyT ok n most W k k ≠ 0 ∧ cnt 12 k < most
    · rw [if_pos hc] at e
      refine ⟨?_, fun T hT h0 => ?_⟩
      · rw [e]
        rcases wyK_v hok (set := k) (W := wyT ok n most W k) (T := 0) n with ⟨s, q1, q2, q3, -⟩ | ⟨-, q⟩
        · exfalso; have := or_gt (hok s k q2); omega
        · rw [q]; exact i1
      · rcases wyK_v hok (set := k) (W := wyT ok n most W k) (T := T) n with ⟨s, q1, q2, q3, q4⟩ | ⟨-, q⟩
        · have hb := hok s k q2
          have h1 := i2 T hT h0
          have hcnt := cnt_or 12 k s hb
          rw [if_pos (by omega), ← q3] at hcnt
          have hg := (gT_mono k T 12).2 s (by omega) (by rw [q3, Nat.testBit_or, Nat.testBit_two_pow_self]; simp) (by rw [q3]; exact wo_back hb)
          rw [hcnt, Nat.add_sub_cancel] at h1 ⊢
          have h2 := Nat.mul_le_mul_right (fct (cnt 12 k)) hg
          rw [Nat.add_mul, Nat.one_mul] at h2
          rw [e, q4]; omega
        · exact same T hT h0 (by rw [e]; exact q)
    · rw [if_neg hc] at e
      exact ⟨by rw [e]; exact i1, fun T hT h0 => same T hT h0 (by rw [e])⟩
theorem wyT_r {ok : Nat → Nat → Bool} (hok : okB ok) {n most : Nat} (hn : n ≤ 12) {W : Nat → Int} {k : Nat} (hk : k ≤ 2 ^ n) {T : Nat} (hT : T < 2 ^ n) : 0 ≤ wyT ok n most W k T ∧ wyT ok n most W k T ≤ 479001600 := by
  obtain ⟨i1, i2⟩ := wyT_b hok hn (most := most) (W := W) k hk
  by_cases h0 : T = 0
  · subst h0; rw [i1]; omega
  · have h1 := i2 T hT h0
    have h2 := gT_le k T 12
    have h3 := cnt_le 12 T
    have h4 := fct_mono (show cnt 12 T ≤ 12 from h3)
    rw [fct_12] at h4
    by_cases hc : cnt 12 T = 0
    · rw [hc] at h2; rw [show gT k T 12 = 0 by omega, Nat.zero_mul] at h1; omega
    · have h5 : gT k T 12 * fct (cnt 12 T - 1) ≤ cnt 12 T * fct (cnt 12 T - 1) := Nat.mul_le_mul_right _ h2
      have h6 : cnt 12 T * fct (cnt 12 T - 1) = fct (cnt 12 T) := by
        obtain ⟨m, hm⟩ : ∃ m, cnt 12 T = m + 1 := ⟨cnt 12 T - 1, by omega⟩
        rw [hm]; rfl
      omega
/-- the reference's own test of a stone upon a set -/
def okW (σ τ : Nat → Int) (h : Bool) (s set : Nat) : Bool := (!h || decide (σ (100 + 2 * cnt 12 set) ≤ σ (11 + 5 * s) ∧ σ (11 + 5 * s) ≤ σ (101 + 2 * cnt 12 set))) && mayF σ τ s set
theorem okW_b (σ τ : Nat → Int) (h : Bool) : okB (okW σ τ h) := by
  intro s set q
  unfold okW at q
  exact mayF_bit (Bool.and_eq_true_iff.mp q).2
abbrev scrW : List Nat := 88 :: scr
theorem p2_cast (N : Nat) : ((2 ^ N - 1 : Nat) : Int) = ((2 ^ N : Nat) : Int) - 1 := by have : 1 ≤ (2 ^ N : Nat) := Nat.one_le_two_pow; omega

theorem m_count (N most : Nat) (h : Bool) (hN : N ≤ 12) (hmost : most ≤ 12) (S : ST) (M : MT) (hL : LW (M 78) (M 80)) (h0 : M 78 0 = N) (hnb : NB M) (hso : ∀ u : Nat, u < 12 → InR (M 78 (100 + 2 * u)) ∧ InR (M 78 (101 + 2 * u))) : Ct E1 yX12_count cX12_count 7 none rm_X12_count [.ref 77, .int (z (most : Int)), .int (z (bI h))] S M (Qn scrW S M (fun M1 => NB M1 ∧ M1 88 = wyT (okW (M 78) (M 80) h) N most (M 88) (2 ^ N))) := by
  have hp := p2_le hN
  have hp1 : 1 ≤ (2 ^ N : Nat) := Nat.one_le_two_pow
  refine Ct.mk [.ref 77, .int (z (most : Int)), .int (z (bI h)), mkV, mkV, mkV, mkV] (by decide) rfl (Nat.le_of_ble_eq_true rfl) (fun X K => ?_)
  refine wp_iconst (n := 1) K dX12_count_0 rfl ?_
  refine wp_istore_n (n := 2) K dX12_count_1 rfl (by decide) ?_
  have eM : M = up M 88 (wy0 (M 88) 0) := by
    rw [show wy0 (M 88) 0 = M 88 from by funext j; unfold wy0; rw [if_neg (by omega)], up_self]
  rw [eM]
  refine dn (2 ^ N) (Q := fun k => Wp E1 X 2 [.ref 77, .int (z (most : Int)), .int (z (bI h)), .int (z (k : Int)), mkV, mkV, mkV] [] S (up M 88 (wy0 (M 88) k))) (fun k hk ih => ?_) 0 (by omega)
  have e78 : up M 88 (wy0 (M 88) k) 78 = M 78 := rfl
  refine wp_iload_n (n := 3) K dX12_count_2 rfl rfl ?_
  refine wp_aload_n (n := 4) K dX12_count_3 rfl rfl ?_
  refine wp_invV_i (n := 7) K dX12_count_4 rfl cf_X12_66 (m_all N hN _ _ (by rw [e78]; exact h0)) rfl rfl rfl (liS rfl) rfl (by decide) ⟨Nat.le_refl _, Nat.le_refl _⟩ (Nat.le_of_ble_eq_true rfl) ?_
  refine wp_icmp_gt (n := 10) K dX12_count_7 rfl (tgt := 31) (by decide) ⟨by omega, by omega⟩ ⟨by omega, by omega⟩ (fun c7 => ?_) (fun c7 => ?_)
  · have hk2 : k = 2 ^ N := by omega
    subst hk2
    refine wp_iconst (n := 32) K dX12_count_31 rfl ?_
    refine wp_istore_n (n := 33) K dX12_count_32 rfl (by decide) ?_
    have key := dn (2 ^ N) (Q := fun k => ∀ (M1 : MT) (v4 v5 v6 : Value), (∀ a, a ∉ scrW → M1 a = M a) → NB M1 → M1 88 = wyT (okW (M 78) (M 80) h) N most (M 88) k → Wp E1 X 33 [.ref 77, .int (z (most : Int)), .int (z (bI h)), .int (z (k : Int)), v4, v5, v6] [] S M1) (fun k hk ih M1 v4 v5 v6 r1 r2 r3 => ?_) 0 (by omega)
    · refine key _ mkV mkV mkV (fun a ha => up_ne _ _ (fun e => ha (by rw [e]; decide))) (fun j hj => hnb j hj) rfl
    have e78 : M1 78 = M 78 := r1 _ (by decide)
    have hcl := cnt_le 12 k
    refine wp_iload_n (n := 34) K dX12_count_33 rfl rfl ?_
    refine wp_aload_n (n := 35) K dX12_count_34 rfl rfl ?_
    refine wp_invV_i (n := 38) K dX12_count_35 rfl cf_X12_66 (m_all N hN _ _ (by rw [e78]; exact h0)) rfl rfl rfl (liS rfl) rfl (by decide) ⟨Nat.le_refl _, Nat.le_refl _⟩ (Nat.le_of_ble_eq_true rfl) ?_
    refine wp_icmp_gt (n := 41) K dX12_count_38 rfl (tgt := 178) (by decide) ⟨by omega, by omega⟩ ⟨by omega, by omega⟩ (fun c38 => ?_) (fun c38 => ?_)
    · refine ret_qn K dX12_count_178 rfl ?_ ?_ ⟨Nat.le_refl _, Nat.le_refl _⟩
      · exact r1
      · exact ⟨r2, by rw [show 2 ^ N = k by omega]; exact r3⟩
    · have ih := ih (by omega)
      have hWr := fun T (hT : T < 2 ^ N) => wyT_r (okW_b (M 78) (M 80) h) hN (most := most) (W := M 88) hk hT
      unfold wyT at ih
      generalize wyT (okW (M 78) (M 80) h) N most (M 88) k = W at *
      have hWk := hWr k (by omega)
      refine wp_iload_n (n := 42) K dX12_count_41 rfl rfl ?_
      refine wp_invS_i (n := 45) K dX12_count_42 rfl cf_X12_70 (m_bits _ (by omega) _ _) rfl rfl (by decide) ⟨Nat.le_refl _, Nat.le_refl _⟩ (Nat.le_of_ble_eq_true rfl) ?_
      refine wp_istore (n := 47) K dX12_count_45 rfl (by decide) ?_
      refine wp_aload_n (n := 48) K dX12_count_47 rfl rfl ?_
      refine wp_getF (n := 51) K dX12_count_48 rfl fl_X12_49 rfl (liS rfl) rfl rfl ?_
      refine wp_iload_n (n := 52) K dX12_count_51 rfl rfl ?_
      refine wp_lald (n := 53) K dX12_count_52 rfl rfl (liS rfl) ⟨by omega, by omega, by omega⟩ ?_
      try simp only [up_same, up_up, up_ne, ne_eq, Nat.reduceEqDiff, not_false_eq_true, Int.reduceToNat, Int.toNat_natCast]
      rw [r3]
      refine wp_lconst (n := 54) (a := 0) K dX12_count_53 rfl rfl ?_
      refine wp_lcmp (n := 55) K dX12_count_54 rfl ?_
      refine wp_if_eq (n := 58) K dX12_count_55 rfl (tgt := 172) (by decide) (lcmp_r _ _) (fun c55 => ?_) (fun c55 => ?_)
      · have c := lcmp_eq.mp c55
        rw [w64_id (by omega) (by omega), show w64 0 = 0 from rfl] at c
        rw [if_neg (fun q => q.1 c)] at ih
        refine wp_iinc (n := 175) K dX12_count_172 rfl rfl (by decide) ?_
        refine wp_goto K dX12_count_175 (tgt := 33) (by decide) ?_
        exact ih M1 _ _ _ r1 r2 r3
      have c : W k ≠ 0 := fun q => c55 (lcmp_eq.mpr (by rw [q]))
      refine wp_iload (n := 60) K dX12_count_58 rfl rfl ?_
      refine wp_iload_n (n := 61) K dX12_count_60 rfl rfl ?_
      refine wp_icmp_lt (n := 64) K dX12_count_61 rfl (tgt := 67) (by decide) ⟨by omega, by omega⟩ ⟨by omega, by omega⟩ (fun c61 => ?_) (fun c61 => ?_)
      rotate_left
      · rw [if_neg (fun q => by omega)] at ih
        refine wp_goto K dX12_count_64 (tgt := 172) (by decide) ?_
        refine wp_iinc (n := 175) K dX12_count_172 rfl rfl (by decide) ?_
        refine wp_goto K dX12_count_175 (tgt := 33) (by decide) ?_
        exact ih M1 _ _ _ r1 r2 r3
      rw [if_pos ⟨c, by omega⟩] at ih
      refine wp_iconst (n := 68) K dX12_count_67 rfl ?_
      refine wp_istore (n := 70) K dX12_count_68 rfl (by decide) ?_
      refine dn N (Q := fun s => ∀ (M2 : MT) (v6 : Value), (∀ a, a ∉ scrW → M2 a = M a) → NB M2 → M2 88 = wyK (okW (M 78) (M 80) h) k W s → Wp E1 X 70 [.ref 77, .int (z (most : Int)), .int (z (bI h)), .int (z (k : Int)), .int (z (cnt 12 k : Int)), .int (z (s : Int)), v6] [] S M2) (fun s hs ihs M2 v6 t1 t2 t3 => ?_) 0 (by omega) M1 _ r1 r2 r3
      have e78 : M2 78 = M 78 := t1 _ (by decide)
      have e80 : M2 80 = M 80 := t1 _ (by decide)
      refine wp_iload (n := 72) K dX12_count_70 rfl rfl ?_
      refine wp_aload_n (n := 73) K dX12_count_72 rfl rfl ?_
      refine wp_getF (n := 76) K dX12_count_73 rfl fl_X12_7 rfl (liS rfl) rfl rfl ?_
      refine wp_iconst (n := 77) K dX12_count_76 rfl ?_
      refine wp_iald (n := 78) K dX12_count_77 rfl rfl (liS rfl) ⟨by omega, by omega, by omega⟩ ?_
      try simp only [up_same, up_up, up_ne, ne_eq, Nat.reduceEqDiff, not_false_eq_true, Int.reduceToNat, Int.toNat_natCast]
      rw [e78, h0]
      refine wp_icmp_ge (n := 81) K dX12_count_78 rfl (tgt := 172) (by decide) ⟨by omega, by omega⟩ ⟨by omega, by omega⟩ (fun c78 => ?_) (fun c78 => ?_)
      · refine wp_iinc (n := 175) K dX12_count_172 rfl rfl (by decide) ?_
        refine wp_goto K dX12_count_175 (tgt := 33) (by decide) ?_
        exact ih M2 _ _ _ t1 t2 (by rw [t3, show s = N by omega])
      · have ihs := ihs (by omega)
        unfold wyK okW at ihs
        obtain ⟨-, wh, -⟩ := hL.1.2 s (by omega)
        have hsu := hso (cnt 12 k) (by omega)
        have i1 : (10 + 5 * (s : Int) + 1).toNat = 11 + 5 * s := by omega
        have i2 : (100 + 2 * (cnt 12 k : Int)).toNat = 100 + 2 * cnt 12 k := by omega
        have i3 : (100 + 2 * (cnt 12 k : Int) + 1).toNat = 101 + 2 * cnt 12 k := by omega
        have no : ∀ (M3 : MT) (v6 : Value), ((!h || decide (M 78 (100 + 2 * cnt 12 k) ≤ M 78 (11 + 5 * s) ∧ M 78 (11 + 5 * s) ≤ M 78 (101 + 2 * cnt 12 k))) && mayF (M 78) (M 80) s k) = false → (∀ a, a ∉ scrW → M3 a = M a) → NB M3 → M3 88 = wyK (okW (M 78) (M 80) h) k W s → Wp E1 X 166 [.ref 77, .int (z (most : Int)), .int (z (bI h)), .int (z (k : Int)), .int (z (cnt 12 k : Int)), .int (z (s : Int)), v6] [] S M3 := by
          intro M3 v6 hno u1 u2 u3
          rw [hno, if_neg (by decide)] at ihs
          refine wp_iinc (n := 169) K dX12_count_166 rfl rfl (by decide) ?_
          refine wp_goto K dX12_count_169 (tgt := 70) (by decide) ?_
          exact ihs M3 _ u1 u2 u3
        have ask : ∀ (v6 : Value), (!h || decide (M 78 (100 + 2 * cnt 12 k) ≤ M 78 (11 + 5 * s) ∧ M 78 (11 + 5 * s) ≤ M 78 (101 + 2 * cnt 12 k))) = true → Wp E1 X 133 [.ref 77, .int (z (most : Int)), .int (z (bI h)), .int (z (k : Int)), .int (z (cnt 12 k : Int)), .int (z (s : Int)), v6] [] S M2 := by
          intro v6 hq
          rw [hq, Bool.true_and] at ihs no
          refine wp_aload_n (n := 134) K dX12_count_133 rfl rfl ?_
          refine wp_iload (n := 136) K dX12_count_134 rfl rfl ?_
          refine wp_iload_n (n := 137) K dX12_count_136 rfl rfl ?_
          refine wp_invV_qi (n := 140) K dX12_count_137 rfl cf_X12_275 (m_may _ _ (by omega) (by omega) _ _ (by rw [e78, e80]; exact hL) t2) rfl rfl rfl (liS rfl) rfl (by decide) ⟨Nat.le_refl _, Nat.le_refl _⟩ (Nat.le_of_ble_eq_true rfl) (fun M4 hM4 gM4 => ?_)
          refine wp_if_ne_b (n := 143) K dX12_count_140 rfl (tgt := 146) (by decide) (fun c140 => ?_) (fun c140 => ?_)
          rotate_left
          · rw [e78, e80] at c140
            refine wp_goto K dX12_count_143 (tgt := 166) (by decide) ?_
            exact no M4 _ c140 (fun a ha => (hM4 a (fun q => ha (by simp at q ⊢; omega))).trans (t1 a ha)) gM4 ((hM4 _ (by decide)).trans t3)
          rw [e78, e80] at c140
          rw [c140, if_pos rfl] at ihs
          have hps : (2 ^ s : Nat) < 4096 := Nat.pow_lt_pow_right (by decide) (show s < 12 by omega)
          have hol := or_lt (n := N) (k := k) (s := s) (by omega) (by omega)
          have u3 : M4 88 = wyK (okW (M 78) (M 80) h) k W s := (hM4 _ (by decide)).trans t3
          have eWk : wyK (okW (M 78) (M 80) h) k W s k = W k := by
            rcases wyK_v (okW_b (M 78) (M 80) h) (set := k) (W := W) (T := k) s with ⟨s2, q1, q2, q3, -⟩ | ⟨-, q⟩
            · exfalso; have := or_gt (okW_b _ _ _ s2 k q2); omega
            · exact q
          refine wp_aload_n (n := 147) K dX12_count_146 rfl rfl ?_
          refine wp_getF (n := 150) K dX12_count_147 rfl fl_X12_49 rfl (liS rfl) rfl rfl ?_
          refine wp_iload_n (n := 151) K dX12_count_150 rfl rfl ?_
          refine wp_iconst (n := 152) K dX12_count_151 rfl ?_
          refine wp_iload (n := 154) K dX12_count_152 rfl rfl ?_
          refine wp_ishl (n := 155) K dX12_count_154 rfl ?_
          refine wp_ior (n := 156) K dX12_count_155 rfl ?_
          rw [bshl_1 (by omega), bor_n (by omega) (by omega)]
          refine wp_dup2 (n := 157) K dX12_count_156 rfl rfl rfl ?_
          refine wp_lald (n := 158) K dX12_count_157 rfl rfl (liS rfl) ⟨by omega, by omega, by omega⟩ ?_
          try simp only [up_same, up_up, up_ne, ne_eq, Nat.reduceEqDiff, not_false_eq_true, Int.reduceToNat, Int.toNat_natCast]
          refine wp_aload_n (n := 159) K dX12_count_158 rfl rfl ?_
          refine wp_getF (n := 162) K dX12_count_159 rfl fl_X12_49 rfl (liS rfl) rfl rfl ?_
          refine wp_iload_n (n := 163) K dX12_count_162 rfl rfl ?_
          refine wp_lald (n := 164) K dX12_count_163 rfl rfl (liS rfl) ⟨by omega, by omega, by omega⟩ ?_
          try simp only [up_same, up_up, up_ne, ne_eq, Nat.reduceEqDiff, not_false_eq_true, Int.reduceToNat, Int.toNat_natCast]
          refine wp_ladd (n := 165) K dX12_count_164 rfl ?_
          rw [u3, eWk]
          refine wp_last (n := 166) K dX12_count_165 rfl rfl (liS rfl) (fun _ => rfl) ⟨by omega, by omega, by omega⟩ ?_
          try simp only [up_same, up_up, up_ne, ne_eq, Nat.reduceEqDiff, not_false_eq_true, Int.reduceToNat, Int.toNat_natCast]
          refine wp_iinc (n := 169) K dX12_count_166 rfl rfl (by decide) ?_
          refine wp_goto K dX12_count_169 (tgt := 70) (by decide) ?_
          refine ihs _ _ (fun a ha => ?_) (fun j hj => gM4 j hj) ?_
          · rw [up_ne _ _ (fun e => ha (by rw [e]; decide))]; exact (hM4 a (fun q => ha (by simp at q ⊢; omega))).trans (t1 a ha)
          · rw [up_same, u3]; rfl
        refine wp_aload_n (n := 82) K dX12_count_81 rfl rfl ?_
        refine wp_getF (n := 85) K dX12_count_82 rfl fl_X12_7 rfl (liS rfl) rfl rfl ?_
        refine wp_iload (n := 87) K dX12_count_85 rfl rfl ?_
        refine wp_invS_i (n := 90) K dX12_count_87 rfl cf_X12_74 (m_stoneAt _ _ _) rfl rfl (by decide) ⟨Nat.le_refl _, Nat.le_refl _⟩ (Nat.le_of_ble_eq_true rfl) ?_
        refine wp_iconst (n := 91) K dX12_count_90 rfl ?_
        refine wp_iadd (n := 92) K dX12_count_91 rfl ?_
        refine wp_iald (n := 93) K dX12_count_92 rfl rfl (liS rfl) ⟨by omega, by omega, by omega⟩ ?_
        try simp only [up_same, up_up, up_ne, ne_eq, Nat.reduceEqDiff, not_false_eq_true, Int.reduceToNat, Int.toNat_natCast]
        rw [e78, i1]
        refine wp_istore (n := 95) K dX12_count_93 rfl (by decide) ?_
        refine wp_iload_n (n := 96) K dX12_count_95 rfl rfl ?_
        refine wp_if_eq_b (n := 99) K dX12_count_96 rfl (tgt := 133) (by decide) (fun c96 => ?_) (fun c96 => ?_)
        · exact ask _ (by rw [c96]; rfl)
        · refine wp_iload (n := 101) K dX12_count_99 rfl rfl ?_
          refine wp_aload_n (n := 102) K dX12_count_101 rfl rfl ?_
          refine wp_getF (n := 105) K dX12_count_102 rfl fl_X12_7 rfl (liS rfl) rfl rfl ?_
          refine wp_bipush (n := 107) K dX12_count_105 rfl rfl ?_
          refine wp_iconst (n := 108) K dX12_count_107 rfl ?_
          refine wp_iload (n := 110) K dX12_count_108 rfl rfl ?_
          refine wp_imul (n := 111) K dX12_count_110 rfl ?_
          refine wp_iadd (n := 112) K dX12_count_111 rfl ?_
          refine wp_iald (n := 113) K dX12_count_112 rfl rfl (liS rfl) ⟨by omega, by omega, by omega⟩ ?_
          try simp only [up_same, up_up, up_ne, ne_eq, Nat.reduceEqDiff, not_false_eq_true, Int.reduceToNat, Int.toNat_natCast]
          refine wp_aload_n (n := 114) K dX12_count_113 rfl rfl ?_
          refine wp_getF (n := 117) K dX12_count_114 rfl fl_X12_7 rfl (liS rfl) rfl rfl ?_
          refine wp_bipush (n := 119) K dX12_count_117 rfl rfl ?_
          refine wp_iconst (n := 120) K dX12_count_119 rfl ?_
          refine wp_iload (n := 122) K dX12_count_120 rfl rfl ?_
          refine wp_imul (n := 123) K dX12_count_122 rfl ?_
          refine wp_iadd (n := 124) K dX12_count_123 rfl ?_
          refine wp_iconst (n := 125) K dX12_count_124 rfl ?_
          refine wp_iadd (n := 126) K dX12_count_125 rfl ?_
          refine wp_iald (n := 127) K dX12_count_126 rfl rfl (liS rfl) ⟨by omega, by omega, by omega⟩ ?_
          try simp only [up_same, up_up, up_ne, ne_eq, Nat.reduceEqDiff, not_false_eq_true, Int.reduceToNat, Int.toNat_natCast]
          rw [e78, i2, i3]
          refine wp_invS_i (n := 130) K dX12_count_127 rfl cf_X12_62 (m_isIn _ _ _ ⟨by omega, by omega⟩ hsu.1 hsu.2 _ _) rfl rfl (by decide) ⟨Nat.le_refl _, Nat.le_refl _⟩ (Nat.le_of_ble_eq_true rfl) ?_
          refine wp_if_eq_b (n := 133) K dX12_count_130 rfl (tgt := 166) (by decide) (fun c130 => ?_) (fun c130 => ?_)
          · exact no M2 _ (by rw [c96, c130]; rfl) t1 t2 t3
          · exact ask _ (by rw [c96, c130]; rfl)
  · have ih := ih (by omega)
    have step : ∀ v : Int, v = (if k = 0 then 1 else 0) → Wp E1 X 24 [.ref 77, .int (z (most : Int)), .int (z (bI h)), .int (z (k : Int)), mkV, mkV, mkV] [.long (zl v), .int (z (k : Int)), .ref 88] S (up M 88 (wy0 (M 88) k)) := by
      intro v hv2
      refine wp_last (n := 25) K dX12_count_24 rfl rfl (liS rfl) (fun _ => rfl) ⟨by omega, by omega, by omega⟩ ?_
      try simp only [up_same, up_up, up_ne, ne_eq, Nat.reduceEqDiff, not_false_eq_true, Int.reduceToNat, Int.toNat_natCast]
      refine wp_iinc (n := 28) K dX12_count_25 rfl rfl (by decide) ?_
      refine wp_goto K dX12_count_28 (tgt := 2) (by decide) ?_
      rw [show up (wy0 (M 88) k) k v = wy0 (M 88) (k + 1) from by
        funext j; unfold up wy0
        by_cases q1 : j = k
        · subst q1; rw [if_pos rfl, if_pos (by omega)]; exact hv2
        · rw [if_neg q1]
          by_cases q2 : j < k
          · have q3 : j < k + 1 := by omega
            rw [if_pos q2, if_pos q3]
          · rw [if_neg q2, if_neg (by omega)]]
      exact ih
    refine wp_aload_n (n := 11) K dX12_count_10 rfl rfl ?_
    refine wp_getF (n := 14) K dX12_count_11 rfl fl_X12_49 rfl (liS rfl) rfl rfl ?_
    refine wp_iload_n (n := 15) K dX12_count_14 rfl rfl ?_
    refine wp_iload_n (n := 16) K dX12_count_15 rfl rfl ?_
    refine wp_if_ne (n := 19) K dX12_count_16 rfl (tgt := 23) (by decide) ⟨by omega, by omega⟩ (fun c16 => ?_) (fun c16 => ?_)
    · refine wp_lconst (n := 24) (a := 0) K dX12_count_23 rfl rfl ?_
      exact step 0 (by rw [if_neg (by omega)])
    · refine wp_lconst (n := 20) (a := 1) K dX12_count_19 rfl rfl ?_
      refine wp_goto K dX12_count_20 (tgt := 24) (by decide) ?_
      exact step 1 (by rw [if_pos (by omega)])
