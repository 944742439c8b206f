/-! the class's cells beside the reference's row -/
def SR (a0 a1 a2 a3 a4 a5 : Nat) (M : MT) (σ : Nat → Int) : Prop := M a0 5 = σ 0 ∧ ∀ s, s < 12 → M a1 s = σ (10 + 5 * s) ∧ M a2 s = σ (11 + 5 * s) ∧ M a3 s = σ (12 + 5 * s) ∧ M a4 s = σ (13 + 5 * s) ∧ M a5 s = σ (14 + 5 * s)
def HR (a0 a1 a2 a3 : Nat) (M : MT) (σ : Nat → Int) : Prop := M a0 4 = σ 3 ∧ ∀ h, h < 10 → M a1 h = σ (70 + 3 * h) ∧ M a2 h = σ (71 + 3 * h) ∧ M a3 h = σ (72 + 3 * h)
def NR (a0 a1 a2 : Nat) (M : MT) (σ : Nat → Int) : Prop := M a0 2 = σ 7 ∧ ∀ i, i < 8 → M a1 i = σ (100 + 2 * i) ∧ M a2 i = σ (101 + 2 * i)
/-- the ring of the steps: row k of the reference lies at (first + k) % 30 -/
def GW (f c : Nat) (W σ : Nat → Int) : Prop := ∀ k : Nat, k < c → W (22 * ((f + k) % 30)) = σ (120 + 22 * k) ∧ W (22 * ((f + k) % 30) + 1) = σ (121 + 22 * k) ∧ ∀ h, h < 10 → W (22 * ((f + k) % 30) + 2 + h) = σ (122 + 22 * k + 2 * h) ∧ W (22 * ((f + k) % 30) + 12 + h) = σ (123 + 22 * k + 2 * h)
def GR (a0 a1 : Nat) (M : MT) (σ : Nat → Int) : Prop := (0 ≤ M a0 1 ∧ M a0 1 < 30) ∧ M a0 2 = σ 6 ∧ GW (M a0 1).toNat (σ 6).toNat (M a1) σ
def FD (a0 : Nat) (M : MT) (σ : Nat → Int) : Prop := M a0 6 = σ 4 ∧ M a0 7 = σ 5 ∧ M a0 8 = σ 2 ∧ M a0 9 = σ 1
abbrev SN (M : MT) (σ : Nat → Int) : Prop := SR 18 19 20 21 22 23 M σ
abbrev HN (M : MT) (σ : Nat → Int) : Prop := HR 24 25 26 27 M σ
abbrev NN (M : MT) (σ : Nat → Int) : Prop := NR 29 30 31 M σ
abbrev GN (M : MT) (σ : Nat → Int) : Prop := GR 32 33 M σ


theorem c_hasS (s : Int) (hs : InR s) (S : ST) (M : MT) (σ : Nat → Int) (h : M 18 5 = σ 0) (h0 : 0 ≤ σ 0 ∧ σ 0 ≤ 12) : Ct E1 yX8_has cX8_has 2 (some .boolean) rm_X8_has [.ref 18, .int (z s)] S M (Pi (bI (decide (0 ≤ s ∧ s < σ 0))) S M) := by
  refine Ct.mk [.ref 18, .int (z s)] (by decide) rfl (Nat.le_of_ble_eq_true rfl) (fun X K => ?_)
  refine wp_iload_n (n := 1) K dX8_has_0 rfl rfl ?_
  refine wp_if_lt (n := 4) K dX8_has_1 rfl (tgt := 22) (by decide) ⟨by omega, by omega⟩ (fun c1 => ?_) (fun c1 => ?_)
  · refine wp_iconst (n := 23) K dX8_has_22 rfl ?_
    refine ret_z K dX8_has_23 ?_ rfl ?_ ⟨Nat.le_refl _, Nat.le_refl _⟩
    all_goals first | rfl | exact bI_t (by omega) | exact bI_f (by omega)
  · refine wp_iload_n (n := 5) K dX8_has_4 rfl rfl ?_
    refine wp_aload_n (n := 6) K dX8_has_5 rfl rfl ?_
    refine wp_getI (n := 9) K dX8_has_6 rfl fl_X8_27 rfl (liS rfl) rfl ?_
    try simp only [up_same, up_up, Int.reduceToNat, Int.toNat_natCast]
    refine wp_icmp_ge (n := 12) K dX8_has_9 rfl (tgt := 22) (by decide) ⟨by omega, by omega⟩ ⟨by omega, by omega⟩ (fun c9 => ?_) (fun c9 => ?_)
    · refine wp_iconst (n := 23) K dX8_has_22 rfl ?_
      refine ret_z K dX8_has_23 ?_ rfl ?_ ⟨Nat.le_refl _, Nat.le_refl _⟩
      all_goals first | rfl | exact bI_t (by omega) | exact bI_f (by omega)
    · refine wp_iload_n (n := 13) K dX8_has_12 rfl rfl ?_
      refine wp_bipush (n := 15) K dX8_has_13 rfl rfl ?_
      refine wp_icmp_ge (n := 18) K dX8_has_15 rfl (tgt := 22) (by decide) ⟨by omega, by omega⟩ ⟨by omega, by omega⟩ (fun c15 => ?_) (fun c15 => ?_)
      · refine wp_iconst (n := 23) K dX8_has_22 rfl ?_
        refine ret_z K dX8_has_23 ?_ rfl ?_ ⟨Nat.le_refl _, Nat.le_refl _⟩
        all_goals first | rfl | exact bI_t (by omega) | exact bI_f (by omega)
      · refine wp_iconst (n := 19) K dX8_has_18 rfl ?_
        refine wp_goto K dX8_has_19 (tgt := 23) (by decide) ?_
        refine ret_z K dX8_has_23 ?_ rfl ?_ ⟨Nat.le_refl _, Nat.le_refl _⟩
        all_goals first | rfl | exact bI_t (by omega) | exact bI_f (by omega)

theorem c_allS (n : Nat) (hn : n ≤ 12) (S : ST) (M : MT) (h : M 18 5 = n) : Ct E1 yX8_all cX8_all 1 (some .int) rm_X8_all [.ref 18] S M (Pi ((2 ^ n - 1 : Nat) : Int) S M) := by
  refine Ct.mk [.ref 18] (by decide) rfl (Nat.le_of_ble_eq_true rfl) (fun X K => ?_)
  refine wp_iconst (n := 1) K dX8_all_0 rfl ?_
  refine wp_aload_n (n := 2) K dX8_all_1 rfl rfl ?_
  refine wp_getI (n := 5) K dX8_all_2 rfl fl_X8_27 rfl (liS rfl) rfl ?_
  try simp only [up_same, up_up, Int.reduceToNat, Int.toNat_natCast]
  refine wp_ishl (n := 6) K dX8_all_5 rfl ?_
  refine wp_iconst (n := 7) K dX8_all_6 rfl ?_
  refine wp_isub (n := 8) K dX8_all_7 rfl ?_
  refine ret_i K dX8_all_8 ?_ rfl ?_ ⟨Nat.le_refl _, Nat.le_refl _⟩
  · show bshl 1 (M 18 5) - 1 = _
    rw [h, bshl_1 (by omega)]
    have : 1 ≤ 2 ^ n := Nat.one_le_two_pow
    omega
  · rfl
theorem p12 {n : Nat} (h : n ≤ 12) : 2 ^ n ≤ 4096 ∧ 1 ≤ 2 ^ n := ⟨Nat.pow_le_pow_right (n := 2) (by decide) h, Nat.one_le_two_pow⟩

theorem c_areTold (v : Int) (hv : InR v) (n : Nat) (hn : n ≤ 12) (S : ST) (M : MT) (h : M 18 5 = n) : Ct E1 yX8_areTold cX8_areTold 2 (some .boolean) rm_X8_areTold [.ref 18, .int (z v)] S M (Pi (bI (decide (0 ≤ v ∧ v < ((2 ^ n : Nat) : Int)))) S M) := by
  have hp := p12 hn
  refine Ct.mk [.ref 18, .int (z v)] (by decide) rfl (Nat.le_of_ble_eq_true rfl) (fun X K => ?_)
  refine wp_iload_n (n := 1) K dX8_areTold_0 rfl rfl ?_
  refine wp_if_lt (n := 4) K dX8_areTold_1 rfl (tgt := 16) (by decide) ⟨by omega, by omega⟩ (fun c1 => ?_) (fun c1 => ?_)
  · refine wp_iconst (n := 17) K dX8_areTold_16 rfl ?_
    refine ret_z K dX8_areTold_17 ?_ rfl ?_ ⟨Nat.le_refl _, Nat.le_refl _⟩
    all_goals first | rfl | exact bI_t (by omega) | exact bI_f (by omega)
  · refine wp_iload_n (n := 5) K dX8_areTold_4 rfl rfl ?_
    refine wp_aload_n (n := 6) K dX8_areTold_5 rfl rfl ?_
    refine wp_invV_i (n := 9) K dX8_areTold_6 rfl cf_X8_31 (c_allS n hn _ _ h) rfl rfl rfl (liS rfl) rfl (by decide) ⟨Nat.le_refl _, Nat.le_refl _⟩ (Nat.le_of_ble_eq_true rfl) ?_
    refine wp_icmp_gt (n := 12) K dX8_areTold_9 rfl (tgt := 16) (by decide) ⟨by omega, by omega⟩ ⟨by omega, by omega⟩ (fun c9 => ?_) (fun c9 => ?_)
    · refine wp_iconst (n := 17) K dX8_areTold_16 rfl ?_
      refine ret_z K dX8_areTold_17 ?_ rfl ?_ ⟨Nat.le_refl _, Nat.le_refl _⟩
      all_goals first | rfl | exact bI_t (by omega) | exact bI_f (by omega)
    · refine wp_iconst (n := 13) K dX8_areTold_12 rfl ?_
      refine wp_goto K dX8_areTold_13 (tgt := 17) (by decide) ?_
      refine ret_z K dX8_areTold_17 ?_ rfl ?_ ⟨Nat.le_refl _, Nat.le_refl _⟩
      all_goals first | rfl | exact bI_t (by omega) | exact bI_f (by omega)

theorem c_isBorne (s set : Nat) (hs : s < 12) (hset : set < 4096) (S : ST) (M : MT) (σ : Nat → Int) (h : SN M σ) (hw : WS σ) : Ct E1 yX8_isBorne cX8_isBorne 3 (some .boolean) rm_X8_isBorne [.ref 18, .int (z (s : Int)), .int (z (set : Int))] S M (Pi (bI (borneB σ s set)) S M) := by
  obtain ⟨w1, w2, w3, w4, w5⟩ := hw.2 s hs
  obtain ⟨g1, g2, g3, g4, g5⟩ := h.2 s hs
  have hbn : σ (13 + 5 * s) = (brN σ s : Int) := by unfold brN; omega
  have hb4 : brN σ s < 4096 := by unfold brN; omega
  have hc := cnt_le 12 (brN σ s &&& set)
  refine Ct.mk [.ref 18, .int (z (s : Int)), .int (z (set : Int))] (by decide) rfl (Nat.le_of_ble_eq_true rfl) (fun X K => ?_)
  refine wp_aload_n (n := 1) K dX8_isBorne_0 rfl rfl ?_
  refine wp_getF (n := 4) K dX8_isBorne_1 rfl fl_X8_21 rfl (liS rfl) rfl rfl ?_
  refine wp_iload_n (n := 5) K dX8_isBorne_4 rfl rfl ?_
  refine wp_iald (n := 6) K dX8_isBorne_5 rfl rfl (liS rfl) ⟨by omega, by omega, by omega⟩ ?_
  try simp only [up_same, up_up, Int.reduceToNat, Int.toNat_natCast]
  refine wp_iload_n (n := 7) K dX8_isBorne_6 rfl rfl ?_
  refine wp_iand (n := 8) K dX8_isBorne_7 rfl ?_
  rw [g4, hbn, band_n (by omega) (by omega)]
  refine wp_invS_i (n := 11) K dX8_isBorne_8 rfl cf_X8_35 (j_bitCount _ (Nat.lt_of_le_of_lt Nat.and_le_left (by omega)) _ _) rfl rfl (by decide) ⟨Nat.le_refl _, Nat.le_refl _⟩ (Nat.le_of_ble_eq_true rfl) ?_
  refine wp_aload_n (n := 12) K dX8_isBorne_11 rfl rfl ?_
  refine wp_getF (n := 15) K dX8_isBorne_12 rfl fl_X8_24 rfl (liS rfl) rfl rfl ?_
  refine wp_iload_n (n := 16) K dX8_isBorne_15 rfl rfl ?_
  refine wp_iald (n := 17) K dX8_isBorne_16 rfl rfl (liS rfl) ⟨by omega, by omega, by omega⟩ ?_
  try simp only [up_same, up_up, Int.reduceToNat, Int.toNat_natCast]
  rw [g5]
  refine wp_icmp_lt (n := 20) K dX8_isBorne_17 rfl (tgt := 24) (by decide) ⟨by omega, by omega⟩ ⟨by omega, by omega⟩ (fun c17 => ?_) (fun c17 => ?_)
  · refine wp_iconst (n := 25) K dX8_isBorne_24 rfl ?_
    refine ret_z K dX8_isBorne_25 ?_ rfl ?_ ⟨Nat.le_refl _, Nat.le_refl _⟩
    all_goals first | rfl | exact bI_t (by omega) | exact bI_f (by omega)
  · refine wp_iconst (n := 21) K dX8_isBorne_20 rfl ?_
    refine wp_goto K dX8_isBorne_21 (tgt := 25) (by decide) ?_
    refine ret_z K dX8_isBorne_25 ?_ rfl ?_ ⟨Nat.le_refl _, Nat.le_refl _⟩
    all_goals first | rfl | exact bI_t (by omega) | exact bI_f (by omega)


theorem c_isStanding (set : Nat) (hset : set < 4096) (S : ST) (M : MT) (σ : Nat → Int) (h : SN M σ) (hw : WS σ) : Ct E1 yX8_isStanding cX8_isStanding 3 (some .boolean) rm_X8_isStanding [.ref 18, .int (z (set : Int))] S M (Pi (bI (standB σ set)) S M) := by
  have h0 := hw.1
  have h5 := h.1
  refine Ct.mk [.ref 18, .int (z (set : Int)), mkV] (by decide) rfl (Nat.le_of_ble_eq_true rfl) (fun X K => ?_)
  refine wp_iconst (n := 1) K dX8_isStanding_0 rfl ?_
  refine wp_istore_n (n := 2) K dX8_isStanding_1 rfl (by decide) ?_
  have key := dn (σ 0).toNat (Q := fun k => allB k (fun s => !set.testBit s || borneB σ s set) = true → Wp E1 X 2 [.ref 18, .int (z (set : Int)), .int (z (k : Int))] [] S M) (fun k hk ih hall => ?_) 0 (by omega)
  · exact key rfl
  refine wp_iload_n (n := 3) K dX8_isStanding_2 rfl rfl ?_
  refine wp_aload_n (n := 4) K dX8_isStanding_3 rfl rfl ?_
  refine wp_getI (n := 7) K dX8_isStanding_4 rfl fl_X8_27 rfl (liS rfl) rfl ?_
  try simp only [up_same, up_up, Int.reduceToNat, Int.toNat_natCast]
  refine wp_icmp_ge (n := 10) K dX8_isStanding_7 rfl (tgt := 36) (by decide) ⟨by omega, by omega⟩ ⟨by omega, by omega⟩ (fun c7 => ?_) (fun c7 => ?_)
  · refine wp_iconst (n := 37) K dX8_isStanding_36 rfl ?_
    refine ret_z K dX8_isStanding_37 ?_ rfl ?_ ⟨Nat.le_refl _, Nat.le_refl _⟩
    · have : k = (σ 0).toNat := by omega
      subst this
      show (1 : Int) = bI (allB _ _)
      rw [hall]; rfl
    · rfl
  · refine wp_iload_n (n := 11) K dX8_isStanding_10 rfl rfl ?_
    refine wp_iload_n (n := 12) K dX8_isStanding_11 rfl rfl ?_
    refine wp_ishr (n := 13) K dX8_isStanding_12 rfl ?_
    refine wp_iconst (n := 14) K dX8_isStanding_13 rfl ?_
    refine wp_iand (n := 15) K dX8_isStanding_14 rfl ?_
    refine wp_iconst (n := 16) K dX8_isStanding_15 rfl ?_
    rw [bit_n (by omega) (by omega)]
    have hb := Bool.toNat_le (set.testBit k)
    refine wp_icmp_ne (n := 19) K dX8_isStanding_16 rfl (tgt := 30) (by decide) ⟨by omega, by omega⟩ ⟨by omega, by omega⟩ (fun c16 => ?_) (fun c16 => ?_)
    · refine wp_iinc (n := 33) K dX8_isStanding_30 rfl rfl (by decide) ?_
      refine wp_goto K dX8_isStanding_33 (tgt := 2) (by decide) ?_
      refine ih (by omega) ?_
      unfold allB
      have : set.testBit k = false := by cases hq : set.testBit k with
        | false => rfl
        | true => rw [hq] at c16; exact absurd rfl c16
      simp [hall, this]
    · have ht : set.testBit k = true := by cases hq : set.testBit k with
        | true => rfl
        | false => rw [hq] at c16; cases c16
      refine wp_aload_n (n := 20) K dX8_isStanding_19 rfl rfl ?_
      refine wp_iload_n (n := 21) K dX8_isStanding_20 rfl rfl ?_
      refine wp_iload_n (n := 22) K dX8_isStanding_21 rfl rfl ?_
      refine wp_invV_i (n := 25) K dX8_isStanding_22 rfl cf_X8_41 (c_isBorne _ _ (by omega) (by omega) _ _ σ h hw) rfl rfl rfl (liS rfl) rfl (by decide) ⟨Nat.le_refl _, Nat.le_refl _⟩ (Nat.le_of_ble_eq_true rfl) ?_
      refine wp_if_ne_b (n := 28) K dX8_isStanding_25 rfl (tgt := 30) (by decide) (fun c25 => ?_) (fun c25 => ?_)
      · refine wp_iinc (n := 33) K dX8_isStanding_30 rfl rfl (by decide) ?_
        refine wp_goto K dX8_isStanding_33 (tgt := 2) (by decide) ?_
        refine ih (by omega) ?_
        unfold allB
        simp [hall, c25]
      · refine wp_iconst (n := 29) K dX8_isStanding_28 rfl ?_
        refine ret_z K dX8_isStanding_29 ?_ rfl ?_ ⟨Nat.le_refl _, Nat.le_refl _⟩
        · show (0 : Int) = bI (allB _ _)
          rw [allB_false (k := k) (by omega) (by simp [ht, c25])]; rfl
        · rfl
theorem topT_max (σ : Nat → Int) (set k : Nat) (h : set.testBit k = true) : topT σ set (k + 1) = max (topT σ set k) (σ (11 + 5 * k)) := by
  rw [topT, h]; simp only [true_and]; split <;> omega
theorem topT_no (σ : Nat → Int) (set k : Nat) (h : set.testBit k = false) : topT σ set (k + 1) = topT σ set k := by
  rw [topT, h, if_neg (by simp)]

theorem c_topOf (set : Nat) (hset : set < 4096) (S : ST) (M : MT) (σ : Nat → Int) (h : SN M σ) (hw : WS σ) : Ct E1 yX8_topOf cX8_topOf 4 (some .int) rm_X8_topOf [.ref 18, .int (z (set : Int))] S M (Pi (topT σ set (σ 0).toNat) S M) := by
  have h0 := hw.1
  have h5 := h.1
  refine Ct.mk [.ref 18, .int (z (set : Int)), mkV, mkV] (by decide) rfl (Nat.le_of_ble_eq_true rfl) (fun X K => ?_)
  refine wp_iconst (n := 1) K dX8_topOf_0 rfl ?_
  refine wp_istore_n (n := 2) K dX8_topOf_1 rfl (by decide) ?_
  refine wp_iconst (n := 3) K dX8_topOf_2 rfl ?_
  refine wp_istore_n (n := 4) K dX8_topOf_3 rfl (by decide) ?_
  refine dn (σ 0).toNat (Q := fun k => Wp E1 X 4 [.ref 18, .int (z (set : Int)), .int (z (topT σ set k)), .int (z (k : Int))] [] S M) (fun k hk ih => ?_) 0 (by omega)
  refine wp_iload_n (n := 5) K dX8_topOf_4 rfl rfl ?_
  refine wp_aload_n (n := 6) K dX8_topOf_5 rfl rfl ?_
  refine wp_getI (n := 9) K dX8_topOf_6 rfl fl_X8_27 rfl (liS rfl) rfl ?_
  try simp only [up_same, up_up, Int.reduceToNat, Int.toNat_natCast]
  refine wp_icmp_ge (n := 12) K dX8_topOf_9 rfl (tgt := 38) (by decide) ⟨by omega, by omega⟩ ⟨by omega, by omega⟩ (fun c9 => ?_) (fun c9 => ?_)
  · refine wp_iload_n (n := 39) K dX8_topOf_38 rfl rfl ?_
    refine ret_i K dX8_topOf_39 ?_ rfl ?_ ⟨Nat.le_refl _, Nat.le_refl _⟩
    · rw [show k = (σ 0).toNat by omega]
    · rfl
  · have ht := topT_r hw set k (by omega)
    obtain ⟨-, w2, -⟩ := hw.2 k (by omega)
    refine wp_iload_n (n := 13) K dX8_topOf_12 rfl rfl ?_
    refine wp_iload_n (n := 14) K dX8_topOf_13 rfl rfl ?_
    refine wp_ishr (n := 15) K dX8_topOf_14 rfl ?_
    refine wp_iconst (n := 16) K dX8_topOf_15 rfl ?_
    refine wp_iand (n := 17) K dX8_topOf_16 rfl ?_
    refine wp_iconst (n := 18) K dX8_topOf_17 rfl ?_
    rw [bit_n (by omega) (by omega)]
    have hb := Bool.toNat_le (set.testBit k)
    refine wp_icmp_ne (n := 21) K dX8_topOf_18 rfl (tgt := 32) (by decide) ⟨by omega, by omega⟩ ⟨by omega, by omega⟩ (fun c18 => ?_) (fun c18 => ?_)
    · have : set.testBit k = false := by cases hq : set.testBit k with
        | false => rfl
        | true => rw [hq] at c18; exact absurd rfl c18
      have ih := ih (by omega)
      rw [topT_no σ set k this] at ih
      refine wp_iinc (n := 35) K dX8_topOf_32 rfl rfl (by decide) ?_
      refine wp_goto K dX8_topOf_35 (tgt := 4) (by decide) ?_
      exact ih
    · have ht2 : set.testBit k = true := by cases hq : set.testBit k with
        | true => rfl
        | false => rw [hq] at c18; cases c18
      have ih := ih (by omega)
      rw [topT_max σ set k ht2] at ih
      refine wp_iload_n (n := 22) K dX8_topOf_21 rfl rfl ?_
      refine wp_aload_n (n := 23) K dX8_topOf_22 rfl rfl ?_
      refine wp_getF (n := 26) K dX8_topOf_23 rfl fl_X8_15 rfl (liS rfl) rfl rfl ?_
      refine wp_iload_n (n := 27) K dX8_topOf_26 rfl rfl ?_
      refine wp_iald (n := 28) K dX8_topOf_27 rfl rfl (liS rfl) ⟨by omega, by omega, by omega⟩ ?_
      try simp only [up_same, up_up, Int.reduceToNat, Int.toNat_natCast]
      rw [(h.2 k (by omega)).2.1]
      refine wp_invS_i (n := 31) K dX8_topOf_28 rfl cf_X8_45 (j_max _ _ ⟨by omega, by omega⟩ ⟨by omega, by omega⟩ _ _) rfl rfl (by decide) ⟨Nat.le_refl _, Nat.le_refl _⟩ (Nat.le_of_ble_eq_true rfl) ?_
      refine wp_istore_n (n := 32) K dX8_topOf_31 rfl (by decide) ?_
      refine wp_iinc (n := 35) K dX8_topOf_32 rfl rfl (by decide) ?_
      refine wp_goto K dX8_topOf_35 (tgt := 4) (by decide) ?_
      exact ih

theorem c_isLaid (s L : Nat) (hs : s < 32) (hL : L < 4096) (S : ST) (M : MT) (h : M 17 9 = (L : Int)) : Ct E1 yX6_isLaid cX6_isLaid 2 (some .boolean) rm_X6_isLaid [.ref 17, .int (z (s : Int))] S M (Pi (bI (L.testBit s)) S M) := by
  refine Ct.mk [.ref 17, .int (z (s : Int))] (by decide) rfl (Nat.le_of_ble_eq_true rfl) (fun X K => ?_)
  have hb := Bool.toNat_le (L.testBit s)
  refine wp_aload_n (n := 1) K dX6_isLaid_0 rfl rfl ?_
  refine wp_getI (n := 4) K dX6_isLaid_1 rfl fl_X6_66 rfl (liS rfl) rfl ?_
  try simp only [up_same, up_up, Int.reduceToNat, Int.toNat_natCast]
  refine wp_iload_n (n := 5) K dX6_isLaid_4 rfl rfl ?_
  refine wp_ishr (n := 6) K dX6_isLaid_5 rfl ?_
  refine wp_iconst (n := 7) K dX6_isLaid_6 rfl ?_
  refine wp_iand (n := 8) K dX6_isLaid_7 rfl ?_
  refine wp_iconst (n := 9) K dX6_isLaid_8 rfl ?_
  rw [h, bit_n hs (by omega)]
  refine wp_icmp_ne (n := 12) K dX6_isLaid_9 rfl (tgt := 16) (by decide) ⟨by omega, by omega⟩ ⟨by omega, by omega⟩ (fun c9 => ?_) (fun c9 => ?_)
  · refine wp_iconst (n := 17) K dX6_isLaid_16 rfl ?_
    refine ret_z K dX6_isLaid_17 ?_ rfl ?_ ⟨Nat.le_refl _, Nat.le_refl _⟩
    all_goals first | rfl | (cases hq : L.testBit s <;> simp_all [bI])
  · refine wp_iconst (n := 13) K dX6_isLaid_12 rfl ?_
    refine wp_goto K dX6_isLaid_13 (tgt := 17) (by decide) ?_
    refine ret_z K dX6_isLaid_17 ?_ rfl ?_ ⟨Nat.le_refl _, Nat.le_refl _⟩
    all_goals first | rfl | (cases hq : L.testBit s <;> simp_all [bI])

theorem c_hasText (t : Int) (ht : InR t) (S : ST) (M : MT) (n : Int) (hn : 0 ≤ n ∧ n ≤ 4) (h : M 17 6 = n) : Ct E1 yX6_hasText cX6_hasText 2 (some .boolean) rm_X6_hasText [.ref 17, .int (z t)] S M (Pi (bI (decide (0 ≤ t ∧ t < n))) S M) := by
  refine Ct.mk [.ref 17, .int (z t)] (by decide) rfl (Nat.le_of_ble_eq_true rfl) (fun X K => ?_)
  refine wp_iload_n (n := 1) K dX6_hasText_0 rfl rfl ?_
  refine wp_if_lt (n := 4) K dX6_hasText_1 rfl (tgt := 21) (by decide) ⟨by omega, by omega⟩ (fun c1 => ?_) (fun c1 => ?_)
  · refine wp_iconst (n := 22) K dX6_hasText_21 rfl ?_
    refine ret_z K dX6_hasText_22 ?_ rfl ?_ ⟨Nat.le_refl _, Nat.le_refl _⟩
    all_goals first | rfl | exact bI_t (by omega) | exact bI_f (by omega)
  · refine wp_iload_n (n := 5) K dX6_hasText_4 rfl rfl ?_
    refine wp_aload_n (n := 6) K dX6_hasText_5 rfl rfl ?_
    refine wp_getI (n := 9) K dX6_hasText_6 rfl fl_X6_56 rfl (liS rfl) rfl ?_
    try simp only [up_same, up_up, Int.reduceToNat, Int.toNat_natCast]
    refine wp_icmp_ge (n := 12) K dX6_hasText_9 rfl (tgt := 21) (by decide) ⟨by omega, by omega⟩ ⟨by omega, by omega⟩ (fun c9 => ?_) (fun c9 => ?_)
    · refine wp_iconst (n := 22) K dX6_hasText_21 rfl ?_
      refine ret_z K dX6_hasText_22 ?_ rfl ?_ ⟨Nat.le_refl _, Nat.le_refl _⟩
      all_goals first | rfl | exact bI_t (by omega) | exact bI_f (by omega)
    · refine wp_iload_n (n := 13) K dX6_hasText_12 rfl rfl ?_
      refine wp_iconst (n := 14) K dX6_hasText_13 rfl ?_
      refine wp_icmp_ge (n := 17) K dX6_hasText_14 rfl (tgt := 21) (by decide) ⟨by omega, by omega⟩ ⟨by omega, by omega⟩ (fun c14 => ?_) (fun c14 => ?_)
      · refine wp_iconst (n := 22) K dX6_hasText_21 rfl ?_
        refine ret_z K dX6_hasText_22 ?_ rfl ?_ ⟨Nat.le_refl _, Nat.le_refl _⟩
        all_goals first | rfl | exact bI_t (by omega) | exact bI_f (by omega)
      · refine wp_iconst (n := 18) K dX6_hasText_17 rfl ?_
        refine wp_goto K dX6_hasText_18 (tgt := 22) (by decide) ?_
        refine ret_z K dX6_hasText_22 ?_ rfl ?_ ⟨Nat.le_refl _, Nat.le_refl _⟩
        all_goals first | rfl | exact bI_t (by omega) | exact bI_f (by omega)

theorem c_hasH (s : Int) (hs : InR s) (S : ST) (M : MT) (n : Int) (hn : 0 ≤ n ∧ n ≤ 10) (h : M 24 4 = n) : Ct E1 yX1_has cX1_has 2 (some .boolean) rm_X1_has [.ref 24, .int (z s)] S M (Pi (bI (decide (0 ≤ s ∧ s < n))) S M) := by
  refine Ct.mk [.ref 24, .int (z s)] (by decide) rfl (Nat.le_of_ble_eq_true rfl) (fun X K => ?_)
  refine wp_iload_n (n := 1) K dX1_has_0 rfl rfl ?_
  refine wp_if_lt (n := 4) K dX1_has_1 rfl (tgt := 22) (by decide) ⟨by omega, by omega⟩ (fun c1 => ?_) (fun c1 => ?_)
  · refine wp_iconst (n := 23) K dX1_has_22 rfl ?_
    refine ret_z K dX1_has_23 ?_ rfl ?_ ⟨Nat.le_refl _, Nat.le_refl _⟩
    all_goals first | rfl | exact bI_t (by omega) | exact bI_f (by omega)
  · refine wp_iload_n (n := 5) K dX1_has_4 rfl rfl ?_
    refine wp_aload_n (n := 6) K dX1_has_5 rfl rfl ?_
    refine wp_getI (n := 9) K dX1_has_6 rfl fl_X1_24 rfl (liS rfl) rfl ?_
    try simp only [up_same, up_up, Int.reduceToNat, Int.toNat_natCast]
    refine wp_icmp_ge (n := 12) K dX1_has_9 rfl (tgt := 22) (by decide) ⟨by omega, by omega⟩ ⟨by omega, by omega⟩ (fun c9 => ?_) (fun c9 => ?_)
    · refine wp_iconst (n := 23) K dX1_has_22 rfl ?_
      refine ret_z K dX1_has_23 ?_ rfl ?_ ⟨Nat.le_refl _, Nat.le_refl _⟩
      all_goals first | rfl | exact bI_t (by omega) | exact bI_f (by omega)
    · refine wp_iload_n (n := 13) K dX1_has_12 rfl rfl ?_
      refine wp_bipush (n := 15) K dX1_has_13 rfl rfl ?_
      refine wp_icmp_ge (n := 18) K dX1_has_15 rfl (tgt := 22) (by decide) ⟨by omega, by omega⟩ ⟨by omega, by omega⟩ (fun c15 => ?_) (fun c15 => ?_)
      · refine wp_iconst (n := 23) K dX1_has_22 rfl ?_
        refine ret_z K dX1_has_23 ?_ rfl ?_ ⟨Nat.le_refl _, Nat.le_refl _⟩
        all_goals first | rfl | exact bI_t (by omega) | exact bI_f (by omega)
      · refine wp_iconst (n := 19) K dX1_has_18 rfl ?_
        refine wp_goto K dX1_has_19 (tgt := 23) (by decide) ?_
        refine ret_z K dX1_has_23 ?_ rfl ?_ ⟨Nat.le_refl _, Nat.le_refl _⟩
        all_goals first | rfl | exact bI_t (by omega) | exact bI_f (by omega)

theorem c_forget (S : ST) (M : MT) : Ct E1 yX3_forget cX3_forget 1 none rm_X3_forget [.ref 67] S M (Pn S (up M 67 (up (M 67) 4 0))) := by
  refine Ct.mk [.ref 67] (by decide) rfl (Nat.le_of_ble_eq_true rfl) (fun X K => ?_)
  refine wp_aload_n (n := 1) K dX3_forget_0 rfl rfl ?_
  refine wp_iconst (n := 2) K dX3_forget_1 rfl ?_
  refine wp_putZ (n := 5) K dX3_forget_2 rfl fl_X3_28 rfl (liS rfl) (Or.inl rfl) rfl rfl (by first | exact Or.inl rfl | exact Or.inr rfl) ?_
  try simp only [up_same, up_up, Int.reduceToNat, Int.toNat_natCast]
  refine ret_n K dX3_forget_5 rfl ?_ ⟨Nat.le_refl _, Nat.le_refl _⟩
  · rfl


theorem c_hour (h : Int) (hh : InR h) (S : ST) (M : MT) : Ct E1 yX11_hour cX11_hour 2 (some .boolean) rm_X11_hour [.ref 16, .int (z h)] S M (Pi (bI (decide (0 ≤ h ∧ h ≤ 23))) S (if 0 ≤ h ∧ h ≤ 23 then up (up M 67 (up (M 67) 4 0)) 17 (up (M 17) 8 h) else M)) := by
  refine Ct.mk [.ref 16, .int (z h)] (by decide) rfl (Nat.le_of_ble_eq_true rfl) (fun X K => ?_)
  refine wp_iload_n (n := 1) K dX11_hour_0 rfl rfl ?_
  refine wp_if_lt (n := 4) K dX11_hour_1 rfl (tgt := 10) (by decide) ⟨by omega, by omega⟩ (fun c1 => ?_) (fun c1 => ?_)
  · rw [if_neg (by omega)] at K
    refine wp_iconst (n := 11) K dX11_hour_10 rfl ?_
    refine ret_z K dX11_hour_11 ?_ rfl ?_ ⟨Nat.le_refl _, Nat.le_refl _⟩
    · exact bI_f (by omega)
    · rfl
  · refine wp_iload_n (n := 5) K dX11_hour_4 rfl rfl ?_
    refine wp_bipush (n := 7) K dX11_hour_5 rfl rfl ?_
    refine wp_icmp_lt (n := 10) K dX11_hour_7 rfl (tgt := 12) (by decide) ⟨by omega, by omega⟩ ⟨by omega, by omega⟩ (fun c7 => ?_) (fun c7 => ?_)
    · rw [if_pos (by omega)] at K
      refine wp_aload_n (n := 13) K dX11_hour_12 rfl rfl ?_
      refine wp_getF (n := 16) K dX11_hour_13 rfl fl_X11_43 rfl (liS rfl) rfl rfl ?_
      refine wp_invV_n (n := 19) K dX11_hour_16 rfl cf_X11_84 (c_forget _ _) rfl rfl rfl (liS rfl) rfl (by decide) ⟨Nat.le_refl _, Nat.le_refl _⟩ (Nat.le_of_ble_eq_true rfl) ?_
      refine wp_aload_n (n := 20) K dX11_hour_19 rfl rfl ?_
      refine wp_getF (n := 23) K dX11_hour_20 rfl fl_X11_12 rfl (liS rfl) rfl rfl ?_
      refine wp_iload_n (n := 24) K dX11_hour_23 rfl rfl ?_
      refine wp_putI (n := 27) K dX11_hour_24 rfl fl_X11_103 rfl (liS rfl) (Or.inl rfl) rfl rfl ?_
      try simp only [up_same, up_up, up_ne, ne_eq, Nat.reduceEqDiff, not_false_eq_true, Int.reduceToNat, Int.toNat_natCast]
      refine wp_iconst (n := 28) K dX11_hour_27 rfl ?_
      refine ret_z K dX11_hour_28 ?_ rfl ?_ ⟨Nat.le_refl _, Nat.le_refl _⟩
      · exact bI_t (by omega)
      · rfl
    · rw [if_neg (by omega)] at K
      refine wp_iconst (n := 11) K dX11_hour_10 rfl ?_
      refine ret_z K dX11_hour_11 ?_ rfl ?_ ⟨Nat.le_refl _, Nat.le_refl _⟩
      · exact bI_f (by omega)
      · rfl

theorem c_fault (w f p : Int) (hw : InR w) (S : ST) (M : MT) (h : M 16 7 = 0 ∧ f = -1 ∧ p = -1 ∨ M 16 7 = 1 ∧ M 16 8 = f ∧ M 16 9 = p) : Ct E1 yX11_fault cX11_fault 2 (some .int) rm_X11_fault [.ref 16, .int (z w)] S M (Pi (if w = 0 then f else if w = 1 then p else -1) S M) := by
  refine Ct.mk [.ref 16, .int (z w)] (by decide) rfl (Nat.le_of_ble_eq_true rfl) (fun X K => ?_)
  refine wp_aload_n (n := 1) K dX11_fault_0 rfl rfl ?_
  refine wp_getI (n := 4) K dX11_fault_1 rfl fl_X11_54 rfl (liS rfl) rfl ?_
  try simp only [up_same, up_up, Int.reduceToNat, Int.toNat_natCast]
  rcases h with ⟨h1, h2, h3⟩ | ⟨h1, h2, h3⟩
  · rw [h1]
    refine wp_if_ne (n := 7) K dX11_fault_4 rfl (tgt := 9) (by decide) ⟨by omega, by omega⟩ (fun c4 => ?_) (fun c4 => ?_)
    · refine wp_iload_n (n := 10) K dX11_fault_9 rfl rfl ?_
      refine wp_if_ne (n := 13) K dX11_fault_10 rfl (tgt := 18) (by decide) ⟨by omega, by omega⟩ (fun c10 => ?_) (fun c10 => ?_)
      · refine wp_iload_n (n := 19) K dX11_fault_18 rfl rfl ?_
        refine wp_iconst (n := 20) K dX11_fault_19 rfl ?_
        refine wp_icmp_ne (n := 23) K dX11_fault_20 rfl (tgt := 30) (by decide) ⟨by omega, by omega⟩ ⟨by omega, by omega⟩ (fun c20 => ?_) (fun c20 => ?_)
        · refine wp_iconst (n := 31) K dX11_fault_30 rfl ?_
          refine ret_i K dX11_fault_31 ?_ rfl ?_ ⟨Nat.le_refl _, Nat.le_refl _⟩
          all_goals first | rfl | (split <;> (try split) <;> simp_all) | simp_all
        · refine wp_aload_n (n := 24) K dX11_fault_23 rfl rfl ?_
          refine wp_getI (n := 27) K dX11_fault_24 rfl fl_X11_62 rfl (liS rfl) rfl ?_
          try simp only [up_same, up_up, Int.reduceToNat, Int.toNat_natCast]
          refine wp_goto K dX11_fault_27 (tgt := 31) (by decide) ?_
          refine ret_i K dX11_fault_31 ?_ rfl ?_ ⟨Nat.le_refl _, Nat.le_refl _⟩
          all_goals first | rfl | (split <;> (try split) <;> simp_all) | simp_all
      · refine wp_aload_n (n := 14) K dX11_fault_13 rfl rfl ?_
        refine wp_getI (n := 17) K dX11_fault_14 rfl fl_X11_58 rfl (liS rfl) rfl ?_
        try simp only [up_same, up_up, Int.reduceToNat, Int.toNat_natCast]
        refine ret_i K dX11_fault_17 ?_ rfl ?_ ⟨Nat.le_refl _, Nat.le_refl _⟩
        all_goals first | rfl | (split <;> (try split) <;> simp_all) | simp_all
    · refine wp_iconst (n := 8) K dX11_fault_7 rfl ?_
      refine ret_i K dX11_fault_8 ?_ rfl ?_ ⟨Nat.le_refl _, Nat.le_refl _⟩
      all_goals first | rfl | (split <;> (try split) <;> simp_all) | simp_all
  · rw [h1]
    refine wp_if_ne (n := 7) K dX11_fault_4 rfl (tgt := 9) (by decide) ⟨by omega, by omega⟩ (fun c4 => ?_) (fun c4 => ?_)
    · refine wp_iload_n (n := 10) K dX11_fault_9 rfl rfl ?_
      refine wp_if_ne (n := 13) K dX11_fault_10 rfl (tgt := 18) (by decide) ⟨by omega, by omega⟩ (fun c10 => ?_) (fun c10 => ?_)
      · refine wp_iload_n (n := 19) K dX11_fault_18 rfl rfl ?_
        refine wp_iconst (n := 20) K dX11_fault_19 rfl ?_
        refine wp_icmp_ne (n := 23) K dX11_fault_20 rfl (tgt := 30) (by decide) ⟨by omega, by omega⟩ ⟨by omega, by omega⟩ (fun c20 => ?_) (fun c20 => ?_)
        · refine wp_iconst (n := 31) K dX11_fault_30 rfl ?_
          refine ret_i K dX11_fault_31 ?_ rfl ?_ ⟨Nat.le_refl _, Nat.le_refl _⟩
          all_goals first | rfl | (split <;> (try split) <;> simp_all) | simp_all
        · refine wp_aload_n (n := 24) K dX11_fault_23 rfl rfl ?_
          refine wp_getI (n := 27) K dX11_fault_24 rfl fl_X11_62 rfl (liS rfl) rfl ?_
          try simp only [up_same, up_up, Int.reduceToNat, Int.toNat_natCast]
          refine wp_goto K dX11_fault_27 (tgt := 31) (by decide) ?_
          refine ret_i K dX11_fault_31 ?_ rfl ?_ ⟨Nat.le_refl _, Nat.le_refl _⟩
          all_goals first | rfl | (split <;> (try split) <;> simp_all) | simp_all
      · refine wp_aload_n (n := 14) K dX11_fault_13 rfl rfl ?_
        refine wp_getI (n := 17) K dX11_fault_14 rfl fl_X11_58 rfl (liS rfl) rfl ?_
        try simp only [up_same, up_up, Int.reduceToNat, Int.toNat_natCast]
        refine ret_i K dX11_fault_17 ?_ rfl ?_ ⟨Nat.le_refl _, Nat.le_refl _⟩
        all_goals first | rfl | (split <;> (try split) <;> simp_all) | simp_all
    · refine wp_iconst (n := 8) K dX11_fault_7 rfl ?_
      refine ret_i K dX11_fault_8 ?_ rfl ?_ ⟨Nat.le_refl _, Nat.le_refl _⟩
      all_goals first | rfl | (split <;> (try split) <;> simp_all) | simp_all

theorem c_end (n t : Int) (hn : InR n) (S : ST) (M : MT) (ht : 0 ≤ t ∧ t ≤ 300) (h : M 55 4 = t) : Ct E1 yX11_end cX11_end 2 (some .int) rm_X11_end [.ref 16, .int (z n)] S M (Pi (if 0 ≤ n ∧ n ≤ t then n else -1) S (if 0 ≤ n ∧ n ≤ t then up M 55 (up (M 55) 4 n) else M)) := by
  refine Ct.mk [.ref 16, .int (z n)] (by decide) rfl (Nat.le_of_ble_eq_true rfl) (fun X K => ?_)
  refine wp_iload_n (n := 1) K dX11_end_0 rfl rfl ?_
  refine wp_if_lt (n := 4) K dX11_end_1 rfl (tgt := 15) (by decide) ⟨by omega, by omega⟩ (fun c1 => ?_) (fun c1 => ?_)
  · rw [if_neg (by omega), if_neg (by omega)] at K
    refine wp_iconst (n := 16) K dX11_end_15 rfl ?_
    refine ret_i K dX11_end_16 ?_ rfl ?_ ⟨Nat.le_refl _, Nat.le_refl _⟩
    · rfl
    · rfl
  · refine wp_iload_n (n := 5) K dX11_end_4 rfl rfl ?_
    refine wp_aload_n (n := 6) K dX11_end_5 rfl rfl ?_
    refine wp_getF (n := 9) K dX11_end_6 rfl fl_X11_22 rfl (liS rfl) rfl rfl ?_
    refine wp_getI (n := 12) K dX11_end_9 rfl fl_X11_129 rfl (liS rfl) rfl ?_
    try simp only [up_same, up_up, Int.reduceToNat, Int.toNat_natCast]
    refine wp_icmp_le (n := 15) K dX11_end_12 rfl (tgt := 17) (by decide) ⟨by omega, by omega⟩ ⟨by omega, by omega⟩ (fun c12 => ?_) (fun c12 => ?_)
    · rw [if_pos (by omega), if_pos (by omega)] at K
      refine wp_aload_n (n := 18) K dX11_end_17 rfl rfl ?_
      refine wp_getF (n := 21) K dX11_end_18 rfl fl_X11_22 rfl (liS rfl) rfl rfl ?_
      refine wp_iload_n (n := 22) K dX11_end_21 rfl rfl ?_
      refine wp_putI (n := 25) K dX11_end_22 rfl fl_X11_129 rfl (liS rfl) (Or.inl rfl) rfl rfl ?_
      try simp only [up_same, up_up, Int.reduceToNat, Int.toNat_natCast]
      refine wp_iload_n (n := 26) K dX11_end_25 rfl rfl ?_
      refine ret_i K dX11_end_26 ?_ rfl ?_ ⟨Nat.le_refl _, Nat.le_refl _⟩
      · rfl
      · rfl
    · rw [if_neg (by omega), if_neg (by omega)] at K
      refine wp_iconst (n := 16) K dX11_end_15 rfl ?_
      refine ret_i K dX11_end_16 ?_ rfl ?_ ⟨Nat.le_refl _, Nat.le_refl _⟩
      · rfl
      · rfl

theorem c_by (t n : Int) (ht : InR t) (S : ST) (M : MT) (hn : 0 ≤ n ∧ n ≤ 4) (h : M 17 6 = n) : Ct E1 yX11_by cX11_by 2 (some .boolean) rm_X11_by [.ref 16, .int (z t)] S M (Pi (bI (decide (-1 ≤ t ∧ t ≤ n - 1))) S (if -1 ≤ t ∧ t ≤ n - 1 then up (up M 67 (up (M 67) 4 0)) 17 (up (M 17) 7 t) else M)) := by
  refine Ct.mk [.ref 16, .int (z t)] (by decide) rfl (Nat.le_of_ble_eq_true rfl) (fun X K => ?_)
  refine wp_iload_n (n := 1) K dX11_by_0 rfl rfl ?_
  refine wp_iconst (n := 2) K dX11_by_1 rfl ?_
  refine wp_icmp_eq (n := 5) K dX11_by_2 rfl (tgt := 18) (by decide) ⟨by omega, by omega⟩ ⟨by omega, by omega⟩ (fun c2 => ?_) (fun c2 => ?_)
  · rw [if_pos (by omega)] at K
    refine wp_aload_n (n := 19) K dX11_by_18 rfl rfl ?_
    refine wp_getF (n := 22) K dX11_by_19 rfl fl_X11_43 rfl (liS rfl) rfl rfl ?_
    refine wp_invV_n (n := 25) K dX11_by_22 rfl cf_X11_84 (c_forget _ _) rfl rfl rfl (liS rfl) rfl (by decide) ⟨Nat.le_refl _, Nat.le_refl _⟩ (Nat.le_of_ble_eq_true rfl) ?_
    refine wp_aload_n (n := 26) K dX11_by_25 rfl rfl ?_
    refine wp_getF (n := 29) K dX11_by_26 rfl fl_X11_12 rfl (liS rfl) rfl rfl ?_
    refine wp_iload_n (n := 30) K dX11_by_29 rfl rfl ?_
    refine wp_putI (n := 33) K dX11_by_30 rfl fl_X11_160 rfl (liS rfl) (Or.inl rfl) rfl rfl ?_
    try simp only [up_same, up_up, up_ne, ne_eq, Nat.reduceEqDiff, not_false_eq_true, Int.reduceToNat, Int.toNat_natCast]
    refine wp_iconst (n := 34) K dX11_by_33 rfl ?_
    refine ret_z K dX11_by_34 ?_ rfl ?_ ⟨Nat.le_refl _, Nat.le_refl _⟩
    · exact bI_t (by omega)
    · rfl
  · refine wp_aload_n (n := 6) K dX11_by_5 rfl rfl ?_
    refine wp_getF (n := 9) K dX11_by_6 rfl fl_X11_12 rfl (liS rfl) rfl rfl ?_
    refine wp_iload_n (n := 10) K dX11_by_9 rfl rfl ?_
    refine wp_invV_i (n := 13) K dX11_by_10 rfl cf_X11_157 (c_hasText t ht _ _ n hn h) rfl rfl rfl (liS rfl) rfl (by decide) ⟨Nat.le_refl _, Nat.le_refl _⟩ (Nat.le_of_ble_eq_true rfl) ?_
    refine wp_if_ne_b (n := 16) K dX11_by_13 rfl (tgt := 18) (by decide) (fun c13 => ?_) (fun c13 => ?_)
    · have := of_decide_eq_true c13
      rw [if_pos (by omega)] at K
      refine wp_aload_n (n := 19) K dX11_by_18 rfl rfl ?_
      refine wp_getF (n := 22) K dX11_by_19 rfl fl_X11_43 rfl (liS rfl) rfl rfl ?_
      refine wp_invV_n (n := 25) K dX11_by_22 rfl cf_X11_84 (c_forget _ _) rfl rfl rfl (liS rfl) rfl (by decide) ⟨Nat.le_refl _, Nat.le_refl _⟩ (Nat.le_of_ble_eq_true rfl) ?_
      refine wp_aload_n (n := 26) K dX11_by_25 rfl rfl ?_
      refine wp_getF (n := 29) K dX11_by_26 rfl fl_X11_12 rfl (liS rfl) rfl rfl ?_
      refine wp_iload_n (n := 30) K dX11_by_29 rfl rfl ?_
      refine wp_putI (n := 33) K dX11_by_30 rfl fl_X11_160 rfl (liS rfl) (Or.inl rfl) rfl rfl ?_
      try simp only [up_same, up_up, up_ne, ne_eq, Nat.reduceEqDiff, not_false_eq_true, Int.reduceToNat, Int.toNat_natCast]
      refine wp_iconst (n := 34) K dX11_by_33 rfl ?_
      refine ret_z K dX11_by_34 ?_ rfl ?_ ⟨Nat.le_refl _, Nat.le_refl _⟩
      · exact bI_t (by omega)
      · rfl
    · have := of_decide_eq_false c13
      rw [if_neg (by omega)] at K
      refine wp_iconst (n := 17) K dX11_by_16 rfl ?_
      refine ret_z K dX11_by_17 ?_ rfl ?_ ⟨Nat.le_refl _, Nat.le_refl _⟩
      · exact bI_f (by omega)
      · rfl

theorem c_stands (v : Int) (hv : InR v) (S : ST) (M : MT) (σ : Nat → Int) (h : SN M σ) (hw : WS σ) : Ct E1 yX11_stands cX11_stands 2 (some .boolean) rm_X11_stands [.ref 16, .int (z v)] S M (Pi (bI (decide (0 ≤ v ∧ v < 2 ^ (σ 0).toNat) && standB σ v.toNat)) S M) := by
  have h0 := hw.1
  have hn0 : M 18 5 = ((σ 0).toNat : Int) := by rw [h.1]; omega
  have hp := p12 (n := (σ 0).toNat) (by omega)
  have hc : (2 : Int) ^ (σ 0).toNat = ((2 ^ (σ 0).toNat : Nat) : Int) := by rw [Int.natCast_pow]; rfl
  rw [hc]
  refine Ct.mk [.ref 16, .int (z v)] (by decide) rfl (Nat.le_of_ble_eq_true rfl) (fun X K => ?_)
  refine wp_aload_n (n := 1) K dX11_stands_0 rfl rfl ?_
  refine wp_getF (n := 4) K dX11_stands_1 rfl fl_X11_12 rfl (liS rfl) rfl rfl ?_
  refine wp_getF (n := 7) K dX11_stands_4 rfl fl_X11_65 rfl (liS rfl) rfl rfl ?_
  refine wp_iload_n (n := 8) K dX11_stands_7 rfl rfl ?_
  refine wp_invV_i (n := 11) K dX11_stands_8 rfl cf_X11_69 (c_areTold v hv (σ 0).toNat (by omega) _ _ hn0) rfl rfl rfl (liS rfl) rfl (by decide) ⟨Nat.le_refl _, Nat.le_refl _⟩ (Nat.le_of_ble_eq_true rfl) ?_
  refine wp_if_eq_b (n := 14) K dX11_stands_11 rfl (tgt := 32) (by decide) (fun c11 => ?_) (fun c11 => ?_)
  · refine wp_iconst (n := 33) K dX11_stands_32 rfl ?_
    refine ret_z K dX11_stands_33 ?_ rfl ?_ ⟨Nat.le_refl _, Nat.le_refl _⟩
    · rw [c11]; rfl
    · rfl
  · have c := of_decide_eq_true c11
    have hvn : v = (v.toNat : Int) := by omega
    refine wp_aload_n (n := 15) K dX11_stands_14 rfl rfl ?_
    refine wp_getF (n := 18) K dX11_stands_15 rfl fl_X11_12 rfl (liS rfl) rfl rfl ?_
    refine wp_getF (n := 21) K dX11_stands_18 rfl fl_X11_65 rfl (liS rfl) rfl rfl ?_
    refine wp_iload_n (n := 22) K dX11_stands_21 rfl rfl ?_
    have k2 : Wp E1 X 22 [.ref 16, .int (z v)] [.int (z (v.toNat : Int)), .ref 18] S M := by
      refine wp_invV_i (n := 25) K dX11_stands_22 rfl cf_X11_184 (c_isStanding _ (by omega) _ _ σ h hw) rfl rfl rfl (liS rfl) rfl (by decide) ⟨Nat.le_refl _, Nat.le_refl _⟩ (Nat.le_of_ble_eq_true rfl) ?_
      refine wp_if_eq_b (n := 28) K dX11_stands_25 rfl (tgt := 32) (by decide) (fun c25 => ?_) (fun c25 => ?_)
      · refine wp_iconst (n := 33) K dX11_stands_32 rfl ?_
        refine ret_z K dX11_stands_33 ?_ rfl ?_ ⟨Nat.le_refl _, Nat.le_refl _⟩
        · rw [c25, Bool.and_false]; rfl
        · rfl
      · refine wp_iconst (n := 29) K dX11_stands_28 rfl ?_
        refine wp_goto K dX11_stands_29 (tgt := 33) (by decide) ?_
        refine ret_z K dX11_stands_33 ?_ rfl ?_ ⟨Nat.le_refl _, Nat.le_refl _⟩
        · rw [c25, c11]; rfl
        · rfl
    rw [← hvn] at k2
    exact k2
