theorem bI_t {p : Prop} [Decidable p] (h : p) : 1 = bI (decide p) := by rw [decide_eq_true h]; rfl
theorem bI_f {p : Prop} [Decidable p] (h : ¬ p) : 0 = bI (decide p) := by rw [decide_eq_false h]; rfl


theorem m_isIn {E : ET} (v lo hi : Int) (hv : InR v) (hl : InR lo) (hh : InR hi) (S : ST) (M : MT) : Ct E yX12_isIn cX12_isIn 3 (some .boolean) rm_X12_isIn [.int (z v), .int (z lo), .int (z hi)] S M (Pi (bI (decide (lo ≤ v ∧ v ≤ hi))) S M) := by
  refine Ct.mk [.int (z v), .int (z lo), .int (z hi)] (by decide) rfl (Nat.le_of_ble_eq_true rfl) (fun X K => ?_)
  refine wp_iload_n (n := 1) K dX12_isIn_0 rfl rfl ?_
  refine wp_iload_n (n := 2) K dX12_isIn_1 rfl rfl ?_
  refine wp_icmp_lt (n := 5) K dX12_isIn_2 rfl (tgt := 14) (by decide) ⟨by omega, by omega⟩ ⟨by omega, by omega⟩ (fun c2 => ?_) (fun c2 => ?_)
  · refine wp_iconst (n := 15) K dX12_isIn_14 rfl ?_
    refine ret_z K dX12_isIn_15 ?_ rfl ?_ ⟨Nat.le_refl _, Nat.le_refl _⟩
    all_goals first | rfl | exact bI_t (by omega) | exact bI_f (by omega)
  · refine wp_iload_n (n := 6) K dX12_isIn_5 rfl rfl ?_
    refine wp_iload_n (n := 7) K dX12_isIn_6 rfl rfl ?_
    refine wp_icmp_gt (n := 10) K dX12_isIn_7 rfl (tgt := 14) (by decide) ⟨by omega, by omega⟩ ⟨by omega, by omega⟩ (fun c7 => ?_) (fun c7 => ?_)
    · refine wp_iconst (n := 15) K dX12_isIn_14 rfl ?_
      refine ret_z K dX12_isIn_15 ?_ rfl ?_ ⟨Nat.le_refl _, Nat.le_refl _⟩
      all_goals first | rfl | exact bI_t (by omega) | exact bI_f (by omega)
    · refine wp_iconst (n := 11) K dX12_isIn_10 rfl ?_
      refine wp_goto K dX12_isIn_11 (tgt := 15) (by decide) ?_
      refine ret_z K dX12_isIn_15 ?_ rfl ?_ ⟨Nat.le_refl _, Nat.le_refl _⟩
      all_goals first | rfl | exact bI_t (by omega) | exact bI_f (by omega)
theorem dn (n : Nat) {Q : Nat → Prop} (h : ∀ k, k ≤ n → (k < n → Q (k + 1)) → Q k) : ∀ k, k ≤ n → Q k := by
  intro k hk
  obtain ⟨d, hd⟩ : ∃ d, k + d = n := ⟨n - k, by omega⟩
  induction d generalizing k with
  | zero => exact h k hk (fun q => by omega)
  | succ d ih => exact h k hk (fun q => ih (k + 1) (by omega) (by omega))

theorem m_bits {E : ET} (n : Nat) (hn : n < 2147483648) (S : ST) (M : MT) : Ct E yX12_bits cX12_bits 3 (some .int) rm_X12_bits [.int (z (n : Int))] S M (Pi (cnt 12 n : Int) S M) := by
  refine Ct.mk [.int (z (n : Int)), mkV, mkV] (by decide) rfl (Nat.le_of_ble_eq_true rfl) (fun X K => ?_)
  refine wp_iconst (n := 1) K dX12_bits_0 rfl ?_
  refine wp_istore_n (n := 2) K dX12_bits_1 rfl (by decide) ?_
  refine wp_iconst (n := 3) K dX12_bits_2 rfl ?_
  refine wp_istore_n (n := 4) K dX12_bits_3 rfl (by decide) ?_
  refine dn 12 (Q := fun k => Wp E X 4 [.int (z (n : Int)), .int (z (cnt k n : Int)), .int (z (k : Int))] [] S M) (fun k hk ih => ?_) 0 (by omega)
  refine wp_iload_n (n := 5) K dX12_bits_4 rfl rfl ?_
  refine wp_bipush (n := 7) K dX12_bits_5 rfl rfl ?_
  refine wp_icmp_ge (n := 10) K dX12_bits_7 rfl (tgt := 24) (by decide) ⟨by omega, by omega⟩ ⟨by omega, by omega⟩ (fun c7 => ?_) (fun c7 => ?_)
  · refine wp_iload_n (n := 25) K dX12_bits_24 rfl rfl ?_
    refine ret_i K dX12_bits_25 ?_ rfl ?_ ⟨Nat.le_refl _, Nat.le_refl _⟩
    · rw [show k = 12 by omega]
    · rfl
  · refine wp_iload_n (n := 11) K dX12_bits_10 rfl rfl ?_
    refine wp_iload_n (n := 12) K dX12_bits_11 rfl rfl ?_
    refine wp_iload_n (n := 13) K dX12_bits_12 rfl rfl ?_
    refine wp_ishr (n := 14) K dX12_bits_13 rfl ?_
    refine wp_iconst (n := 15) K dX12_bits_14 rfl ?_
    refine wp_iand (n := 16) K dX12_bits_15 rfl ?_
    refine wp_iadd (n := 17) K dX12_bits_16 rfl ?_
    refine wp_istore_n (n := 18) K dX12_bits_17 rfl (by decide) ?_
    refine wp_iinc (n := 21) K dX12_bits_18 rfl rfl (by decide) ?_
    refine wp_goto K dX12_bits_21 (tgt := 4) (by decide) ?_
    rw [bit_n (by omega) hn]
    exact ih (by omega)
theorem lcmp_v (a b : Int) : (lg_cmp (zl a) (zl b)).toInt = if w64 a < w64 b then -1 else if w64 a = w64 b then 0 else 1 := by
  unfold lg_cmp
  simp only [zl_lt_iff, zl_eq_iff]
  split <;> split <;> (try split) <;> first | rfl | omega | simp_all
theorem lcmp_r (a b : Int) : InR (lg_cmp (zl a) (zl b)).toInt := by
  rw [lcmp_v]; unfold InR; split <;> (try split) <;> omega
theorem lcmp_lt {a b : Int} : (lg_cmp (zl a) (zl b)).toInt < 0 ↔ w64 a < w64 b := by rw [lcmp_v]; split <;> (try split) <;> omega
theorem lcmp_le {a b : Int} : (lg_cmp (zl a) (zl b)).toInt ≤ 0 ↔ w64 a ≤ w64 b := by rw [lcmp_v]; split <;> (try split) <;> omega
theorem lcmp_gt {a b : Int} : 0 < (lg_cmp (zl a) (zl b)).toInt ↔ w64 b < w64 a := by rw [lcmp_v]; split <;> (try split) <;> omega
theorem lcmp_ge {a b : Int} : 0 ≤ (lg_cmp (zl a) (zl b)).toInt ↔ w64 b ≤ w64 a := by rw [lcmp_v]; split <;> (try split) <;> omega
theorem lcmp_eq {a b : Int} : (lg_cmp (zl a) (zl b)).toInt = 0 ↔ w64 a = w64 b := by rw [lcmp_v]; split <;> (try split) <;> omega

theorem m_held {E : ET} (v lo hi : Int) (hv : -9223372036854775808 ≤ v ∧ v < 9223372036854775808) (hl : InR lo) (hh : InR hi) (hlh : lo ≤ hi) (S : ST) (M : MT) : Ct E yX12_held cX12_held 4 (some .int) rm_X12_held [.long (zl v), .int (z lo), .int (z hi)] S M (Pi (max lo (min hi v)) S M) := by
  refine Ct.mk [.long (zl v), mkV, .int (z lo), .int (z hi)] (by decide) rfl (Nat.le_of_ble_eq_true rfl) (fun X K => ?_)
  refine wp_lload_n (n := 1) K dX12_held_0 rfl rfl ?_
  refine wp_iload_n (n := 2) K dX12_held_1 rfl rfl ?_
  refine wp_i2l (n := 3) K dX12_held_2 rfl ⟨by omega, by omega⟩ ?_
  refine wp_lcmp (n := 4) K dX12_held_3 rfl ?_
  refine wp_if_ge (n := 7) K dX12_held_4 rfl (tgt := 11) (by decide) (lcmp_r _ _) (fun c4 => ?_) (fun c4 => ?_)
  · refine wp_lload_n (n := 12) K dX12_held_11 rfl rfl ?_
    refine wp_iload_n (n := 13) K dX12_held_12 rfl rfl ?_
    refine wp_i2l (n := 14) K dX12_held_13 rfl ⟨by omega, by omega⟩ ?_
    refine wp_lcmp (n := 15) K dX12_held_14 rfl ?_
    refine wp_if_le (n := 18) K dX12_held_15 rfl (tgt := 22) (by decide) (lcmp_r _ _) (fun c15 => ?_) (fun c15 => ?_)
    · refine wp_lload_n (n := 23) K dX12_held_22 rfl rfl ?_
      refine wp_l2i (n := 24) K dX12_held_23 rfl ?_
      refine ret_i K dX12_held_24 ?_ rfl ?_ ⟨Nat.le_refl _, Nat.le_refl _⟩
      · have := lcmp_le.mp c15; have := lcmp_ge.mp c4; rw [w64_id hv.1 hv.2, w64_id (by omega) (by omega)] at *; omega
      · rfl
    · refine wp_iload_n (n := 19) K dX12_held_18 rfl rfl ?_
      refine wp_goto K dX12_held_19 (tgt := 24) (by decide) ?_
      refine ret_i K dX12_held_24 ?_ rfl ?_ ⟨Nat.le_refl _, Nat.le_refl _⟩
      · have := lcmp_gt.mp c15; have := lcmp_ge.mp c4; rw [w64_id hv.1 hv.2, w64_id (by omega) (by omega)] at *; omega
      · rfl
  · refine wp_iload_n (n := 8) K dX12_held_7 rfl rfl ?_
    refine wp_goto K dX12_held_8 (tgt := 24) (by decide) ?_
    refine ret_i K dX12_held_24 ?_ rfl ?_ ⟨Nat.le_refl _, Nat.le_refl _⟩
    · have := lcmp_lt.mp c4; rw [w64_id hv.1 hv.2, w64_id (by omega) (by omega)] at *; omega
    · rfl

theorem m_has {E : ET} (n k : Nat) (hn : n < 2147483648) (hk : k < 32) (S : ST) (M : MT) : Ct E yX12_has cX12_has 2 (some .boolean) rm_X12_has [.int (z (n : Int)), .int (z (k : Int))] S M (Pi (bI (n.testBit k)) S M) := by
  refine Ct.mk [.int (z (n : Int)), .int (z (k : Int))] (by decide) rfl (Nat.le_of_ble_eq_true rfl) (fun X K => ?_)
  have hb := Bool.toNat_le (n.testBit k)
  refine wp_iload_n (n := 1) K dX12_has_0 rfl rfl ?_
  refine wp_iload_n (n := 2) K dX12_has_1 rfl rfl ?_
  refine wp_ishr (n := 3) K dX12_has_2 rfl ?_
  refine wp_iconst (n := 4) K dX12_has_3 rfl ?_
  refine wp_iand (n := 5) K dX12_has_4 rfl ?_
  rw [bit_n hk hn]
  refine wp_iconst (n := 6) K dX12_has_5 rfl ?_
  refine wp_icmp_ne (n := 9) K dX12_has_6 rfl (tgt := 13) (by decide) ⟨by omega, by omega⟩ ⟨by omega, by omega⟩ (fun c6 => ?_) (fun c6 => ?_)
  · refine wp_iconst (n := 14) K dX12_has_13 rfl ?_
    refine ret_z K dX12_has_14 ?_ rfl ?_ ⟨Nat.le_refl _, Nat.le_refl _⟩
    all_goals first | rfl | (cases hq : n.testBit k <;> simp_all [bI])
  · refine wp_iconst (n := 10) K dX12_has_9 rfl ?_
    refine wp_goto K dX12_has_10 (tgt := 14) (by decide) ?_
    refine ret_z K dX12_has_14 ?_ rfl ?_ ⟨Nat.le_refl _, Nat.le_refl _⟩
    all_goals first | rfl | (cases hq : n.testBit k <;> simp_all [bI])

theorem m_stoneAt {E : ET} (s : Int) (S : ST) (M : MT) : Ct E yX12_stoneAt cX12_stoneAt 1 (some .int) rm_X12_stoneAt [.int (z s)] S M (Pi (10 + 5 * s) S M) := by
  refine Ct.mk [.int (z s)] (by decide) rfl (Nat.le_of_ble_eq_true rfl) (fun X K => ?_)
  refine wp_bipush (n := 2) K dX12_stoneAt_0 rfl rfl ?_
  refine wp_iconst (n := 3) K dX12_stoneAt_2 rfl ?_
  refine wp_iload_n (n := 4) K dX12_stoneAt_3 rfl rfl ?_
  refine wp_imul (n := 5) K dX12_stoneAt_4 rfl ?_
  refine wp_iadd (n := 6) K dX12_stoneAt_5 rfl ?_
  refine ret_i K dX12_stoneAt_6 ?_ rfl ?_ ⟨Nat.le_refl _, Nat.le_refl _⟩
  · rfl
  · rfl

theorem m_houseAt {E : ET} (s : Int) (S : ST) (M : MT) : Ct E yX12_houseAt cX12_houseAt 1 (some .int) rm_X12_houseAt [.int (z s)] S M (Pi (70 + 3 * s) S M) := by
  refine Ct.mk [.int (z s)] (by decide) rfl (Nat.le_of_ble_eq_true rfl) (fun X K => ?_)
  refine wp_bipush (n := 2) K dX12_houseAt_0 rfl rfl ?_
  refine wp_iconst (n := 3) K dX12_houseAt_2 rfl ?_
  refine wp_iload_n (n := 4) K dX12_houseAt_3 rfl rfl ?_
  refine wp_imul (n := 5) K dX12_houseAt_4 rfl ?_
  refine wp_iadd (n := 6) K dX12_houseAt_5 rfl ?_
  refine ret_i K dX12_houseAt_6 ?_ rfl ?_ ⟨Nat.le_refl _, Nat.le_refl _⟩
  · rfl
  · rfl






theorem m_all (n : Nat) (hn : n ≤ 12) (S : ST) (M : MT) (h : M 78 0 = n) : Ct E1 yX12_all cX12_all 1 (some .int) rm_X12_all [.ref 77] S M (Pi ((2 ^ n - 1 : Nat) : Int) S M) := by
  refine Ct.mk [.ref 77] (by decide) rfl (Nat.le_of_ble_eq_true rfl) (fun X K => ?_)
  refine wp_iconst (n := 1) K dX12_all_0 rfl ?_
  refine wp_aload_n (n := 2) K dX12_all_1 rfl rfl ?_
  refine wp_getF (n := 5) K dX12_all_2 rfl fl_X12_7 rfl (liS rfl) rfl rfl ?_
  refine wp_iconst (n := 6) K dX12_all_5 rfl ?_
  refine wp_iald (n := 7) K dX12_all_6 rfl rfl (liS rfl) ⟨by omega, by omega, by omega⟩ ?_
  try simp only [up_same, up_up, Int.reduceToNat, Int.toNat_natCast]
  refine wp_ishl (n := 8) K dX12_all_7 rfl ?_
  refine wp_iconst (n := 9) K dX12_all_8 rfl ?_
  refine wp_isub (n := 10) K dX12_all_9 rfl ?_
  refine ret_i K dX12_all_10 ?_ rfl ?_ ⟨Nat.le_refl _, Nat.le_refl _⟩
  · show bshl 1 (M 78 0) - 1 = _
    rw [h, bshl_1 (by omega)]
    have : 1 ≤ 2 ^ n := Nat.one_le_two_pow
    omega
  · rfl


theorem m_isStone (s : Int) (hs : InR s) (n : Nat) (hn : n ≤ 12) (S : ST) (M : MT) (h : M 78 0 = n) : Ct E1 yX12_isStone cX12_isStone 2 (some .boolean) rm_X12_isStone [.ref 77, .int (z s)] S M (Pi (bI (decide (0 ≤ s ∧ s ≤ n - 1))) S M) := by
  refine Ct.mk [.ref 77, .int (z s)] (by decide) rfl (Nat.le_of_ble_eq_true rfl) (fun X K => ?_)
  refine wp_iload_n (n := 1) K dX12_isStone_0 rfl rfl ?_
  refine wp_iconst (n := 2) K dX12_isStone_1 rfl ?_
  refine wp_aload_n (n := 3) K dX12_isStone_2 rfl rfl ?_
  refine wp_getF (n := 6) K dX12_isStone_3 rfl fl_X12_7 rfl (liS rfl) rfl rfl ?_
  refine wp_iconst (n := 7) K dX12_isStone_6 rfl ?_
  refine wp_iald (n := 8) K dX12_isStone_7 rfl rfl (liS rfl) ⟨by omega, by omega, by omega⟩ ?_
  try simp only [up_same, up_up, Int.reduceToNat, Int.toNat_natCast]
  refine wp_iconst (n := 9) K dX12_isStone_8 rfl ?_
  refine wp_isub (n := 10) K dX12_isStone_9 rfl ?_
  refine wp_invS_i (n := 13) K dX12_isStone_10 rfl cf_X12_62 (m_isIn _ _ _ (by unfold InR; omega) (by unfold InR; omega) (by unfold InR; omega) _ _) rfl rfl (by decide) ⟨Nat.le_refl _, Nat.le_refl _⟩ (Nat.le_of_ble_eq_true rfl) ?_
  refine ret_z K dX12_isStone_13 ?_ rfl ?_ ⟨Nat.le_refl _, Nat.le_refl _⟩
  · rw [h]
  · rfl

theorem m_isHouse (s : Int) (hs : InR s) (n : Nat) (hn : n ≤ 10) (S : ST) (M : MT) (h : M 78 3 = n) : Ct E1 yX12_isHouse cX12_isHouse 2 (some .boolean) rm_X12_isHouse [.ref 77, .int (z s)] S M (Pi (bI (decide (0 ≤ s ∧ s ≤ n - 1))) S M) := by
  refine Ct.mk [.ref 77, .int (z s)] (by decide) rfl (Nat.le_of_ble_eq_true rfl) (fun X K => ?_)
  refine wp_iload_n (n := 1) K dX12_isHouse_0 rfl rfl ?_
  refine wp_iconst (n := 2) K dX12_isHouse_1 rfl ?_
  refine wp_aload_n (n := 3) K dX12_isHouse_2 rfl rfl ?_
  refine wp_getF (n := 6) K dX12_isHouse_3 rfl fl_X12_7 rfl (liS rfl) rfl rfl ?_
  refine wp_iconst (n := 7) K dX12_isHouse_6 rfl ?_
  refine wp_iald (n := 8) K dX12_isHouse_7 rfl rfl (liS rfl) ⟨by omega, by omega, by omega⟩ ?_
  try simp only [up_same, up_up, Int.reduceToNat, Int.toNat_natCast]
  refine wp_iconst (n := 9) K dX12_isHouse_8 rfl ?_
  refine wp_isub (n := 10) K dX12_isHouse_9 rfl ?_
  refine wp_invS_i (n := 13) K dX12_isHouse_10 rfl cf_X12_62 (m_isIn _ _ _ (by unfold InR; omega) (by unfold InR; omega) (by unfold InR; omega) _ _) rfl rfl (by decide) ⟨Nat.le_refl _, Nat.le_refl _⟩ (Nat.le_of_ble_eq_true rfl) ?_
  refine ret_z K dX12_isHouse_13 ?_ rfl ?_ ⟨Nat.le_refl _, Nat.le_refl _⟩
  · rw [h]
  · rfl
