

theorem m_hour (h : Int) (hh : InR h) (S : ST) (M : MT) : Ct E1 yX12_hour cX12_hour 2 (some .boolean) rm_X12_hour [.ref 77, .int (z h)] S M (Pi (bI (decide (0 ≤ h ∧ h ≤ 23))) S (if 0 ≤ h ∧ h ≤ 23 then up M 78 (up (M 78) 2 h) else M)) := by
  refine Ct.mk [.ref 77, .int (z h)] (by decide) rfl (Nat.le_of_ble_eq_true rfl) (fun X K => ?_)
  refine wp_iload_n (n := 1) K dX12_hour_0 rfl rfl ?_
  refine wp_iconst (n := 2) K dX12_hour_1 rfl ?_
  refine wp_bipush (n := 4) K dX12_hour_2 rfl rfl ?_
  refine wp_invS_i (n := 7) K dX12_hour_4 rfl cf_X12_62 (m_isIn _ _ _ (by unfold InR; omega) (by unfold InR; omega) (by unfold InR; omega) _ _) rfl rfl (by decide) ⟨Nat.le_refl _, Nat.le_refl _⟩ (Nat.le_of_ble_eq_true rfl) ?_
  refine wp_if_ne_b (n := 10) K dX12_hour_7 rfl (tgt := 12) (by decide) (fun c7 => ?_) (fun c7 => ?_)
  · have c := of_decide_eq_true c7
    rw [if_pos c] at K
    refine wp_aload_n (n := 13) K dX12_hour_12 rfl rfl ?_
    refine wp_getF (n := 16) K dX12_hour_13 rfl fl_X12_7 rfl (liS rfl) rfl rfl ?_
    refine wp_iconst (n := 17) K dX12_hour_16 rfl ?_
    refine wp_iload_n (n := 18) K dX12_hour_17 rfl rfl ?_
    refine wp_iast (n := 19) K dX12_hour_18 rfl rfl (liS rfl) (fun _ => rfl) ⟨by omega, by omega, by omega⟩ ?_
    try simp only [up_same, up_up, Int.reduceToNat, Int.toNat_natCast]
    refine wp_iconst (n := 20) K dX12_hour_19 rfl ?_
    refine ret_z K dX12_hour_20 ?_ rfl ?_ ⟨Nat.le_refl _, Nat.le_refl _⟩
    · exact bI_t c
    · rfl
  · have c := of_decide_eq_false c7
    rw [if_neg c] at K
    refine wp_iconst (n := 11) K dX12_hour_10 rfl ?_
    refine ret_z K dX12_hour_11 ?_ rfl ?_ ⟨Nat.le_refl _, Nat.le_refl _⟩
    · exact bI_f c
    · rfl

theorem m_by (t : Int) (ht : InR t) (S : ST) (M : MT) (h4 : 0 ≤ M 78 4 ∧ M 78 4 ≤ 4) : Ct E1 yX12_by cX12_by 2 (some .boolean) rm_X12_by [.ref 77, .int (z t)] S M (Pi (bI (decide (-1 ≤ t ∧ t ≤ M 78 4 - 1))) S (if -1 ≤ t ∧ t ≤ M 78 4 - 1 then up M 78 (up (M 78) 5 t) else M)) := by
  refine Ct.mk [.ref 77, .int (z t)] (by decide) rfl (Nat.le_of_ble_eq_true rfl) (fun X K => ?_)
  refine wp_iload_n (n := 1) K dX12_by_0 rfl rfl ?_
  refine wp_iconst (n := 2) K dX12_by_1 rfl ?_
  refine wp_aload_n (n := 3) K dX12_by_2 rfl rfl ?_
  refine wp_getF (n := 6) K dX12_by_3 rfl fl_X12_7 rfl (liS rfl) rfl rfl ?_
  refine wp_iconst (n := 7) K dX12_by_6 rfl ?_
  refine wp_iald (n := 8) K dX12_by_7 rfl rfl (liS rfl) ⟨by omega, by omega, by omega⟩ ?_
  try simp only [up_same, up_up, Int.reduceToNat, Int.toNat_natCast]
  refine wp_iconst (n := 9) K dX12_by_8 rfl ?_
  refine wp_isub (n := 10) K dX12_by_9 rfl ?_
  refine wp_invS_i (n := 13) K dX12_by_10 rfl cf_X12_62 (m_isIn _ _ _ (by unfold InR; omega) (by unfold InR; omega) (by unfold InR; omega) _ _) rfl rfl (by decide) ⟨Nat.le_refl _, Nat.le_refl _⟩ (Nat.le_of_ble_eq_true rfl) ?_
  refine wp_if_ne_b (n := 16) K dX12_by_13 rfl (tgt := 18) (by decide) (fun c13 => ?_) (fun c13 => ?_)
  · have c := of_decide_eq_true c13
    rw [if_pos c] at K
    refine wp_aload_n (n := 19) K dX12_by_18 rfl rfl ?_
    refine wp_getF (n := 22) K dX12_by_19 rfl fl_X12_7 rfl (liS rfl) rfl rfl ?_
    refine wp_iconst (n := 23) K dX12_by_22 rfl ?_
    refine wp_iload_n (n := 24) K dX12_by_23 rfl rfl ?_
    refine wp_iast (n := 25) K dX12_by_24 rfl rfl (liS rfl) (fun _ => rfl) ⟨by omega, by omega, by omega⟩ ?_
    try simp only [up_same, up_up, Int.reduceToNat, Int.toNat_natCast]
    refine wp_iconst (n := 26) K dX12_by_25 rfl ?_
    refine ret_z K dX12_by_26 ?_ rfl ?_ ⟨Nat.le_refl _, Nat.le_refl _⟩
    · exact bI_t c
    · rfl
  · have c := of_decide_eq_false c13
    rw [if_neg c] at K
    refine wp_iconst (n := 17) K dX12_by_16 rfl ?_
    refine ret_z K dX12_by_17 ?_ rfl ?_ ⟨Nat.le_refl _, Nat.le_refl _⟩
    · exact bI_f c
    · rfl

theorem m_fault (w : Int) (hw : InR w) (S : ST) (M : MT) : Ct E1 yX12_fault cX12_fault 2 (some .int) rm_X12_fault [.ref 77, .int (z w)] S M (Pi (if w = 0 then M 77 5 else if w = 1 then M 77 6 else -1) S M) := by
  refine Ct.mk [.ref 77, .int (z w)] (by decide) rfl (Nat.le_of_ble_eq_true rfl) (fun X K => ?_)
  refine wp_iload_n (n := 1) K dX12_fault_0 rfl rfl ?_
  refine wp_if_ne (n := 4) K dX12_fault_1 rfl (tgt := 11) (by decide) ⟨by omega, by omega⟩ (fun c1 => ?_) (fun c1 => ?_)
  · refine wp_iload_n (n := 12) K dX12_fault_11 rfl rfl ?_
    refine wp_iconst (n := 13) K dX12_fault_12 rfl ?_
    refine wp_icmp_ne (n := 16) K dX12_fault_13 rfl (tgt := 23) (by decide) ⟨by omega, by omega⟩ ⟨by omega, by omega⟩ (fun c13 => ?_) (fun c13 => ?_)
    · refine wp_iconst (n := 24) K dX12_fault_23 rfl ?_
      refine ret_i K dX12_fault_24 ?_ rfl ?_ ⟨Nat.le_refl _, Nat.le_refl _⟩
      all_goals first | rfl | (simp_all)
    · refine wp_aload_n (n := 17) K dX12_fault_16 rfl rfl ?_
      refine wp_getI (n := 20) K dX12_fault_17 rfl fl_X12_26 rfl (liS rfl) rfl ?_
      try simp only [up_same, up_up, Int.reduceToNat, Int.toNat_natCast]
      refine wp_goto K dX12_fault_20 (tgt := 24) (by decide) ?_
      refine ret_i K dX12_fault_24 ?_ rfl ?_ ⟨Nat.le_refl _, Nat.le_refl _⟩
      all_goals first | rfl | (simp_all)
  · refine wp_aload_n (n := 5) K dX12_fault_4 rfl rfl ?_
    refine wp_getI (n := 8) K dX12_fault_5 rfl fl_X12_22 rfl (liS rfl) rfl ?_
    try simp only [up_same, up_up, Int.reduceToNat, Int.toNat_natCast]
    refine wp_goto K dX12_fault_8 (tgt := 24) (by decide) ?_
    refine ret_i K dX12_fault_24 ?_ rfl ?_ ⟨Nat.le_refl _, Nat.le_refl _⟩
    all_goals first | rfl | (simp_all)

theorem m_hush (S : ST) (M : MT) : Ct E1 yX12_hush cX12_hush 2 (some .int) rm_X12_hush [.ref 77] S M (Pi (M 78 7) S (up M 78 (up (M 78) 7 0))) := by
  refine Ct.mk [.ref 77, mkV] (by decide) rfl (Nat.le_of_ble_eq_true rfl) (fun X K => ?_)
  refine wp_aload_n (n := 1) K dX12_hush_0 rfl rfl ?_
  refine wp_getF (n := 4) K dX12_hush_1 rfl fl_X12_7 rfl (liS rfl) rfl rfl ?_
  refine wp_bipush (n := 6) K dX12_hush_4 rfl rfl ?_
  refine wp_iald (n := 7) K dX12_hush_6 rfl rfl (liS rfl) ⟨by omega, by omega, by omega⟩ ?_
  try simp only [up_same, up_up, Int.reduceToNat, Int.toNat_natCast]
  refine wp_istore_n (n := 8) K dX12_hush_7 rfl (by decide) ?_
  refine wp_aload_n (n := 9) K dX12_hush_8 rfl rfl ?_
  refine wp_getF (n := 12) K dX12_hush_9 rfl fl_X12_7 rfl (liS rfl) rfl rfl ?_
  refine wp_bipush (n := 14) K dX12_hush_12 rfl rfl ?_
  refine wp_iconst (n := 15) K dX12_hush_14 rfl ?_
  refine wp_iast (n := 16) K dX12_hush_15 rfl rfl (liS rfl) (fun _ => rfl) ⟨by omega, by omega, by omega⟩ ?_
  try simp only [up_same, up_up, Int.reduceToNat, Int.toNat_natCast]
  refine wp_iload_n (n := 17) K dX12_hush_16 rfl rfl ?_
  refine ret_i K dX12_hush_17 ?_ rfl ?_ ⟨Nat.le_refl _, Nat.le_refl _⟩
  all_goals rfl

theorem m_end (n : Int) (hn : InR n) (S : ST) (M : MT) (h4 : 0 ≤ M 77 4 ∧ M 77 4 ≤ 300) : Ct E1 yX12_end cX12_end 2 (some .int) rm_X12_end [.ref 77, .int (z n)] S M (Pi (if 0 ≤ n ∧ n ≤ M 77 4 then n else -1) S (if 0 ≤ n ∧ n ≤ M 77 4 then up M 77 (up (M 77) 4 n) else M)) := by
  refine Ct.mk [.ref 77, .int (z n)] (by decide) rfl (Nat.le_of_ble_eq_true rfl) (fun X K => ?_)
  refine wp_iload_n (n := 1) K dX12_end_0 rfl rfl ?_
  refine wp_iconst (n := 2) K dX12_end_1 rfl ?_
  refine wp_aload_n (n := 3) K dX12_end_2 rfl rfl ?_
  refine wp_getI (n := 6) K dX12_end_3 rfl fl_X12_88 rfl (liS rfl) rfl ?_
  try simp only [up_same, up_up, Int.reduceToNat, Int.toNat_natCast]
  refine wp_invS_i (n := 9) K dX12_end_6 rfl cf_X12_62 (m_isIn _ _ _ (by unfold InR; omega) (by unfold InR; omega) (by unfold InR; omega) _ _) rfl rfl (by decide) ⟨Nat.le_refl _, Nat.le_refl _⟩ (Nat.le_of_ble_eq_true rfl) ?_
  refine wp_if_ne_b (n := 12) K dX12_end_9 rfl (tgt := 14) (by decide) (fun c9 => ?_) (fun c9 => ?_)
  · have c := of_decide_eq_true c9
    rw [if_pos c, if_pos c] at K
    refine wp_aload_n (n := 15) K dX12_end_14 rfl rfl ?_
    refine wp_iload_n (n := 16) K dX12_end_15 rfl rfl ?_
    refine wp_putI (n := 19) K dX12_end_16 rfl fl_X12_88 rfl (liS rfl) (Or.inl rfl) rfl rfl ?_
    try simp only [up_same, up_up, Int.reduceToNat, Int.toNat_natCast]
    refine wp_iload_n (n := 20) K dX12_end_19 rfl rfl ?_
    refine ret_i K dX12_end_20 ?_ rfl ?_ ⟨Nat.le_refl _, Nat.le_refl _⟩
    · rfl
    · rfl
  · have c := of_decide_eq_false c9
    rw [if_neg c, if_neg c] at K
    refine wp_iconst (n := 13) K dX12_end_12 rfl ?_
    refine ret_i K dX12_end_13 ?_ rfl ?_ ⟨Nat.le_refl _, Nat.le_refl _⟩
    · rfl
    · rfl
/-- what holds of the houses, as far as the machine asks -/
def WH (σ : Nat → Int) : Prop := (0 ≤ σ 3 ∧ σ 3 ≤ 10) ∧ ∀ h : Nat, h < 10 → (-1000000 ≤ σ (70 + 3 * h) ∧ σ (70 + 3 * h) ≤ 1000000) ∧ (-1000000 ≤ σ (71 + 3 * h) ∧ σ (71 + 3 * h) ≤ 1000000) ∧ 0 ≤ σ (72 + 3 * h) ∧ σ (72 + 3 * h) < 1024
def nrN (σ : Nat → Int) (h : Nat) : Nat := (σ (72 + 3 * h)).toNat
theorem WH.nr {σ : Nat → Int} (w : WH σ) {h : Nat} (hh : h < 10) : σ (72 + 3 * h) = (nrN σ h : Int) ∧ nrN σ h < 1024 := by have := (w.2 h hh).2.2; unfold nrN; omega
def houseA (σ : Nat → Int) (sp : Int) : Nat → Int := up (up (up (up σ (70 + 3 * (σ 3).toNat) sp) (71 + 3 * (σ 3).toNat) 0) (72 + 3 * (σ 3).toNat) 0) 3 (σ 3 + 1)

theorem m_house (sp : Int) (hs : InR sp) (S : ST) (M : MT) (hw : WH (M 78)) : Ct E1 yX12_house cX12_house 3 (some .int) rm_X12_house [.ref 77, .int (z sp)] S M (Pi (if (0 ≤ sp ∧ sp ≤ 99) ∧ M 78 3 ≠ 10 then M 78 3 else -1) S (if (0 ≤ sp ∧ sp ≤ 99) ∧ M 78 3 ≠ 10 then up M 78 (houseA (M 78) sp) else M)) := by
  have h3 := hw.1
  refine Ct.mk [.ref 77, .int (z sp), mkV] (by decide) rfl (Nat.le_of_ble_eq_true rfl) (fun X K => ?_)
  refine wp_iload_n (n := 1) K dX12_house_0 rfl rfl ?_
  refine wp_iconst (n := 2) K dX12_house_1 rfl ?_
  refine wp_bipush (n := 4) K dX12_house_2 rfl rfl ?_
  refine wp_invS_i (n := 7) K dX12_house_4 rfl cf_X12_62 (m_isIn _ _ _ (by unfold InR; omega) (by unfold InR; omega) (by unfold InR; omega) _ _) rfl rfl (by decide) ⟨Nat.le_refl _, Nat.le_refl _⟩ (Nat.le_of_ble_eq_true rfl) ?_
  refine wp_if_eq_b (n := 10) K dX12_house_7 rfl (tgt := 21) (by decide) (fun c7 => ?_) (fun c7 => ?_)
  · have c := of_decide_eq_false c7
    rw [if_neg (fun q => c q.1), if_neg (fun q => c q.1)] at K
    refine wp_iconst (n := 22) K dX12_house_21 rfl ?_
    refine ret_i K dX12_house_22 ?_ rfl ?_ ⟨Nat.le_refl _, Nat.le_refl _⟩
    · rfl
    · rfl
  · have c := of_decide_eq_true c7
    refine wp_aload_n (n := 11) K dX12_house_10 rfl rfl ?_
    refine wp_getF (n := 14) K dX12_house_11 rfl fl_X12_7 rfl (liS rfl) rfl rfl ?_
    refine wp_iconst (n := 15) K dX12_house_14 rfl ?_
    refine wp_iald (n := 16) K dX12_house_15 rfl rfl (liS rfl) ⟨by omega, by omega, by omega⟩ ?_
    try simp only [up_same, up_up, Int.reduceToNat, Int.toNat_natCast]
    refine wp_bipush (n := 18) K dX12_house_16 rfl rfl ?_
    refine wp_icmp_ne (n := 21) K dX12_house_18 rfl (tgt := 23) (by decide) ⟨by omega, by omega⟩ ⟨by omega, by omega⟩ (fun c18 => ?_) (fun c18 => ?_)
    · rw [if_pos ⟨c, c18⟩, if_pos ⟨c, c18⟩] at K
      have i0 : (70 + 3 * M 78 3).toNat = 70 + 3 * (M 78 3).toNat := by omega
      have i1 : (70 + 3 * M 78 3 + 1).toNat = 71 + 3 * (M 78 3).toNat := by omega
      have i2 : (70 + 3 * M 78 3 + 2).toNat = 72 + 3 * (M 78 3).toNat := by omega
      have u3 : ∀ (f : Nat → Int) (v : Int), up f (70 + 3 * (M 78 3).toNat) v 3 = f 3 := fun f v => up_ne f v (by omega)
      have u4 : ∀ (f : Nat → Int) (v : Int), up f (71 + 3 * (M 78 3).toNat) v 3 = f 3 := fun f v => up_ne f v (by omega)
      have u5 : ∀ (f : Nat → Int) (v : Int), up f (72 + 3 * (M 78 3).toNat) v 3 = f 3 := fun f v => up_ne f v (by omega)
      refine wp_aload_n (n := 24) K dX12_house_23 rfl rfl ?_
      refine wp_getF (n := 27) K dX12_house_24 rfl fl_X12_7 rfl (liS rfl) rfl rfl ?_
      refine wp_iconst (n := 28) K dX12_house_27 rfl ?_
      refine wp_iald (n := 29) K dX12_house_28 rfl rfl (liS rfl) ⟨by omega, by omega, by omega⟩ ?_
      try simp only [up_same, up_up, Int.reduceToNat, Int.toNat_natCast]
      refine wp_invS_i (n := 32) K dX12_house_29 rfl cf_X12_77 (m_houseAt _ _ _) rfl rfl (by decide) ⟨Nat.le_refl _, Nat.le_refl _⟩ (Nat.le_of_ble_eq_true rfl) ?_
      refine wp_istore_n (n := 33) K dX12_house_32 rfl (by decide) ?_
      refine wp_aload_n (n := 34) K dX12_house_33 rfl rfl ?_
      refine wp_getF (n := 37) K dX12_house_34 rfl fl_X12_7 rfl (liS rfl) rfl rfl ?_
      refine wp_iload_n (n := 38) K dX12_house_37 rfl rfl ?_
      refine wp_iload_n (n := 39) K dX12_house_38 rfl rfl ?_
      refine wp_iast (n := 40) K dX12_house_39 rfl rfl (liS rfl) (fun _ => rfl) ⟨by omega, by omega, by omega⟩ ?_
      try simp only [up_same, up_up, Int.reduceToNat, Int.toNat_natCast]
      refine wp_aload_n (n := 41) K dX12_house_40 rfl rfl ?_
      refine wp_getF (n := 44) K dX12_house_41 rfl fl_X12_7 rfl (liS rfl) rfl rfl ?_
      refine wp_iload_n (n := 45) K dX12_house_44 rfl rfl ?_
      refine wp_iconst (n := 46) K dX12_house_45 rfl ?_
      refine wp_iadd (n := 47) K dX12_house_46 rfl ?_
      refine wp_iconst (n := 48) K dX12_house_47 rfl ?_
      refine wp_iast (n := 49) K dX12_house_48 rfl rfl (liS rfl) (fun _ => rfl) ⟨by omega, by omega, by omega⟩ ?_
      try simp only [up_same, up_up, Int.reduceToNat, Int.toNat_natCast]
      refine wp_aload_n (n := 50) K dX12_house_49 rfl rfl ?_
      refine wp_getF (n := 53) K dX12_house_50 rfl fl_X12_7 rfl (liS rfl) rfl rfl ?_
      refine wp_iload_n (n := 54) K dX12_house_53 rfl rfl ?_
      refine wp_iconst (n := 55) K dX12_house_54 rfl ?_
      refine wp_iadd (n := 56) K dX12_house_55 rfl ?_
      refine wp_iconst (n := 57) K dX12_house_56 rfl ?_
      refine wp_iast (n := 58) K dX12_house_57 rfl rfl (liS rfl) (fun _ => rfl) ⟨by omega, by omega, by omega⟩ ?_
      try simp only [up_same, up_up, Int.reduceToNat, Int.toNat_natCast]
      rw [i0, i1, i2]
      refine wp_aload_n (n := 59) K dX12_house_58 rfl rfl ?_
      refine wp_getF (n := 62) K dX12_house_59 rfl fl_X12_7 rfl (liS rfl) rfl rfl ?_
      refine wp_iconst (n := 63) K dX12_house_62 rfl ?_
      refine wp_dup2 (n := 64) K dX12_house_63 rfl rfl rfl ?_
      refine wp_iald (n := 65) K dX12_house_64 rfl rfl (liS rfl) ⟨by omega, by omega, by omega⟩ ?_
      try simp only [up_same, up_up, Int.reduceToNat, Int.toNat_natCast]
      refine wp_iconst (n := 66) K dX12_house_65 rfl ?_
      refine wp_iadd (n := 67) K dX12_house_66 rfl ?_
      refine wp_iast (n := 68) K dX12_house_67 rfl rfl (liS rfl) (fun _ => rfl) ⟨by omega, by omega, by omega⟩ ?_
      try simp only [up_same, up_up, Int.reduceToNat, Int.toNat_natCast]
      refine wp_aload_n (n := 69) K dX12_house_68 rfl rfl ?_
      refine wp_getF (n := 72) K dX12_house_69 rfl fl_X12_7 rfl (liS rfl) rfl rfl ?_
      refine wp_iconst (n := 73) K dX12_house_72 rfl ?_
      refine wp_iald (n := 74) K dX12_house_73 rfl rfl (liS rfl) ⟨by omega, by omega, by omega⟩ ?_
      try simp only [up_same, up_up, Int.reduceToNat, Int.toNat_natCast]
      refine wp_iconst (n := 75) K dX12_house_74 rfl ?_
      refine wp_isub (n := 76) K dX12_house_75 rfl ?_
      refine ret_i K dX12_house_76 ?_ rfl ?_ ⟨Nat.le_refl _, Nat.le_refl _⟩
      · simp only [u3, u4, u5]; omega
      · simp only [u3, u4, u5]; rfl
    · rw [if_neg (fun q => q.2 c18), if_neg (fun q => q.2 c18)] at K
      refine wp_iconst (n := 22) K dX12_house_21 rfl ?_
      refine ret_i K dX12_house_22 ?_ rfl ?_ ⟨Nat.le_refl _, Nat.le_refl _⟩
      · rfl
      · rfl

def touchA (σ : Nat → Int) (one other : Nat) (is : Bool) : Nat → Int := up σ (72 + 3 * one) (((if is then nrN σ one ||| 2 ^ other else wo (nrN σ one) (2 ^ other)) : Nat) : Int)
theorem m_touches (one other : Nat) (is : Bool) (h1 : one < 10) (h2 : other < 10) (S : ST) (M : MT) (hw : WH (M 78)) : Ct E1 yX12_touches cX12_touches 5 none rm_X12_touches [.ref 77, .int (z (one : Int)), .int (z (other : Int)), .int (z (bI is))] S M (Pn S (up M 78 (touchA (M 78) one other is))) := by
  obtain ⟨n1, n2⟩ := hw.nr h1
  have p1 : 2 ^ other < 1024 := Nat.pow_lt_pow_right (by decide) h2
  have i2 : (70 + 3 * (one : Int) + 2).toNat = 72 + 3 * one := by omega
  refine Ct.mk [.ref 77, .int (z (one : Int)), .int (z (other : Int)), .int (z (bI is)), mkV] (by decide) rfl (Nat.le_of_ble_eq_true rfl) (fun X K => ?_)
  refine wp_iload_n (n := 1) K dX12_touches_0 rfl rfl ?_
  refine wp_invS_i (n := 4) K dX12_touches_1 rfl cf_X12_77 (m_houseAt _ _ _) rfl rfl (by decide) ⟨Nat.le_refl _, Nat.le_refl _⟩ (Nat.le_of_ble_eq_true rfl) ?_
  refine wp_iconst (n := 5) K dX12_touches_4 rfl ?_
  refine wp_iadd (n := 6) K dX12_touches_5 rfl ?_
  refine wp_istore (n := 8) K dX12_touches_6 rfl (by decide) ?_
  refine wp_aload_n (n := 9) K dX12_touches_8 rfl rfl ?_
  refine wp_getF (n := 12) K dX12_touches_9 rfl fl_X12_7 rfl (liS rfl) rfl rfl ?_
  refine wp_iload (n := 14) K dX12_touches_12 rfl rfl ?_
  refine wp_iload_n (n := 15) K dX12_touches_14 rfl rfl ?_
  refine wp_if_eq_b (n := 18) K dX12_touches_15 rfl (tgt := 32) (by decide) (fun c15 => ?_) (fun c15 => ?_)
  · subst c15
    refine wp_aload_n (n := 33) K dX12_touches_32 rfl rfl ?_
    refine wp_getF (n := 36) K dX12_touches_33 rfl fl_X12_7 rfl (liS rfl) rfl rfl ?_
    refine wp_iload (n := 38) K dX12_touches_36 rfl rfl ?_
    refine wp_iald (n := 39) K dX12_touches_38 rfl rfl (liS rfl) ⟨by omega, by omega, by omega⟩ ?_
    try simp only [up_same, up_up, Int.reduceToNat, Int.toNat_natCast]
    refine wp_iconst (n := 40) K dX12_touches_39 rfl ?_
    refine wp_iload_n (n := 41) K dX12_touches_40 rfl rfl ?_
    refine wp_ishl (n := 42) K dX12_touches_41 rfl ?_
    refine wp_iconst (n := 43) K dX12_touches_42 rfl ?_
    refine wp_ixor (n := 44) K dX12_touches_43 rfl ?_
    refine wp_iand (n := 45) K dX12_touches_44 rfl ?_
    rw [i2, n1, bshl_1 (by omega), bandn_n (by omega) (by omega)]
    refine wp_iast (n := 46) K dX12_touches_45 rfl rfl (liS rfl) (fun _ => rfl) ⟨by omega, by omega, by omega⟩ ?_
    try simp only [up_same, up_up, Int.reduceToNat, Int.toNat_natCast]
    refine ret_n K dX12_touches_46 rfl ?_ ⟨Nat.le_refl _, Nat.le_refl _⟩
    rw [i2]; rfl
  · subst c15
    refine wp_aload_n (n := 19) K dX12_touches_18 rfl rfl ?_
    refine wp_getF (n := 22) K dX12_touches_19 rfl fl_X12_7 rfl (liS rfl) rfl rfl ?_
    refine wp_iload (n := 24) K dX12_touches_22 rfl rfl ?_
    refine wp_iald (n := 25) K dX12_touches_24 rfl rfl (liS rfl) ⟨by omega, by omega, by omega⟩ ?_
    try simp only [up_same, up_up, Int.reduceToNat, Int.toNat_natCast]
    refine wp_iconst (n := 26) K dX12_touches_25 rfl ?_
    refine wp_iload_n (n := 27) K dX12_touches_26 rfl rfl ?_
    refine wp_ishl (n := 28) K dX12_touches_27 rfl ?_
    refine wp_ior (n := 29) K dX12_touches_28 rfl ?_
    refine wp_goto K dX12_touches_29 (tgt := 45) (by decide) ?_
    rw [i2, n1, bshl_1 (by omega), bor_n (by omega) (by omega)]
    refine wp_iast (n := 46) K dX12_touches_45 rfl rfl (liS rfl) (fun _ => rfl) ⟨by omega, by omega, by omega⟩ ?_
    try simp only [up_same, up_up, Int.reduceToNat, Int.toNat_natCast]
    refine ret_n K dX12_touches_46 rfl ?_ ⟨Nat.le_refl _, Nat.le_refl _⟩
    rw [i2]; rfl
theorem WH.touch {σ : Nat → Int} (w : WH σ) {one other : Nat} {is : Bool} (h1 : one < 10) (h2 : other < 10) : WH (touchA σ one other is) := by
  obtain ⟨n1, n2⟩ := w.nr h1
  have p1 : 2 ^ other < 1024 := Nat.pow_lt_pow_right (by decide) h2
  refine ⟨by rw [show touchA σ one other is 3 = σ 3 from up_ne _ _ (by omega)]; exact w.1, fun h hh => ?_⟩
  obtain ⟨a, b, c⟩ := w.2 h hh
  rw [show touchA σ one other is (70 + 3 * h) = σ (70 + 3 * h) from up_ne _ _ (by omega), show touchA σ one other is (71 + 3 * h) = σ (71 + 3 * h) from up_ne _ _ (by omega)]
  refine ⟨a, b, ?_⟩
  by_cases he : h = one
  · subst he
    unfold touchA
    rw [up_same]
    cases is
    · have := wo_le (nrN σ h) (2 ^ other)
      rw [if_neg (by decide)]; omega
    · rw [if_pos rfl]
      have := Nat.or_lt_two_pow (n := 10) n2 p1
      omega
  · rw [show touchA σ one other is (72 + 3 * h) = σ (72 + 3 * h) from up_ne _ _ (by omega)]; exact c



theorem m_touch (one other : Int) (is : Bool) (h1 : InR one) (h2 : InR other) (S : ST) (M : MT) (hw : WH (M 78)) : Ct E1 yX12_touch cX12_touch 4 (some .boolean) rm_X12_touch [.ref 77, .int (z one), .int (z other), .int (z (bI is))] S M (Pi (bI (decide ((0 ≤ one ∧ one < M 78 3) ∧ (0 ≤ other ∧ other < M 78 3) ∧ one ≠ other))) S (if (0 ≤ one ∧ one < M 78 3) ∧ (0 ≤ other ∧ other < M 78 3) ∧ one ≠ other then up M 78 (touchA (touchA (M 78) one.toNat other.toNat is) other.toNat one.toNat is) else M)) := by
  have h3 := hw.1
  have hn3 : M 78 3 = ((M 78 3).toNat : Int) := by omega
  refine Ct.mk [.ref 77, .int (z one), .int (z other), .int (z (bI is))] (by decide) rfl (Nat.le_of_ble_eq_true rfl) (fun X K => ?_)
  refine wp_aload_n (n := 1) K dX12_touch_0 rfl rfl ?_
  refine wp_iload_n (n := 2) K dX12_touch_1 rfl rfl ?_
  refine wp_invV_i (n := 5) K dX12_touch_2 rfl cf_X12_80 (m_isHouse _ (by unfold InR; omega) _ (by omega) _ _ hn3) rfl rfl rfl (liS rfl) rfl (by decide) ⟨Nat.le_refl _, Nat.le_refl _⟩ (Nat.le_of_ble_eq_true rfl) ?_
  refine wp_if_eq_b (n := 8) K dX12_touch_5 rfl (tgt := 21) (by decide) (fun c5 => ?_) (fun c5 => ?_)
  · have c := of_decide_eq_false c5
    rw [if_neg (by omega)] at K
    refine wp_iconst (n := 22) K dX12_touch_21 rfl ?_
    refine ret_z K dX12_touch_22 ?_ rfl ?_ ⟨Nat.le_refl _, Nat.le_refl _⟩
    · exact bI_f (by omega)
    · rfl
  · have d1 := of_decide_eq_true c5
    refine wp_aload_n (n := 9) K dX12_touch_8 rfl rfl ?_
    refine wp_iload_n (n := 10) K dX12_touch_9 rfl rfl ?_
    refine wp_invV_i (n := 13) K dX12_touch_10 rfl cf_X12_80 (m_isHouse _ (by unfold InR; omega) _ (by omega) _ _ hn3) rfl rfl rfl (liS rfl) rfl (by decide) ⟨Nat.le_refl _, Nat.le_refl _⟩ (Nat.le_of_ble_eq_true rfl) ?_
    refine wp_if_eq_b (n := 16) K dX12_touch_13 rfl (tgt := 21) (by decide) (fun c13 => ?_) (fun c13 => ?_)
    · have c := of_decide_eq_false c13
      rw [if_neg (by omega)] at K
      refine wp_iconst (n := 22) K dX12_touch_21 rfl ?_
      refine ret_z K dX12_touch_22 ?_ rfl ?_ ⟨Nat.le_refl _, Nat.le_refl _⟩
      · exact bI_f (by omega)
      · rfl
    · have d2 := of_decide_eq_true c13
      refine wp_iload_n (n := 17) K dX12_touch_16 rfl rfl ?_
      refine wp_iload_n (n := 18) K dX12_touch_17 rfl rfl ?_
      refine wp_icmp_ne (n := 21) K dX12_touch_18 rfl (tgt := 23) (by decide) ⟨by omega, by omega⟩ ⟨by omega, by omega⟩ (fun c18 => ?_) (fun c18 => ?_)
      · rw [if_pos (by omega)] at K
        obtain ⟨a, rfl⟩ : ∃ a : Nat, one = a := ⟨one.toNat, by omega⟩
        obtain ⟨b, rfl⟩ : ∃ b : Nat, other = b := ⟨other.toNat, by omega⟩
        refine wp_aload_n (n := 24) K dX12_touch_23 rfl rfl ?_
        refine wp_iload_n (n := 25) K dX12_touch_24 rfl rfl ?_
        refine wp_iload_n (n := 26) K dX12_touch_25 rfl rfl ?_
        refine wp_iload_n (n := 27) K dX12_touch_26 rfl rfl ?_
        refine wp_invV_n (n := 30) K dX12_touch_27 rfl cf_X12_84 (m_touches _ _ is (by omega) (by omega) _ _ hw) rfl rfl rfl (liS rfl) rfl (by decide) ⟨Nat.le_refl _, Nat.le_refl _⟩ (Nat.le_of_ble_eq_true rfl) ?_
        refine wp_aload_n (n := 31) K dX12_touch_30 rfl rfl ?_
        refine wp_iload_n (n := 32) K dX12_touch_31 rfl rfl ?_
        refine wp_iload_n (n := 33) K dX12_touch_32 rfl rfl ?_
        refine wp_iload_n (n := 34) K dX12_touch_33 rfl rfl ?_
        refine wp_invV_n (n := 37) K dX12_touch_34 rfl cf_X12_84 (m_touches _ _ is (by omega) (by omega) _ _ (by rw [up_same]; exact hw.touch (by omega) (by omega))) rfl rfl rfl (liS rfl) rfl (by decide) ⟨Nat.le_refl _, Nat.le_refl _⟩ (Nat.le_of_ble_eq_true rfl) ?_
        refine wp_iconst (n := 38) K dX12_touch_37 rfl ?_
        refine ret_z K dX12_touch_38 ?_ rfl ?_ ⟨Nat.le_refl _, Nat.le_refl _⟩
        · exact bI_t (by omega)
        · rw [up_same, up_up, Int.toNat_natCast, Int.toNat_natCast]
      · rw [if_neg (by omega)] at K
        refine wp_iconst (n := 22) K dX12_touch_21 rfl ?_
        refine ret_z K dX12_touch_22 ?_ rfl ?_ ⟨Nat.le_refl _, Nat.le_refl _⟩
        · exact bI_f (by omega)
        · rfl
