
theorem c_passN {b : Nat → Int} {n T t : Nat} (k : Nat) (hkk : k ≤ 42) (hok : okTp b n) (S : ST) (M : MT) (hT : TSA M b n T t) (h9 : M 60 9 = 0) (hk : KT b n t ≠ k) : Ct E1 yX4_pass cX4_pass 3 none rm_X4_pass [.ref 60, .ref 55, .int (z (k : Int))] S M (Pn S (up M 60 (up (up (M 60) 9 1) 10 (BT b n t : Int)))) := by
  have hK := KT_r (t := t) hok
  refine Ct.mk [.ref 60, .ref 55, .int (z (k : Int))] (by decide) rfl (Nat.le_of_ble_eq_true rfl) (fun X K => ?_)
  refine wp_aload_n (n := 1) K dX4_pass_0 rfl rfl ?_
  refine wp_getI (n := 4) K dX4_pass_1 rfl fl_X4_45 rfl (liS rfl) rfl ?_
  try simp only [up_same, up_up, up_ne, ne_eq, Nat.reduceEqDiff, not_false_eq_true, Int.reduceToNat, Int.toNat_natCast]
  refine wp_if_ne (n := 7) K dX4_pass_4 rfl (tgt := 24) (by decide) ⟨by omega, by omega⟩ (fun c4 => ?_) (fun c4 => ?_)
  · omega
  · refine wp_aload_n (n := 8) K dX4_pass_7 rfl rfl ?_
    refine wp_invV_i (n := 11) K dX4_pass_8 rfl cf_X4_75 (c_kind n T t _ _ b hT) rfl rfl rfl (liS rfl) rfl (by decide) ⟨Nat.le_refl _, Nat.le_refl _⟩ (Nat.le_of_ble_eq_true rfl) ?_
    refine wp_iload_n (n := 12) K dX4_pass_11 rfl rfl ?_
    refine wp_icmp_eq (n := 15) K dX4_pass_12 rfl (tgt := 24) (by decide) ⟨by omega, by omega⟩ ⟨by omega, by omega⟩ (fun c12 => ?_) (fun c12 => ?_)
    · omega
    · refine wp_aload_n (n := 16) K dX4_pass_15 rfl rfl ?_
      refine wp_aload_n (n := 17) K dX4_pass_16 rfl rfl ?_
      refine wp_iconst (n := 18) K dX4_pass_17 rfl ?_
      refine wp_invV_n (n := 21) K dX4_pass_18 rfl cf_X4_95 (c_fail 1 _ _ hT) rfl rfl rfl (liS rfl) rfl (by decide) ⟨Nat.le_refl _, Nat.le_refl _⟩ (Nat.le_of_ble_eq_true rfl) ?_
      refine wp_goto K dX4_pass_21 (tgt := 35) (by decide) ?_
      refine ret_n K dX4_pass_35 rfl ?_ ⟨Nat.le_refl _, Nat.le_refl _⟩
      rfl

theorem c_passF {b : Nat → Int} {n T t : Nat} (k f : Nat) (S : ST) (M : MT) (h9 : M 60 9 = (f : Int)) (hf : f ≠ 0) (hf6 : f ≤ 6) : Ct E1 yX4_pass cX4_pass 3 none rm_X4_pass [.ref 60, .ref 55, .int (z (k : Int))] S M (Pn S M) := by
  refine Ct.mk [.ref 60, .ref 55, .int (z (k : Int))] (by decide) rfl (Nat.le_of_ble_eq_true rfl) (fun X K => ?_)
  refine wp_aload_n (n := 1) K dX4_pass_0 rfl rfl ?_
  refine wp_getI (n := 4) K dX4_pass_1 rfl fl_X4_45 rfl (liS rfl) rfl ?_
  try simp only [up_same, up_up, up_ne, ne_eq, Nat.reduceEqDiff, not_false_eq_true, Int.reduceToNat, Int.toNat_natCast]
  refine wp_if_ne (n := 7) K dX4_pass_4 rfl (tgt := 24) (by decide) ⟨by omega, by omega⟩ (fun c4 => ?_) (fun c4 => ?_)
  · refine wp_aload_n (n := 25) K dX4_pass_24 rfl rfl ?_
    refine wp_getI (n := 28) K dX4_pass_25 rfl fl_X4_45 rfl (liS rfl) rfl ?_
    try simp only [up_same, up_up, up_ne, ne_eq, Nat.reduceEqDiff, not_false_eq_true, Int.reduceToNat, Int.toNat_natCast]
    refine wp_if_ne (n := 31) K dX4_pass_28 rfl (tgt := 35) (by decide) ⟨by omega, by omega⟩ (fun c28 => ?_) (fun c28 => ?_)
    · refine ret_n K dX4_pass_35 rfl ?_ ⟨Nat.le_refl _, Nat.le_refl _⟩
      rfl
    · omega
  · omega

theorem c_passY {b : Nat → Int} {n T t : Nat} (k : Nat) (hkk : k ≤ 40) (S : ST) (M : MT) (hT : TSA M b n T t) (h9 : M 60 9 = 0) (hk : KT b n t = k) : Ct E1 yX4_pass cX4_pass 3 none rm_X4_pass [.ref 60, .ref 55, .int (z (k : Int))] S M (Qn [55] S M (fun M1 => TSA M1 b n T (t + 1) ∧ M1 55 4 = M 55 4)) := by
  refine Ct.mk [.ref 60, .ref 55, .int (z (k : Int))] (by decide) rfl (Nat.le_of_ble_eq_true rfl) (fun X K => ?_)
  refine wp_aload_n (n := 1) K dX4_pass_0 rfl rfl ?_
  refine wp_getI (n := 4) K dX4_pass_1 rfl fl_X4_45 rfl (liS rfl) rfl ?_
  try simp only [up_same, up_up, up_ne, ne_eq, Nat.reduceEqDiff, not_false_eq_true, Int.reduceToNat, Int.toNat_natCast]
  refine wp_if_ne (n := 7) K dX4_pass_4 rfl (tgt := 24) (by decide) ⟨by omega, by omega⟩ (fun c4 => ?_) (fun c4 => ?_)
  · omega
  · refine wp_aload_n (n := 8) K dX4_pass_7 rfl rfl ?_
    refine wp_invV_i (n := 11) K dX4_pass_8 rfl cf_X4_75 (c_kind n T t _ _ b hT) rfl rfl rfl (liS rfl) rfl (by decide) ⟨Nat.le_refl _, Nat.le_refl _⟩ (Nat.le_of_ble_eq_true rfl) ?_
    refine wp_iload_n (n := 12) K dX4_pass_11 rfl rfl ?_
    refine wp_icmp_eq (n := 15) K dX4_pass_12 rfl (tgt := 24) (by decide) ⟨by omega, by omega⟩ ⟨by omega, by omega⟩ (fun c12 => ?_) (fun c12 => ?_)
    · refine wp_aload_n (n := 25) K dX4_pass_24 rfl rfl ?_
      refine wp_getI (n := 28) K dX4_pass_25 rfl fl_X4_45 rfl (liS rfl) rfl ?_
      try simp only [up_same, up_up, up_ne, ne_eq, Nat.reduceEqDiff, not_false_eq_true, Int.reduceToNat, Int.toNat_natCast]
      refine wp_if_ne (n := 31) K dX4_pass_28 rfl (tgt := 35) (by decide) ⟨by omega, by omega⟩ (fun c28 => ?_) (fun c28 => ?_)
      · omega
      · refine wp_aload_n (n := 32) K dX4_pass_31 rfl rfl ?_
        refine wp_invV_qn (n := 35) K dX4_pass_32 rfl cf_X4_103 (c_advance n T t _ _ b hT (by omega)) rfl rfl rfl (liS rfl) rfl (by decide) ⟨Nat.le_refl _, Nat.le_refl _⟩ (Nat.le_of_ble_eq_true rfl) (fun A hA gA => ?_)
        refine ret_qn K dX4_pass_35 rfl ?_ ?_ ⟨Nat.le_refl _, Nat.le_refl _⟩
        · exact hA
        · exact gA
    · omega

theorem c_numN {b : Nat → Int} {n T t : Nat} (top : Nat) (htop : top ≤ 11) (hok : okTp b n) (S : ST) (M : MT) (hT : TSA M b n T t) (h9 : M 60 9 = 0) (hf : figF (KT b n t) (VT b n t) (top : Int) ≠ 0) : Ct E1 yX4_readNumber cX4_readNumber 4 (some .int) rm_X4_readNumber [.ref 60, .ref 55, .int (z (top : Int))] S M (Pi (VT b n t) S (up M 60 (up (up (M 60) 9 (figF (KT b n t) (VT b n t) (top : Int) : Int)) 10 (BT b n t : Int)))) := by
  have hK := KT_r (t := t) hok
  have hV := VT_r (t := t) hok
  refine Ct.mk [.ref 60, .ref 55, .int (z (top : Int)), mkV] (by decide) rfl (Nat.le_of_ble_eq_true rfl) (fun X K => ?_)
  by_cases q : KT b n t = 40
  · have e : figF (KT b n t) (VT b n t) (top : Int) = 2 := by
      unfold figF at hf ⊢
      rw [if_pos q] at hf ⊢
      split at hf
      · rename_i u; rw [if_pos u]
      · exact absurd rfl hf
    have hlt : (top : Int) < VT b n t := by
      unfold figF at e
      rw [if_pos q] at e
      split at e
      · assumption
      · cases e
    rw [e] at K
    have hT2 : TSA (up M 60 (up (up (M 60) 9 2) 10 (BT b n t : Int))) b n T t := hT.mem (fun a _ _ => up_ne _ _ (by omega))
    refine wp_aload_n (n := 1) K dX4_readNumber_0 rfl rfl ?_
    refine wp_invV_i (n := 4) K dX4_readNumber_1 rfl cf_X4_123 (c_number n T t _ _ b hT) rfl rfl rfl (liS rfl) rfl (by decide) ⟨Nat.le_refl _, Nat.le_refl _⟩ (Nat.le_of_ble_eq_true rfl) ?_
    refine wp_istore_n (n := 5) K dX4_readNumber_4 rfl (by decide) ?_
    refine wp_aload_n (n := 6) K dX4_readNumber_5 rfl rfl ?_
    refine wp_getI (n := 9) K dX4_readNumber_6 rfl fl_X4_45 rfl (liS rfl) rfl ?_
    try simp only [up_same, up_up, up_ne, ne_eq, Nat.reduceEqDiff, not_false_eq_true, Int.reduceToNat, Int.toNat_natCast]
    refine wp_if_ne (n := 12) K dX4_readNumber_9 rfl (tgt := 32) (by decide) ⟨by omega, by omega⟩ (fun c9 => ?_) (fun c9 => ?_)
    · omega
    · refine wp_aload_n (n := 13) K dX4_readNumber_12 rfl rfl ?_
      refine wp_invV_i (n := 16) K dX4_readNumber_13 rfl cf_X4_75 (c_kind n T t _ _ b hT) rfl rfl rfl (liS rfl) rfl (by decide) ⟨Nat.le_refl _, Nat.le_refl _⟩ (Nat.le_of_ble_eq_true rfl) ?_
      refine wp_bipush (n := 18) K dX4_readNumber_16 rfl rfl ?_
      refine wp_icmp_ne (n := 21) K dX4_readNumber_18 rfl (tgt := 32) (by decide) ⟨by omega, by omega⟩ ⟨by omega, by omega⟩ (fun c18 => ?_) (fun c18 => ?_)
      · omega
      · refine wp_iload_n (n := 22) K dX4_readNumber_21 rfl rfl ?_
        refine wp_iload_n (n := 23) K dX4_readNumber_22 rfl rfl ?_
        refine wp_icmp_le (n := 26) K dX4_readNumber_23 rfl (tgt := 32) (by decide) ⟨by omega, by omega⟩ ⟨by omega, by omega⟩ (fun c23 => ?_) (fun c23 => ?_)
        · omega
        · refine wp_aload_n (n := 27) K dX4_readNumber_26 rfl rfl ?_
          refine wp_aload_n (n := 28) K dX4_readNumber_27 rfl rfl ?_
          refine wp_iconst (n := 29) K dX4_readNumber_28 rfl ?_
          refine wp_invV_n (n := 32) K dX4_readNumber_29 rfl cf_X4_95 (c_fail 2 _ _ hT) rfl rfl rfl (liS rfl) rfl (by decide) ⟨Nat.le_refl _, Nat.le_refl _⟩ (Nat.le_of_ble_eq_true rfl) ?_
          refine wp_aload_n (n := 33) K dX4_readNumber_32 rfl rfl ?_
          refine wp_aload_n (n := 34) K dX4_readNumber_33 rfl rfl ?_
          refine wp_bipush (n := 36) K dX4_readNumber_34 rfl rfl ?_
          refine wp_invV_n (n := 39) K dX4_readNumber_36 rfl cf_X4_116 (c_passF (b := b) (n := n) (T := T) (t := t) 40 2 _ _ (by simp [up]) (by decide) (by decide)) rfl rfl rfl (liS rfl) rfl (by decide) ⟨Nat.le_refl _, Nat.le_refl _⟩ (Nat.le_of_ble_eq_true rfl) ?_
          refine wp_iload_n (n := 40) K dX4_readNumber_39 rfl rfl ?_
          refine ret_i K dX4_readNumber_40 ?_ rfl ?_ ⟨Nat.le_refl _, Nat.le_refl _⟩
          · rfl
          · rfl
  · have e : figF (KT b n t) (VT b n t) (top : Int) = 1 := by
      unfold figF; rw [if_neg q]
    rw [e] at K
    have k32 : Wp E1 X 32 [.ref 60, .ref 55, .int (z (top : Int)), .int (z (VT b n t))] [] S M := by
      refine wp_aload_n (n := 33) K dX4_readNumber_32 rfl rfl ?_
      refine wp_aload_n (n := 34) K dX4_readNumber_33 rfl rfl ?_
      refine wp_bipush (n := 36) K dX4_readNumber_34 rfl rfl ?_
      refine wp_invV_n (n := 39) K dX4_readNumber_36 rfl cf_X4_116 (c_passN 40 (by decide) hok _ _ hT h9 q) rfl rfl rfl (liS rfl) rfl (by decide) ⟨Nat.le_refl _, Nat.le_refl _⟩ (Nat.le_of_ble_eq_true rfl) ?_
      refine wp_iload_n (n := 40) K dX4_readNumber_39 rfl rfl ?_
      refine ret_i K dX4_readNumber_40 ?_ rfl ?_ ⟨Nat.le_refl _, Nat.le_refl _⟩
      · rfl
      · rfl
    refine wp_aload_n (n := 1) K dX4_readNumber_0 rfl rfl ?_
    refine wp_invV_i (n := 4) K dX4_readNumber_1 rfl cf_X4_123 (c_number n T t _ _ b hT) rfl rfl rfl (liS rfl) rfl (by decide) ⟨Nat.le_refl _, Nat.le_refl _⟩ (Nat.le_of_ble_eq_true rfl) ?_
    refine wp_istore_n (n := 5) K dX4_readNumber_4 rfl (by decide) ?_
    refine wp_aload_n (n := 6) K dX4_readNumber_5 rfl rfl ?_
    refine wp_getI (n := 9) K dX4_readNumber_6 rfl fl_X4_45 rfl (liS rfl) rfl ?_
    try simp only [up_same, up_up, up_ne, ne_eq, Nat.reduceEqDiff, not_false_eq_true, Int.reduceToNat, Int.toNat_natCast]
    refine wp_if_ne (n := 12) K dX4_readNumber_9 rfl (tgt := 32) (by decide) ⟨by omega, by omega⟩ (fun c9 => ?_) (fun c9 => ?_)
    · omega
    · refine wp_aload_n (n := 13) K dX4_readNumber_12 rfl rfl ?_
      refine wp_invV_i (n := 16) K dX4_readNumber_13 rfl cf_X4_75 (c_kind n T t _ _ b hT) rfl rfl rfl (liS rfl) rfl (by decide) ⟨Nat.le_refl _, Nat.le_refl _⟩ (Nat.le_of_ble_eq_true rfl) ?_
      refine wp_bipush (n := 18) K dX4_readNumber_16 rfl rfl ?_
      refine wp_icmp_ne (n := 21) K dX4_readNumber_18 rfl (tgt := 32) (by decide) ⟨by omega, by omega⟩ ⟨by omega, by omega⟩ (fun c18 => ?_) (fun c18 => ?_)
      · exact k32
      · omega
theorem c_numF {b : Nat → Int} {n T t : Nat} (top f : Nat) (htop : top ≤ 11) (hok : okTp b n) (S : ST) (M : MT) (hT : TSA M b n T t) (h9 : M 60 9 = (f : Int)) (hf : f ≠ 0) (hf6 : f ≤ 6) : Ct E1 yX4_readNumber cX4_readNumber 4 (some .int) rm_X4_readNumber [.ref 60, .ref 55, .int (z (top : Int))] S M (Pi (VT b n t) S M) := by
  refine Ct.mk [.ref 60, .ref 55, .int (z (top : Int)), mkV] (by decide) rfl (Nat.le_of_ble_eq_true rfl) (fun X K => ?_)
  refine wp_aload_n (n := 1) K dX4_readNumber_0 rfl rfl ?_
  refine wp_invV_i (n := 4) K dX4_readNumber_1 rfl cf_X4_123 (c_number n T t _ _ b hT) rfl rfl rfl (liS rfl) rfl (by decide) ⟨Nat.le_refl _, Nat.le_refl _⟩ (Nat.le_of_ble_eq_true rfl) ?_
  refine wp_istore_n (n := 5) K dX4_readNumber_4 rfl (by decide) ?_
  refine wp_aload_n (n := 6) K dX4_readNumber_5 rfl rfl ?_
  refine wp_getI (n := 9) K dX4_readNumber_6 rfl fl_X4_45 rfl (liS rfl) rfl ?_
  try simp only [up_same, up_up, up_ne, ne_eq, Nat.reduceEqDiff, not_false_eq_true, Int.reduceToNat, Int.toNat_natCast]
  refine wp_if_ne (n := 12) K dX4_readNumber_9 rfl (tgt := 32) (by decide) ⟨by omega, by omega⟩ (fun c9 => ?_) (fun c9 => ?_)
  · refine wp_aload_n (n := 33) K dX4_readNumber_32 rfl rfl ?_
    refine wp_aload_n (n := 34) K dX4_readNumber_33 rfl rfl ?_
    refine wp_bipush (n := 36) K dX4_readNumber_34 rfl rfl ?_
    refine wp_invV_n (n := 39) K dX4_readNumber_36 rfl cf_X4_116 (c_passF (b := b) (n := n) (T := T) (t := t) 40 f _ _ h9 hf hf6) rfl rfl rfl (liS rfl) rfl (by decide) ⟨Nat.le_refl _, Nat.le_refl _⟩ (Nat.le_of_ble_eq_true rfl) ?_
    refine wp_iload_n (n := 40) K dX4_readNumber_39 rfl rfl ?_
    refine ret_i K dX4_readNumber_40 ?_ rfl ?_ ⟨Nat.le_refl _, Nat.le_refl _⟩
    · rfl
    · rfl
  · omega

theorem c_numY {b : Nat → Int} {n T t : Nat} (top : Nat) (htop : top ≤ 11) (hok : okTp b n) (S : ST) (M : MT) (hT : TSA M b n T t) (h9 : M 60 9 = 0) (hf : figF (KT b n t) (VT b n t) (top : Int) = 0) : Ct E1 yX4_readNumber cX4_readNumber 4 (some .int) rm_X4_readNumber [.ref 60, .ref 55, .int (z (top : Int))] S M (Qi (VT b n t) [55] S M (fun M1 => TSA M1 b n T (t + 1) ∧ M1 55 4 = M 55 4)) := by
  obtain ⟨h40, hle⟩ := figF_40 hf
  have hV := VT_r (t := t) hok
  refine Ct.mk [.ref 60, .ref 55, .int (z (top : Int)), mkV] (by decide) rfl (Nat.le_of_ble_eq_true rfl) (fun X K => ?_)
  refine wp_aload_n (n := 1) K dX4_readNumber_0 rfl rfl ?_
  refine wp_invV_i (n := 4) K dX4_readNumber_1 rfl cf_X4_123 (c_number n T t _ _ b hT) rfl rfl rfl (liS rfl) rfl (by decide) ⟨Nat.le_refl _, Nat.le_refl _⟩ (Nat.le_of_ble_eq_true rfl) ?_
  refine wp_istore_n (n := 5) K dX4_readNumber_4 rfl (by decide) ?_
  refine wp_aload_n (n := 6) K dX4_readNumber_5 rfl rfl ?_
  refine wp_getI (n := 9) K dX4_readNumber_6 rfl fl_X4_45 rfl (liS rfl) rfl ?_
  try simp only [up_same, up_up, up_ne, ne_eq, Nat.reduceEqDiff, not_false_eq_true, Int.reduceToNat, Int.toNat_natCast]
  refine wp_if_ne (n := 12) K dX4_readNumber_9 rfl (tgt := 32) (by decide) ⟨by omega, by omega⟩ (fun c9 => ?_) (fun c9 => ?_)
  · omega
  · refine wp_aload_n (n := 13) K dX4_readNumber_12 rfl rfl ?_
    refine wp_invV_i (n := 16) K dX4_readNumber_13 rfl cf_X4_75 (c_kind n T t _ _ b hT) rfl rfl rfl (liS rfl) rfl (by decide) ⟨Nat.le_refl _, Nat.le_refl _⟩ (Nat.le_of_ble_eq_true rfl) ?_
    refine wp_bipush (n := 18) K dX4_readNumber_16 rfl rfl ?_
    refine wp_icmp_ne (n := 21) K dX4_readNumber_18 rfl (tgt := 32) (by decide) ⟨by omega, by omega⟩ ⟨by omega, by omega⟩ (fun c18 => ?_) (fun c18 => ?_)
    · omega
    · refine wp_iload_n (n := 22) K dX4_readNumber_21 rfl rfl ?_
      refine wp_iload_n (n := 23) K dX4_readNumber_22 rfl rfl ?_
      refine wp_icmp_le (n := 26) K dX4_readNumber_23 rfl (tgt := 32) (by decide) ⟨by omega, by omega⟩ ⟨by omega, by omega⟩ (fun c23 => ?_) (fun c23 => ?_)
      · refine wp_aload_n (n := 33) K dX4_readNumber_32 rfl rfl ?_
        refine wp_aload_n (n := 34) K dX4_readNumber_33 rfl rfl ?_
        refine wp_bipush (n := 36) K dX4_readNumber_34 rfl rfl ?_
        refine wp_invV_qn (n := 39) K dX4_readNumber_36 rfl cf_X4_116 (c_passY 40 (by decide) _ _ hT h9 h40) rfl rfl rfl (liS rfl) rfl (by decide) ⟨Nat.le_refl _, Nat.le_refl _⟩ (Nat.le_of_ble_eq_true rfl) (fun A hA gA => ?_)
        refine wp_iload_n (n := 40) K dX4_readNumber_39 rfl rfl ?_
        refine ret_qi K dX4_readNumber_40 ?_ rfl ?_ ?_ ⟨Nat.le_refl _, Nat.le_refl _⟩
        · rfl
        · exact hA
        · exact gA
      · omega
