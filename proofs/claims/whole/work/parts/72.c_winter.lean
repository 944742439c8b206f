
theorem c_mostWithoutOne (k n : Nat) (hk : k < 1024) (hn : n ≤ 10) (S : ST) (M : MT) (hr : ∀ j, j < k → 0 ≤ M 76 j ∧ M 76 j ≤ 2000) : Ct E1 yX0_mostWithoutOne cX0_mostWithoutOne 5 (some .int) rm_X0_mostWithoutOne [.ref 74, .int (z (k : Int)), .int (z (n : Int))] S M (Pi (mxT (M 76) k n) S M) := by
  refine Ct.mk [.ref 74, .int (z (k : Int)), .int (z (n : Int)), mkV, mkV] (by decide) rfl (Nat.le_of_ble_eq_true rfl) (fun X K => ?_)
  refine wp_iconst (n := 1) K dX0_mostWithoutOne_0 rfl ?_
  refine wp_istore_n (n := 2) K dX0_mostWithoutOne_1 rfl (by decide) ?_
  refine wp_iconst (n := 3) K dX0_mostWithoutOne_2 rfl ?_
  refine wp_istore (n := 5) K dX0_mostWithoutOne_3 rfl (by decide) ?_
  refine dn n (Q := fun h => Wp E1 X 5 [.ref 74, .int (z (k : Int)), .int (z (n : Int)), .int (z (mxT (M 76) k h)), .int (z (h : Int))] [] S M) (fun h hh ih => ?_) 0 (by omega)
  have hm := mxT_r (p := M 76) (k := k) (B := 2000) (by decide) hr h
  refine wp_iload (n := 7) K dX0_mostWithoutOne_5 rfl rfl ?_
  refine wp_iload_n (n := 8) K dX0_mostWithoutOne_7 rfl rfl ?_
  refine wp_icmp_ge (n := 11) K dX0_mostWithoutOne_8 rfl (tgt := 45) (by decide) ⟨by omega, by omega⟩ ⟨by omega, by omega⟩ (fun c8 => ?_) (fun c8 => ?_)
  · have : h = n := by omega
    subst this
    refine wp_iload_n (n := 46) K dX0_mostWithoutOne_45 rfl rfl ?_
    refine ret_i K dX0_mostWithoutOne_46 ?_ rfl ?_ ⟨Nat.le_refl _, Nat.le_refl _⟩
    · rfl
    · rfl
  · have ih := ih (by omega)
    rw [mxT] at ih
    refine wp_iload_n (n := 12) K dX0_mostWithoutOne_11 rfl rfl ?_
    refine wp_iload (n := 14) K dX0_mostWithoutOne_12 rfl rfl ?_
    refine wp_ishr (n := 15) K dX0_mostWithoutOne_14 rfl ?_
    refine wp_iconst (n := 16) K dX0_mostWithoutOne_15 rfl ?_
    refine wp_iand (n := 17) K dX0_mostWithoutOne_16 rfl ?_
    refine wp_iconst (n := 18) K dX0_mostWithoutOne_17 rfl ?_
    rw [bit_n (by omega) (by omega)]
    have hb := Bool.toNat_le (k.testBit h)
    refine wp_icmp_ne (n := 21) K dX0_mostWithoutOne_18 rfl (tgt := 39) (by decide) ⟨by omega, by omega⟩ ⟨by omega, by omega⟩ (fun c18 => ?_) (fun c18 => ?_)
    · have : ¬ k.testBit h = true := fun hq => by rw [hq] at c18; exact c18 rfl
      rw [if_neg this] at ih
      refine wp_iinc (n := 42) K dX0_mostWithoutOne_39 rfl rfl (by decide) ?_
      refine wp_goto K dX0_mostWithoutOne_42 (tgt := 5) (by decide) ?_
      exact ih
    · have ht : k.testBit h = true := by cases hq : k.testBit h with
        | true => rfl
        | false => rw [hq] at c18; cases c18
      have hlt := wo_lt ht
      have hrr := hr _ hlt
      rw [if_pos ht] at ih
      have e : band (k : Int) (bxor (bshl 1 (h : Int)) (-1)) = ((wo k (2 ^ h) : Nat) : Int) := by
        rw [bshl_1 (by omega), bandn_n (by omega) (Nat.lt_of_lt_of_le (Nat.pow_lt_pow_right (by decide) (show h < 31 by omega)) (by decide))]
      refine wp_iload_n (n := 22) K dX0_mostWithoutOne_21 rfl rfl ?_
      refine wp_aload_n (n := 23) K dX0_mostWithoutOne_22 rfl rfl ?_
      refine wp_getF (n := 26) K dX0_mostWithoutOne_23 rfl fl_X0_15 rfl (liS rfl) rfl rfl ?_
      refine wp_iload_n (n := 27) K dX0_mostWithoutOne_26 rfl rfl ?_
      refine wp_iconst (n := 28) K dX0_mostWithoutOne_27 rfl ?_
      refine wp_iload (n := 30) K dX0_mostWithoutOne_28 rfl rfl ?_
      refine wp_ishl (n := 31) K dX0_mostWithoutOne_30 rfl ?_
      refine wp_iconst (n := 32) K dX0_mostWithoutOne_31 rfl ?_
      refine wp_ixor (n := 33) K dX0_mostWithoutOne_32 rfl ?_
      refine wp_iand (n := 34) K dX0_mostWithoutOne_33 rfl ?_
      rw [e]
      refine wp_iald (n := 35) K dX0_mostWithoutOne_34 rfl rfl (liS rfl) ⟨by omega, by omega, by omega⟩ ?_
      try simp only [up_same, up_up, Int.reduceToNat, Int.toNat_natCast]
      refine wp_invS_i (n := 38) K dX0_mostWithoutOne_35 rfl cf_X0_37 (j_max _ _ ⟨by omega, by omega⟩ ⟨by omega, by omega⟩ _ _) rfl rfl (by decide) ⟨Nat.le_refl _, Nat.le_refl _⟩ (Nat.le_of_ble_eq_true rfl) ?_
      refine wp_istore_n (n := 39) K dX0_mostWithoutOne_38 rfl (by decide) ?_
      rw [show max (mxT (M 76) k h) (M 76 (wo k (2 ^ h))) = if mxT (M 76) k h < M 76 (wo k (2 ^ h)) then M 76 (wo k (2 ^ h)) else mxT (M 76) k h by split <;> omega]
      refine wp_iinc (n := 42) K dX0_mostWithoutOne_39 rfl rfl (by decide) ?_
      refine wp_goto K dX0_mostWithoutOne_42 (tgt := 5) (by decide) ?_
      exact ih
theorem gF_r (σ : Nat → Int) (n k : Nat) (hk : k < 1024) : 0 ≤ gF σ n k ∧ gF σ n k ≤ 1024 := by
  have := ptT_r σ (fun _ => 0) n (k + 1) (by omega) k (by omega)
  unfold gF; omega

theorem c_fewest (S : ST) (M : MT) (σ : Nat → Int) (n : Nat) (hn : n ≤ 10) (h3 : σ 3 = n) (hH : HN M σ) (hw : WH σ) : Ct E1 yX0_fewestReturns cX0_fewestReturns 5 (some .int) rm_X0_fewestReturns [.ref 74, .ref 24] S M (Qi ((n : Int) - gF σ n (2 ^ n - 1)) [75, 76] S M (fun _ => True)) := by
  have hp : 2 ^ n ≤ 1024 ∧ 1 ≤ 2 ^ n := ⟨Nat.pow_le_pow_right (n := 2) (by decide) hn, Nat.one_le_two_pow⟩
  have g4 := hH.1
  refine Ct.mk [.ref 74, .ref 24, mkV, mkV, mkV] (by decide) rfl (Nat.le_of_ble_eq_true rfl) (fun X K => ?_)
  refine wp_iconst (n := 1) K dX0_fewestReturns_0 rfl ?_
  refine wp_aload_n (n := 2) K dX0_fewestReturns_1 rfl rfl ?_
  refine wp_getI (n := 5) K dX0_fewestReturns_2 rfl fl_X0_18 rfl (liS rfl) rfl ?_
  try simp only [up_same, up_up, up_ne, ne_eq, Nat.reduceEqDiff, not_false_eq_true, Int.reduceToNat, Int.toNat_natCast]
  refine wp_ishl (n := 6) K dX0_fewestReturns_5 rfl ?_
  refine wp_iconst (n := 7) K dX0_fewestReturns_6 rfl ?_
  refine wp_isub (n := 8) K dX0_fewestReturns_7 rfl ?_
  rw [show bshl 1 (M 24 4) - 1 = ((2 ^ n - 1 : Nat) : Int) by rw [g4, h3, bshl_1 (by omega)]; omega]
  refine wp_istore_n (n := 9) K dX0_fewestReturns_8 rfl (by decide) ?_
  refine wp_aload_n (n := 10) K dX0_fewestReturns_9 rfl rfl ?_
  refine wp_getF (n := 13) K dX0_fewestReturns_10 rfl fl_X0_9 rfl (liS rfl) rfl rfl ?_
  refine wp_iconst (n := 14) K dX0_fewestReturns_13 rfl ?_
  refine wp_iconst (n := 15) K dX0_fewestReturns_14 rfl ?_
  refine wp_iast (n := 16) K dX0_fewestReturns_15 rfl rfl (liS rfl) (fun _ => rfl) ⟨by omega, by omega, by omega⟩ ?_
  try simp only [up_same, up_up, up_ne, ne_eq, Nat.reduceEqDiff, not_false_eq_true, Int.reduceToNat, Int.toNat_natCast]
  refine wp_aload_n (n := 17) K dX0_fewestReturns_16 rfl rfl ?_
  refine wp_getF (n := 20) K dX0_fewestReturns_17 rfl fl_X0_15 rfl (liS rfl) rfl rfl ?_
  refine wp_iconst (n := 21) K dX0_fewestReturns_20 rfl ?_
  refine wp_iconst (n := 22) K dX0_fewestReturns_21 rfl ?_
  refine wp_iast (n := 23) K dX0_fewestReturns_22 rfl rfl (liS rfl) (fun _ => rfl) ⟨by omega, by omega, by omega⟩ ?_
  try simp only [up_same, up_up, up_ne, ne_eq, Nat.reduceEqDiff, not_false_eq_true, Int.reduceToNat, Int.toNat_natCast]
  refine wp_iconst (n := 24) K dX0_fewestReturns_23 rfl ?_
  refine wp_istore_n (n := 25) K dX0_fewestReturns_24 rfl (by decide) ?_
  have g00 : gF σ n 0 = 0 := by
    rw [gF_eq, if_neg (by simp)]
    rcases mxT_ex (p := gF σ n) (k := 0) n with q | ⟨i, q1, q2, q3⟩
    · rw [q]; rfl
    · rw [Nat.zero_testBit] at q2; cases q2
  have s00 : ∀ h, smT σ 0 h = 0 := fun h => by
    induction h with
    | zero => rfl
    | succ h ih => unfold smT; rw [Nat.zero_testBit]; simp [ih]
  refine (dn (2 ^ n) (Q := fun k => 1 ≤ k → ∀ (B : MT) (w4 : Value), (∀ a, a ∉ [75, 76] → B a = M a) → (∀ j, j < k → B 75 j = smT σ j n ∧ B 76 j = gF σ n j) → Wp E1 X 25 [.ref 74, .ref 24, .int (z ((2 ^ n - 1 : Nat) : Int)), .int (z (k : Int)), w4] [] S B) (fun k hk ih h1 B w4 hB hj => ?_) 1 hp.2) (Nat.le_refl _) _ mkV (fun a ha => by simp only [List.mem_cons, List.not_mem_nil, or_false, not_or] at ha; simp [up, ha]) (fun j hj => by
    have : j = 0 := by omega
    subst this
    simp [up, g00, s00])
  have hB4 : B 24 4 = (n : Int) := by rw [hB _ (by decide), g4, h3]
  have hBo : ∀ i, i < 10 → B 26 i = σ (71 + 3 * i) := fun i hi => by rw [hB _ (by decide)]; exact (hH.2 i hi).2.1
  refine wp_iload_n (n := 26) K dX0_fewestReturns_25 rfl rfl ?_
  refine wp_iload_n (n := 27) K dX0_fewestReturns_26 rfl rfl ?_
  refine wp_icmp_gt (n := 30) K dX0_fewestReturns_27 rfl (tgt := 96) (by decide) ⟨by omega, by omega⟩ ⟨by omega, by omega⟩ (fun c27 => ?_) (fun c27 => ?_)
  · have : k = 2 ^ n := by omega
    subst this
    refine wp_aload_n (n := 97) K dX0_fewestReturns_96 rfl rfl ?_
    refine wp_getI (n := 100) K dX0_fewestReturns_97 rfl fl_X0_18 rfl (liS rfl) rfl ?_
    try simp only [up_same, up_up, up_ne, ne_eq, Nat.reduceEqDiff, not_false_eq_true, Int.reduceToNat, Int.toNat_natCast]
    refine wp_aload_n (n := 101) K dX0_fewestReturns_100 rfl rfl ?_
    refine wp_getF (n := 104) K dX0_fewestReturns_101 rfl fl_X0_15 rfl (liS rfl) rfl rfl ?_
    refine wp_iload_n (n := 105) K dX0_fewestReturns_104 rfl rfl ?_
    refine wp_iald (n := 106) K dX0_fewestReturns_105 rfl rfl (liS rfl) ⟨by omega, by omega, by omega⟩ ?_
    try simp only [up_same, up_up, up_ne, ne_eq, Nat.reduceEqDiff, not_false_eq_true, Int.reduceToNat, Int.toNat_natCast]
    refine wp_isub (n := 107) K dX0_fewestReturns_106 rfl ?_
    refine ret_qi K dX0_fewestReturns_107 ?_ rfl ?_ ?_ ⟨Nat.le_refl _, Nat.le_refl _⟩
    · rw [hB4, (hj _ (by omega)).2]
    · exact hB
    · trivial
  · have hk2 : k < 2 ^ n := by omega
    obtain ⟨l1, l2, l3⟩ := low_n (k := k) (by omega) (by omega)
    have hln : ntz k < n := by
      rcases Nat.lt_or_ge (ntz k) n with q | q
      · exact q
      · have := Nat.testBit_lt_two_pow (Nat.lt_of_lt_of_le hk2 (Nat.pow_le_pow_right (by decide) q))
        rw [l2] at this; cases this
    have hlt := wo_lt l2
    have es := smT_wo (σ := σ) l2 n
    rw [if_pos hln] at es
    obtain ⟨q1, q2⟩ := hj _ hlt
    refine wp_iload_n (n := 31) K dX0_fewestReturns_30 rfl rfl ?_
    refine wp_invS_i (n := 34) K dX0_fewestReturns_31 rfl cf_X0_24 (j_ntz k (by omega) _ _) rfl rfl (by decide) ⟨Nat.le_refl _, Nat.le_refl _⟩ (Nat.le_of_ble_eq_true rfl) ?_
    refine wp_istore (n := 36) K dX0_fewestReturns_34 rfl (by decide) ?_
    refine wp_aload_n (n := 37) K dX0_fewestReturns_36 rfl rfl ?_
    refine wp_getF (n := 40) K dX0_fewestReturns_37 rfl fl_X0_9 rfl (liS rfl) rfl rfl ?_
    refine wp_iload_n (n := 41) K dX0_fewestReturns_40 rfl rfl ?_
    refine wp_aload_n (n := 42) K dX0_fewestReturns_41 rfl rfl ?_
    refine wp_getF (n := 45) K dX0_fewestReturns_42 rfl fl_X0_9 rfl (liS rfl) rfl rfl ?_
    refine wp_iload_n (n := 46) K dX0_fewestReturns_45 rfl rfl ?_
    refine wp_iload_n (n := 47) K dX0_fewestReturns_46 rfl rfl ?_
    refine wp_iconst (n := 48) K dX0_fewestReturns_47 rfl ?_
    refine wp_isub (n := 49) K dX0_fewestReturns_48 rfl ?_
    refine wp_iand (n := 50) K dX0_fewestReturns_49 rfl ?_
    rw [clr_b (by omega), l3]
    refine wp_iald (n := 51) K dX0_fewestReturns_50 rfl rfl (liS rfl) ⟨by omega, by omega, by omega⟩ ?_
    try simp only [up_same, up_up, up_ne, ne_eq, Nat.reduceEqDiff, not_false_eq_true, Int.reduceToNat, Int.toNat_natCast]
    refine wp_aload_n (n := 52) K dX0_fewestReturns_51 rfl rfl ?_
    refine wp_getF (n := 55) K dX0_fewestReturns_52 rfl fl_X0_30 rfl (liS rfl) rfl rfl ?_
    refine wp_iload (n := 57) K dX0_fewestReturns_55 rfl rfl ?_
    refine wp_iald (n := 58) K dX0_fewestReturns_57 rfl rfl (liS rfl) ⟨by omega, by omega, by omega⟩ ?_
    try simp only [up_same, up_up, up_ne, ne_eq, Nat.reduceEqDiff, not_false_eq_true, Int.reduceToNat, Int.toNat_natCast]
    refine wp_iadd (n := 59) K dX0_fewestReturns_58 rfl ?_
    rw [q1, hBo _ l1, ← es]
    refine wp_iast (n := 60) K dX0_fewestReturns_59 rfl rfl (liS rfl) (fun _ => rfl) ⟨by omega, by omega, by omega⟩ ?_
    try simp only [up_same, up_up, up_ne, ne_eq, Nat.reduceEqDiff, not_false_eq_true, Int.reduceToNat, Int.toNat_natCast]
    refine wp_aload_n (n := 61) K dX0_fewestReturns_60 rfl rfl ?_
    refine wp_getF (n := 64) K dX0_fewestReturns_61 rfl fl_X0_15 rfl (liS rfl) rfl rfl ?_
    refine wp_iload_n (n := 65) K dX0_fewestReturns_64 rfl rfl ?_
    refine wp_aload_n (n := 66) K dX0_fewestReturns_65 rfl rfl ?_
    refine wp_iload_n (n := 67) K dX0_fewestReturns_66 rfl rfl ?_
    refine wp_aload_n (n := 68) K dX0_fewestReturns_67 rfl rfl ?_
    refine wp_getI (n := 71) K dX0_fewestReturns_68 rfl fl_X0_18 rfl (liS rfl) rfl ?_
    try simp only [up_same, up_up, up_ne, ne_eq, Nat.reduceEqDiff, not_false_eq_true, Int.reduceToNat, Int.toNat_natCast]
    rw [hB4]
    have hr' : ∀ j, j < k → 0 ≤ (up B 75 (up (B 75) k (smT σ k n))) 76 j ∧ (up B 75 (up (B 75) k (smT σ k n))) 76 j ≤ 2000 := fun j hj2 => by
      rw [up_ne _ _ (by decide), (hj j hj2).2]; have := gF_r σ n j (by omega); omega
    have em : mxT (B 76) k n = mxT (gF σ n) k n := mxT_congr (fun j hj2 => (hj j hj2).2) n
    have hm := mxT_r (p := gF σ n) (k := k) (B := 1024) (by decide) (fun j hj2 => gF_r σ n j (by omega)) n
    have hsr := smT_r hw k n hn
    have fin1 : ∀ v : Int, v = gF σ n k → Wp E1 X 90 [.ref 74, .ref 24, .int (z ((2 ^ n - 1 : Nat) : Int)), .int (z (k : Int)), .int (z (ntz k : Int))] [] S (up (up B 75 (up (B 75) k (smT σ k n))) 76 (up (B 76) k v)) := by
      intro v hv
      refine wp_iinc (n := 93) K dX0_fewestReturns_90 rfl rfl (by decide) ?_
      refine wp_goto K dX0_fewestReturns_93 (tgt := 25) (by decide) ?_
      refine ih (by omega) (by omega) _ _ (fun a ha => ?_) (fun j hj2 => ?_)
      · rw [← hB a ha]
        simp only [List.mem_cons, List.not_mem_nil, or_false, not_or] at ha
        simp [up, ha]
      · by_cases he : j = k
        · subst he; simp [up, hv]
        · simp [up, he]; exact hj j (by omega)
    have ge := gF_eq σ n k
    refine wp_invV_i (n := 74) K dX0_fewestReturns_71 rfl cf_X0_33 (c_mostWithoutOne k n (by omega) hn _ _ hr') rfl rfl rfl (liS rfl) rfl (by decide) ⟨Nat.le_refl _, Nat.le_refl _⟩ (Nat.le_of_ble_eq_true rfl) ?_
    refine wp_aload_n (n := 75) K dX0_fewestReturns_74 rfl rfl ?_
    refine wp_getF (n := 78) K dX0_fewestReturns_75 rfl fl_X0_9 rfl (liS rfl) rfl rfl ?_
    refine wp_iload_n (n := 79) K dX0_fewestReturns_78 rfl rfl ?_
    refine wp_iald (n := 80) K dX0_fewestReturns_79 rfl rfl (liS rfl) ⟨by omega, by omega, by omega⟩ ?_
    try simp only [up_same, up_up, up_ne, ne_eq, Nat.reduceEqDiff, not_false_eq_true, Int.reduceToNat, Int.toNat_natCast]
    rw [em]
    refine wp_if_ne (n := 83) K dX0_fewestReturns_80 rfl (tgt := 87) (by decide) ⟨by omega, by omega⟩ (fun c80 => ?_) (fun c80 => ?_)
    · rw [if_neg (fun q => c80 q.1)] at ge
      refine wp_iconst (n := 88) K dX0_fewestReturns_87 rfl ?_
      refine wp_iadd (n := 89) K dX0_fewestReturns_88 rfl ?_
      refine wp_iast (n := 90) K dX0_fewestReturns_89 rfl rfl (liS rfl) (fun _ => rfl) ⟨by omega, by omega, by omega⟩ ?_
      try simp only [up_same, up_up, up_ne, ne_eq, Nat.reduceEqDiff, not_false_eq_true, Int.reduceToNat, Int.toNat_natCast]
      exact fin1 _ ge.symm
    · rw [if_pos ⟨c80, by omega⟩] at ge
      refine wp_iconst (n := 84) K dX0_fewestReturns_83 rfl ?_
      refine wp_goto K dX0_fewestReturns_84 (tgt := 88) (by decide) ?_
      refine wp_iadd (n := 89) K dX0_fewestReturns_88 rfl ?_
      refine wp_iast (n := 90) K dX0_fewestReturns_89 rfl rfl (liS rfl) (fun _ => rfl) ⟨by omega, by omega, by omega⟩ ?_
      try simp only [up_same, up_up, up_ne, ne_eq, Nat.reduceEqDiff, not_false_eq_true, Int.reduceToNat, Int.toNat_natCast]
      exact fin1 _ ge.symm

theorem c_winter (S : ST) (M : MT) (σ p : Nat → Int) (hH : HN M σ) (hw : WH σ) : Ct E1 yX11_winter cX11_winter 1 (some .int) rm_X11_winter [.ref 16] S M (Qi (winF σ p) [75, 76] S M (fun _ => True)) := by
  have h3 := hw.1
  rw [win_eq σ p (σ 3).toNat (by omega) rfl]
  refine Ct.mk [.ref 16] (by decide) rfl (Nat.le_of_ble_eq_true rfl) (fun X K => ?_)
  refine wp_aload_n (n := 1) K dX11_winter_0 rfl rfl ?_
  refine wp_getF (n := 4) K dX11_winter_1 rfl fl_X11_50 rfl (liS rfl) rfl rfl ?_
  refine wp_aload_n (n := 5) K dX11_winter_4 rfl rfl ?_
  refine wp_getF (n := 8) K dX11_winter_5 rfl fl_X11_12 rfl (liS rfl) rfl rfl ?_
  refine wp_getF (n := 11) K dX11_winter_8 rfl fl_X11_106 rfl (liS rfl) rfl rfl ?_
  refine wp_invV_qi (n := 14) K dX11_winter_11 rfl cf_X11_265 (c_fewest _ _ σ (σ 3).toNat (by omega) (by omega) hH hw) rfl rfl rfl (liS rfl) rfl (by decide) ⟨Nat.le_refl _, Nat.le_refl _⟩ (Nat.le_of_ble_eq_true rfl) (fun A1 hA1 gA1 => ?_)
  refine ret_qi K dX11_winter_14 ?_ rfl ?_ ?_ ⟨Nat.le_refl _, Nat.le_refl _⟩
  · rfl
  · exact hA1
  · trivial
