def stoneA (σ : Nat → Int) (w h v b nd : Int) : Nat → Int := up (up (up (up (up (up σ (10 + 5 * (σ 0).toNat) w) (11 + 5 * (σ 0).toNat) h) (12 + 5 * (σ 0).toNat) v) (13 + 5 * (σ 0).toNat) b) (14 + 5 * (σ 0).toNat) nd) 0 (σ 0 + 1)
def okStone (σ : Nat → Int) (w h v b nd : Int) : Prop := (1 ≤ w ∧ w ≤ 99) ∧ (0 ≤ h ∧ h ≤ 20) ∧ (0 ≤ v ∧ v ≤ 99) ∧ σ 0 ≠ 12 ∧ (0 ≤ b ∧ b < 2 ^ (σ 0).toNat) ∧ 0 ≤ nd ∧ nd ≤ (cnt 12 b.toNat : Int)
theorem p2_le {n : Nat} (h : n ≤ 12) : (2 ^ n : Nat) ≤ 4096 := Nat.pow_le_pow_right (n := 2) (by decide) h
theorem p2_c (n : Nat) : (2 : Int) ^ n = ((2 ^ n : Nat) : Int) := by rw [Int.natCast_pow]; rfl

theorem m_stone (w h v b nd : Int) (h1 : InR w) (h2 : InR h) (h3 : InR v) (h4 : InR b) (h5 : InR nd) (S : ST) (M : MT) (hw : WS (M 78)) : (okStone (M 78) w h v b nd → Ct E1 yX12_stone cX12_stone 7 (some .int) rm_X12_stone [.ref 77, .int (z w), .int (z h), .int (z v), .int (z b), .int (z nd)] S M (Pi (M 78 0) S (up M 78 (stoneA (M 78) w h v b nd)))) ∧ (¬ okStone (M 78) w h v b nd → Ct E1 yX12_stone cX12_stone 7 (some .int) rm_X12_stone [.ref 77, .int (z w), .int (z h), .int (z v), .int (z b), .int (z nd)] S M (Pi (-1) S M)) := by
  have h0 := hw.1
  have hn0 : M 78 0 = ((M 78 0).toNat : Int) := by omega
  have hp := p2_le (show (M 78 0).toNat ≤ 12 by omega)
  have hp1 : 1 ≤ (2 ^ (M 78 0).toNat : Nat) := Nat.one_le_two_pow
  unfold okStone
  rw [p2_c]
  generalize hN : (2 ^ (M 78 0).toNat : Nat) = N at hp hp1 ⊢
  constructor
  · rintro ⟨g1, g2, g3, g4, g5, g6⟩
    refine Ct.mk [.ref 77, .int (z w), .int (z h), .int (z v), .int (z b), .int (z nd), mkV] (by decide) rfl (Nat.le_of_ble_eq_true rfl) (fun X K => ?_)
    refine wp_iload_n (n := 1) K dX12_stone_0 rfl rfl ?_
    refine wp_iconst (n := 2) K dX12_stone_1 rfl ?_
    refine wp_bipush (n := 4) K dX12_stone_2 rfl rfl ?_
    refine wp_invS_i (n := 7) K dX12_stone_4 rfl cf_X12_62 (m_isIn _ _ _ (by unfold InR; omega) (by unfold InR; omega) (by unfold InR; omega) _ _) rfl rfl (by decide) ⟨Nat.le_refl _, Nat.le_refl _⟩ (Nat.le_of_ble_eq_true rfl) ?_
    refine wp_if_eq_b (n := 10) K dX12_stone_7 rfl (tgt := 41) (by decide) (fun c7 => ?_) (fun c7 => ?_)
    · exact absurd g1 (of_decide_eq_false c7)
    refine wp_iload_n (n := 11) K dX12_stone_10 rfl rfl ?_
    refine wp_iconst (n := 12) K dX12_stone_11 rfl ?_
    refine wp_bipush (n := 14) K dX12_stone_12 rfl rfl ?_
    refine wp_invS_i (n := 17) K dX12_stone_14 rfl cf_X12_62 (m_isIn _ _ _ (by unfold InR; omega) (by unfold InR; omega) (by unfold InR; omega) _ _) rfl rfl (by decide) ⟨Nat.le_refl _, Nat.le_refl _⟩ (Nat.le_of_ble_eq_true rfl) ?_
    refine wp_if_eq_b (n := 20) K dX12_stone_17 rfl (tgt := 41) (by decide) (fun c17 => ?_) (fun c17 => ?_)
    · exact absurd g2 (of_decide_eq_false c17)
    refine wp_iload_n (n := 21) K dX12_stone_20 rfl rfl ?_
    refine wp_iconst (n := 22) K dX12_stone_21 rfl ?_
    refine wp_bipush (n := 24) K dX12_stone_22 rfl rfl ?_
    refine wp_invS_i (n := 27) K dX12_stone_24 rfl cf_X12_62 (m_isIn _ _ _ (by unfold InR; omega) (by unfold InR; omega) (by unfold InR; omega) _ _) rfl rfl (by decide) ⟨Nat.le_refl _, Nat.le_refl _⟩ (Nat.le_of_ble_eq_true rfl) ?_
    refine wp_if_eq_b (n := 30) K dX12_stone_27 rfl (tgt := 41) (by decide) (fun c27 => ?_) (fun c27 => ?_)
    · exact absurd g3 (of_decide_eq_false c27)
    refine wp_aload_n (n := 31) K dX12_stone_30 rfl rfl ?_
    refine wp_getF (n := 34) K dX12_stone_31 rfl fl_X12_7 rfl (liS rfl) rfl rfl ?_
    refine wp_iconst (n := 35) K dX12_stone_34 rfl ?_
    refine wp_iald (n := 36) K dX12_stone_35 rfl rfl (liS rfl) ⟨by omega, by omega, by omega⟩ ?_
    try simp only [up_same, up_up, Int.reduceToNat, Int.toNat_natCast]
    refine wp_bipush (n := 38) K dX12_stone_36 rfl rfl ?_
    refine wp_icmp_ne (n := 41) K dX12_stone_38 rfl (tgt := 43) (by decide) ⟨by omega, by omega⟩ ⟨by omega, by omega⟩ (fun c38 => ?_) (fun c38 => ?_)
    rotate_left
    · exact absurd c38 g4
    refine wp_iload (n := 45) K dX12_stone_43 rfl rfl ?_
    refine wp_iconst (n := 46) K dX12_stone_45 rfl ?_
    refine wp_aload_n (n := 47) K dX12_stone_46 rfl rfl ?_
    refine wp_invV_i (n := 50) K dX12_stone_47 rfl cf_X12_66 (m_all _ (by omega) _ _ hn0) rfl rfl rfl (liS rfl) rfl (by decide) ⟨Nat.le_refl _, Nat.le_refl _⟩ (Nat.le_of_ble_eq_true rfl) ?_
    rw [hN]
    refine wp_invS_i (n := 53) K dX12_stone_50 rfl cf_X12_62 (m_isIn _ _ _ (by unfold InR; omega) (by unfold InR; omega) (by unfold InR; omega) _ _) rfl rfl (by decide) ⟨Nat.le_refl _, Nat.le_refl _⟩ (Nat.le_of_ble_eq_true rfl) ?_
    refine wp_if_eq_b (n := 56) K dX12_stone_53 rfl (tgt := 70) (by decide) (fun c53 => ?_) (fun c53 => ?_)
    · have := of_decide_eq_false c53; omega
    obtain ⟨B, rfl⟩ : ∃ B : Nat, b = B := ⟨b.toNat, by omega⟩
    have hcb := cnt_le 12 B
    rw [Int.toNat_natCast] at g6
    refine wp_iload (n := 58) K dX12_stone_56 rfl rfl ?_
    refine wp_iconst (n := 59) K dX12_stone_58 rfl ?_
    refine wp_iload (n := 61) K dX12_stone_59 rfl rfl ?_
    refine wp_invS_i (n := 64) K dX12_stone_61 rfl cf_X12_70 (m_bits _ (by omega) _ _) rfl rfl (by decide) ⟨Nat.le_refl _, Nat.le_refl _⟩ (Nat.le_of_ble_eq_true rfl) ?_
    refine wp_invS_i (n := 67) K dX12_stone_64 rfl cf_X12_62 (m_isIn _ _ _ (by unfold InR; omega) (by unfold InR; omega) (by unfold InR; omega) _ _) rfl rfl (by decide) ⟨Nat.le_refl _, Nat.le_refl _⟩ (Nat.le_of_ble_eq_true rfl) ?_
    refine wp_if_ne_b (n := 70) K dX12_stone_67 rfl (tgt := 72) (by decide) (fun c67 => ?_) (fun c67 => ?_)
    rotate_left
    · (have := of_decide_eq_false c67; omega)
    have i0 : (10 + 5 * M 78 0).toNat = 10 + 5 * (M 78 0).toNat := by omega
    have i1 : (10 + 5 * M 78 0 + 1).toNat = 11 + 5 * (M 78 0).toNat := by omega
    have i2 : (10 + 5 * M 78 0 + 2).toNat = 12 + 5 * (M 78 0).toNat := by omega
    have i3 : (10 + 5 * M 78 0 + 3).toNat = 13 + 5 * (M 78 0).toNat := by omega
    have i4 : (10 + 5 * M 78 0 + 4).toNat = 14 + 5 * (M 78 0).toNat := by omega
    refine wp_aload_n (n := 73) K dX12_stone_72 rfl rfl ?_
    refine wp_getF (n := 76) K dX12_stone_73 rfl fl_X12_7 rfl (liS rfl) rfl rfl ?_
    refine wp_iconst (n := 77) K dX12_stone_76 rfl ?_
    refine wp_iald (n := 78) K dX12_stone_77 rfl rfl (liS rfl) ⟨by omega, by omega, by omega⟩ ?_
    try simp only [up_same, up_up, Int.reduceToNat, Int.toNat_natCast]
    refine wp_invS_i (n := 81) K dX12_stone_78 rfl cf_X12_74 (m_stoneAt _ _ _) rfl rfl (by decide) ⟨Nat.le_refl _, Nat.le_refl _⟩ (Nat.le_of_ble_eq_true rfl) ?_
    refine wp_istore (n := 83) K dX12_stone_81 rfl (by decide) ?_
    refine wp_aload_n (n := 84) K dX12_stone_83 rfl rfl ?_
    refine wp_getF (n := 87) K dX12_stone_84 rfl fl_X12_7 rfl (liS rfl) rfl rfl ?_
    refine wp_iload (n := 89) K dX12_stone_87 rfl rfl ?_
    refine wp_iload_n (n := 90) K dX12_stone_89 rfl rfl ?_
    refine wp_iast (n := 91) K dX12_stone_90 rfl rfl (liS rfl) (fun _ => rfl) ⟨by omega, by omega, by omega⟩ ?_
    try simp only [up_same, up_up, Int.reduceToNat, Int.toNat_natCast]
    refine wp_aload_n (n := 92) K dX12_stone_91 rfl rfl ?_
    refine wp_getF (n := 95) K dX12_stone_92 rfl fl_X12_7 rfl (liS rfl) rfl rfl ?_
    refine wp_iload (n := 97) K dX12_stone_95 rfl rfl ?_
    refine wp_iconst (n := 98) K dX12_stone_97 rfl ?_
    refine wp_iadd (n := 99) K dX12_stone_98 rfl ?_
    refine wp_iload_n (n := 100) K dX12_stone_99 rfl rfl ?_
    refine wp_iast (n := 101) K dX12_stone_100 rfl rfl (liS rfl) (fun _ => rfl) ⟨by omega, by omega, by omega⟩ ?_
    try simp only [up_same, up_up, Int.reduceToNat, Int.toNat_natCast]
    refine wp_aload_n (n := 102) K dX12_stone_101 rfl rfl ?_
    refine wp_getF (n := 105) K dX12_stone_102 rfl fl_X12_7 rfl (liS rfl) rfl rfl ?_
    refine wp_iload (n := 107) K dX12_stone_105 rfl rfl ?_
    refine wp_iconst (n := 108) K dX12_stone_107 rfl ?_
    refine wp_iadd (n := 109) K dX12_stone_108 rfl ?_
    refine wp_iload_n (n := 110) K dX12_stone_109 rfl rfl ?_
    refine wp_iast (n := 111) K dX12_stone_110 rfl rfl (liS rfl) (fun _ => rfl) ⟨by omega, by omega, by omega⟩ ?_
    try simp only [up_same, up_up, Int.reduceToNat, Int.toNat_natCast]
    refine wp_aload_n (n := 112) K dX12_stone_111 rfl rfl ?_
    refine wp_getF (n := 115) K dX12_stone_112 rfl fl_X12_7 rfl (liS rfl) rfl rfl ?_
    refine wp_iload (n := 117) K dX12_stone_115 rfl rfl ?_
    refine wp_iconst (n := 118) K dX12_stone_117 rfl ?_
    refine wp_iadd (n := 119) K dX12_stone_118 rfl ?_
    refine wp_iload (n := 121) K dX12_stone_119 rfl rfl ?_
    refine wp_iast (n := 122) K dX12_stone_121 rfl rfl (liS rfl) (fun _ => rfl) ⟨by omega, by omega, by omega⟩ ?_
    try simp only [up_same, up_up, Int.reduceToNat, Int.toNat_natCast]
    refine wp_aload_n (n := 123) K dX12_stone_122 rfl rfl ?_
    refine wp_getF (n := 126) K dX12_stone_123 rfl fl_X12_7 rfl (liS rfl) rfl rfl ?_
    refine wp_iload (n := 128) K dX12_stone_126 rfl rfl ?_
    refine wp_iconst (n := 129) K dX12_stone_128 rfl ?_
    refine wp_iadd (n := 130) K dX12_stone_129 rfl ?_
    refine wp_iload (n := 132) K dX12_stone_130 rfl rfl ?_
    refine wp_iast (n := 133) K dX12_stone_132 rfl rfl (liS rfl) (fun _ => rfl) ⟨by omega, by omega, by omega⟩ ?_
    try simp only [up_same, up_up, Int.reduceToNat, Int.toNat_natCast]
    rw [i0, i1, i2, i3, i4]
    have u : ∀ (f : Nat → Int) (v : Int) (k : Nat), 10 ≤ k → up f k v 0 = f 0 := fun f v k hk => up_ne f v (by omega)
    have e : up (up (up (up (up (M 78) (10 + 5 * (M 78 0).toNat) w) (11 + 5 * (M 78 0).toNat) h) (12 + 5 * (M 78 0).toNat) v) (13 + 5 * (M 78 0).toNat) (B : Int)) (14 + 5 * (M 78 0).toNat) nd 0 = M 78 0 := by
      rw [u _ _ _ (by omega), u _ _ _ (by omega), u _ _ _ (by omega), u _ _ _ (by omega), u _ _ _ (by omega)]
    refine wp_aload_n (n := 134) K dX12_stone_133 rfl rfl ?_
    refine wp_getF (n := 137) K dX12_stone_134 rfl fl_X12_7 rfl (liS rfl) rfl rfl ?_
    refine wp_iconst (n := 138) K dX12_stone_137 rfl ?_
    refine wp_dup2 (n := 139) K dX12_stone_138 rfl rfl rfl ?_
    refine wp_iald (n := 140) K dX12_stone_139 rfl rfl (liS rfl) ⟨by omega, by omega, by omega⟩ ?_
    try simp only [up_same, up_up, Int.reduceToNat, Int.toNat_natCast]
    refine wp_iconst (n := 141) K dX12_stone_140 rfl ?_
    refine wp_iadd (n := 142) K dX12_stone_141 rfl ?_
    refine wp_iast (n := 143) K dX12_stone_142 rfl rfl (liS rfl) (fun _ => rfl) ⟨by omega, by omega, by omega⟩ ?_
    try simp only [up_same, up_up, Int.reduceToNat, Int.toNat_natCast]
    refine wp_aload_n (n := 144) K dX12_stone_143 rfl rfl ?_
    refine wp_getF (n := 147) K dX12_stone_144 rfl fl_X12_7 rfl (liS rfl) rfl rfl ?_
    refine wp_iconst (n := 148) K dX12_stone_147 rfl ?_
    refine wp_iald (n := 149) K dX12_stone_148 rfl rfl (liS rfl) ⟨by omega, by omega, by omega⟩ ?_
    try simp only [up_same, up_up, Int.reduceToNat, Int.toNat_natCast]
    refine wp_iconst (n := 150) K dX12_stone_149 rfl ?_
    refine wp_isub (n := 151) K dX12_stone_150 rfl ?_
    refine ret_i K dX12_stone_151 ?_ rfl ?_ ⟨Nat.le_refl _, Nat.le_refl _⟩
    · rw [e]; omega
    · rw [e]; rfl
  · intro hno
    refine Ct.mk [.ref 77, .int (z w), .int (z h), .int (z v), .int (z b), .int (z nd), mkV] (by decide) rfl (Nat.le_of_ble_eq_true rfl) (fun X K => ?_)
    refine wp_iload_n (n := 1) K dX12_stone_0 rfl rfl ?_
    refine wp_iconst (n := 2) K dX12_stone_1 rfl ?_
    refine wp_bipush (n := 4) K dX12_stone_2 rfl rfl ?_
    refine wp_invS_i (n := 7) K dX12_stone_4 rfl cf_X12_62 (m_isIn _ _ _ (by unfold InR; omega) (by unfold InR; omega) (by unfold InR; omega) _ _) rfl rfl (by decide) ⟨Nat.le_refl _, Nat.le_refl _⟩ (Nat.le_of_ble_eq_true rfl) ?_
    refine wp_if_eq_b (n := 10) K dX12_stone_7 rfl (tgt := 41) (by decide) (fun c7 => ?_) (fun c7 => ?_)
    · refine wp_iconst (n := 42) K dX12_stone_41 rfl ?_
      refine ret_i K dX12_stone_42 ?_ rfl ?_ ⟨Nat.le_refl _, Nat.le_refl _⟩
      all_goals rfl
    have g1 := of_decide_eq_true c7
    refine wp_iload_n (n := 11) K dX12_stone_10 rfl rfl ?_
    refine wp_iconst (n := 12) K dX12_stone_11 rfl ?_
    refine wp_bipush (n := 14) K dX12_stone_12 rfl rfl ?_
    refine wp_invS_i (n := 17) K dX12_stone_14 rfl cf_X12_62 (m_isIn _ _ _ (by unfold InR; omega) (by unfold InR; omega) (by unfold InR; omega) _ _) rfl rfl (by decide) ⟨Nat.le_refl _, Nat.le_refl _⟩ (Nat.le_of_ble_eq_true rfl) ?_
    refine wp_if_eq_b (n := 20) K dX12_stone_17 rfl (tgt := 41) (by decide) (fun c17 => ?_) (fun c17 => ?_)
    · refine wp_iconst (n := 42) K dX12_stone_41 rfl ?_
      refine ret_i K dX12_stone_42 ?_ rfl ?_ ⟨Nat.le_refl _, Nat.le_refl _⟩
      all_goals rfl
    have g2 := of_decide_eq_true c17
    refine wp_iload_n (n := 21) K dX12_stone_20 rfl rfl ?_
    refine wp_iconst (n := 22) K dX12_stone_21 rfl ?_
    refine wp_bipush (n := 24) K dX12_stone_22 rfl rfl ?_
    refine wp_invS_i (n := 27) K dX12_stone_24 rfl cf_X12_62 (m_isIn _ _ _ (by unfold InR; omega) (by unfold InR; omega) (by unfold InR; omega) _ _) rfl rfl (by decide) ⟨Nat.le_refl _, Nat.le_refl _⟩ (Nat.le_of_ble_eq_true rfl) ?_
    refine wp_if_eq_b (n := 30) K dX12_stone_27 rfl (tgt := 41) (by decide) (fun c27 => ?_) (fun c27 => ?_)
    · refine wp_iconst (n := 42) K dX12_stone_41 rfl ?_
      refine ret_i K dX12_stone_42 ?_ rfl ?_ ⟨Nat.le_refl _, Nat.le_refl _⟩
      all_goals rfl
    have g3 := of_decide_eq_true c27
    refine wp_aload_n (n := 31) K dX12_stone_30 rfl rfl ?_
    refine wp_getF (n := 34) K dX12_stone_31 rfl fl_X12_7 rfl (liS rfl) rfl rfl ?_
    refine wp_iconst (n := 35) K dX12_stone_34 rfl ?_
    refine wp_iald (n := 36) K dX12_stone_35 rfl rfl (liS rfl) ⟨by omega, by omega, by omega⟩ ?_
    try simp only [up_same, up_up, Int.reduceToNat, Int.toNat_natCast]
    refine wp_bipush (n := 38) K dX12_stone_36 rfl rfl ?_
    refine wp_icmp_ne (n := 41) K dX12_stone_38 rfl (tgt := 43) (by decide) ⟨by omega, by omega⟩ ⟨by omega, by omega⟩ (fun c38 => ?_) (fun c38 => ?_)
    rotate_left
    · refine wp_iconst (n := 42) K dX12_stone_41 rfl ?_
      refine ret_i K dX12_stone_42 ?_ rfl ?_ ⟨Nat.le_refl _, Nat.le_refl _⟩
      all_goals rfl
    refine wp_iload (n := 45) K dX12_stone_43 rfl rfl ?_
    refine wp_iconst (n := 46) K dX12_stone_45 rfl ?_
    refine wp_aload_n (n := 47) K dX12_stone_46 rfl rfl ?_
    refine wp_invV_i (n := 50) K dX12_stone_47 rfl cf_X12_66 (m_all _ (by omega) _ _ hn0) rfl rfl rfl (liS rfl) rfl (by decide) ⟨Nat.le_refl _, Nat.le_refl _⟩ (Nat.le_of_ble_eq_true rfl) ?_
    rw [hN]
    refine wp_invS_i (n := 53) K dX12_stone_50 rfl cf_X12_62 (m_isIn _ _ _ (by unfold InR; omega) (by unfold InR; omega) (by unfold InR; omega) _ _) rfl rfl (by decide) ⟨Nat.le_refl _, Nat.le_refl _⟩ (Nat.le_of_ble_eq_true rfl) ?_
    refine wp_if_eq_b (n := 56) K dX12_stone_53 rfl (tgt := 70) (by decide) (fun c53 => ?_) (fun c53 => ?_)
    · refine wp_iconst (n := 71) K dX12_stone_70 rfl ?_
      refine ret_i K dX12_stone_71 ?_ rfl ?_ ⟨Nat.le_refl _, Nat.le_refl _⟩
      all_goals rfl
    have g5 := of_decide_eq_true c53
    obtain ⟨B, rfl⟩ : ∃ B : Nat, b = B := ⟨b.toNat, by omega⟩
    have hcb := cnt_le 12 B
    refine wp_iload (n := 58) K dX12_stone_56 rfl rfl ?_
    refine wp_iconst (n := 59) K dX12_stone_58 rfl ?_
    refine wp_iload (n := 61) K dX12_stone_59 rfl rfl ?_
    refine wp_invS_i (n := 64) K dX12_stone_61 rfl cf_X12_70 (m_bits _ (by omega) _ _) rfl rfl (by decide) ⟨Nat.le_refl _, Nat.le_refl _⟩ (Nat.le_of_ble_eq_true rfl) ?_
    refine wp_invS_i (n := 67) K dX12_stone_64 rfl cf_X12_62 (m_isIn _ _ _ (by unfold InR; omega) (by unfold InR; omega) (by unfold InR; omega) _ _) rfl rfl (by decide) ⟨Nat.le_refl _, Nat.le_refl _⟩ (Nat.le_of_ble_eq_true rfl) ?_
    refine wp_if_ne_b (n := 70) K dX12_stone_67 rfl (tgt := 72) (by decide) (fun c67 => ?_) (fun c67 => ?_)
    rotate_left
    · refine wp_iconst (n := 71) K dX12_stone_70 rfl ?_
      refine ret_i K dX12_stone_71 ?_ rfl ?_ ⟨Nat.le_refl _, Nat.le_refl _⟩
      all_goals rfl
    have g6 := of_decide_eq_true c67
    exact absurd ⟨g1, g2, g3, c38, by omega, by rw [Int.toNat_natCast]; exact g6⟩ hno

def soundA (σ : Nat → Int) (lo hi : Int) : Nat → Int := up (up (up σ (100 + 2 * (σ 7).toNat) lo) (101 + 2 * (σ 7).toNat) hi) 7 (σ 7 + 1)
theorem m_sound (lo hi : Int) (h1 : InR lo) (h2 : InR hi) (S : ST) (M : MT) (h7 : 0 ≤ M 78 7 ∧ M 78 7 ≤ 8) : Ct E1 yX12_sound cX12_sound 3 (some .int) rm_X12_sound [.ref 77, .int (z lo), .int (z hi)] S M (Pi (if (0 ≤ lo ∧ lo ≤ 20) ∧ (lo ≤ hi ∧ hi ≤ 20) ∧ M 78 7 ≠ 8 then M 78 7 + 1 else -1) S (if (0 ≤ lo ∧ lo ≤ 20) ∧ (lo ≤ hi ∧ hi ≤ 20) ∧ M 78 7 ≠ 8 then up M 78 (soundA (M 78) lo hi) else M)) := by
  refine Ct.mk [.ref 77, .int (z lo), .int (z hi)] (by decide) rfl (Nat.le_of_ble_eq_true rfl) (fun X K => ?_)
  refine wp_iload_n (n := 1) K dX12_sound_0 rfl rfl ?_
  refine wp_iconst (n := 2) K dX12_sound_1 rfl ?_
  refine wp_bipush (n := 4) K dX12_sound_2 rfl rfl ?_
  refine wp_invS_i (n := 7) K dX12_sound_4 rfl cf_X12_62 (m_isIn _ _ _ (by unfold InR; omega) (by unfold InR; omega) (by unfold InR; omega) _ _) rfl rfl (by decide) ⟨Nat.le_refl _, Nat.le_refl _⟩ (Nat.le_of_ble_eq_true rfl) ?_
  refine wp_if_eq_b (n := 10) K dX12_sound_7 rfl (tgt := 32) (by decide) (fun c7 => ?_) (fun c7 => ?_)
  · have c := of_decide_eq_false c7
    rw [if_neg (by omega), if_neg (by omega)] at K
    refine wp_iconst (n := 33) K dX12_sound_32 rfl ?_
    refine ret_i K dX12_sound_33 ?_ rfl ?_ ⟨Nat.le_refl _, Nat.le_refl _⟩
    all_goals rfl
  have g1 := of_decide_eq_true c7
  refine wp_iload_n (n := 11) K dX12_sound_10 rfl rfl ?_
  refine wp_iload_n (n := 12) K dX12_sound_11 rfl rfl ?_
  refine wp_bipush (n := 14) K dX12_sound_12 rfl rfl ?_
  refine wp_invS_i (n := 17) K dX12_sound_14 rfl cf_X12_62 (m_isIn _ _ _ (by unfold InR; omega) (by unfold InR; omega) (by unfold InR; omega) _ _) rfl rfl (by decide) ⟨Nat.le_refl _, Nat.le_refl _⟩ (Nat.le_of_ble_eq_true rfl) ?_
  refine wp_if_eq_b (n := 20) K dX12_sound_17 rfl (tgt := 32) (by decide) (fun c17 => ?_) (fun c17 => ?_)
  · have c := of_decide_eq_false c17
    rw [if_neg (by omega), if_neg (by omega)] at K
    refine wp_iconst (n := 33) K dX12_sound_32 rfl ?_
    refine ret_i K dX12_sound_33 ?_ rfl ?_ ⟨Nat.le_refl _, Nat.le_refl _⟩
    all_goals rfl
  have g2 := of_decide_eq_true c17
  refine wp_aload_n (n := 21) K dX12_sound_20 rfl rfl ?_
  refine wp_getF (n := 24) K dX12_sound_21 rfl fl_X12_7 rfl (liS rfl) rfl rfl ?_
  refine wp_bipush (n := 26) K dX12_sound_24 rfl rfl ?_
  refine wp_iald (n := 27) K dX12_sound_26 rfl rfl (liS rfl) ⟨by omega, by omega, by omega⟩ ?_
  try simp only [up_same, up_up, Int.reduceToNat, Int.toNat_natCast]
  refine wp_bipush (n := 29) K dX12_sound_27 rfl rfl ?_
  refine wp_icmp_ne (n := 32) K dX12_sound_29 rfl (tgt := 34) (by decide) ⟨by omega, by omega⟩ ⟨by omega, by omega⟩ (fun c29 => ?_) (fun c29 => ?_)
  · rw [if_pos (by omega), if_pos (by omega)] at K
    have i0 : (100 + 2 * M 78 7).toNat = 100 + 2 * (M 78 7).toNat := by omega
    have i1 : (100 + 2 * M 78 7 + 1).toNat = 101 + 2 * (M 78 7).toNat := by omega
    have u : ∀ (f : Nat → Int) (v : Int) (k : Nat), 10 ≤ k → up f k v 7 = f 7 := fun f v k hk => up_ne f v (by omega)
    refine wp_aload_n (n := 35) K dX12_sound_34 rfl rfl ?_
    refine wp_getF (n := 38) K dX12_sound_35 rfl fl_X12_7 rfl (liS rfl) rfl rfl ?_
    refine wp_bipush (n := 40) K dX12_sound_38 rfl rfl ?_
    refine wp_iconst (n := 41) K dX12_sound_40 rfl ?_
    refine wp_aload_n (n := 42) K dX12_sound_41 rfl rfl ?_
    refine wp_getF (n := 45) K dX12_sound_42 rfl fl_X12_7 rfl (liS rfl) rfl rfl ?_
    refine wp_bipush (n := 47) K dX12_sound_45 rfl rfl ?_
    refine wp_iald (n := 48) K dX12_sound_47 rfl rfl (liS rfl) ⟨by omega, by omega, by omega⟩ ?_
    try simp only [up_same, up_up, Int.reduceToNat, Int.toNat_natCast]
    refine wp_imul (n := 49) K dX12_sound_48 rfl ?_
    refine wp_iadd (n := 50) K dX12_sound_49 rfl ?_
    refine wp_iload_n (n := 51) K dX12_sound_50 rfl rfl ?_
    refine wp_iast (n := 52) K dX12_sound_51 rfl rfl (liS rfl) (fun _ => rfl) ⟨by omega, by omega, by omega⟩ ?_
    try simp only [up_same, up_up, Int.reduceToNat, Int.toNat_natCast]
    rw [i0]
    refine wp_aload_n (n := 53) K dX12_sound_52 rfl rfl ?_
    refine wp_getF (n := 56) K dX12_sound_53 rfl fl_X12_7 rfl (liS rfl) rfl rfl ?_
    refine wp_bipush (n := 58) K dX12_sound_56 rfl rfl ?_
    refine wp_iconst (n := 59) K dX12_sound_58 rfl ?_
    refine wp_aload_n (n := 60) K dX12_sound_59 rfl rfl ?_
    refine wp_getF (n := 63) K dX12_sound_60 rfl fl_X12_7 rfl (liS rfl) rfl rfl ?_
    refine wp_bipush (n := 65) K dX12_sound_63 rfl rfl ?_
    refine wp_iald (n := 66) K dX12_sound_65 rfl rfl (liS rfl) ⟨by omega, by omega, by omega⟩ ?_
    try simp only [up_same, up_up, Int.reduceToNat, Int.toNat_natCast]
    refine wp_imul (n := 67) K dX12_sound_66 rfl ?_
    refine wp_iadd (n := 68) K dX12_sound_67 rfl ?_
    refine wp_iconst (n := 69) K dX12_sound_68 rfl ?_
    refine wp_iadd (n := 70) K dX12_sound_69 rfl ?_
    refine wp_iload_n (n := 71) K dX12_sound_70 rfl rfl ?_
    refine wp_iast (n := 72) K dX12_sound_71 rfl rfl (liS rfl) (fun _ => rfl) ⟨by rw [u _ _ _ (by omega)]; omega, by rw [u _ _ _ (by omega)]; omega, by rw [u _ _ _ (by omega)]; omega⟩ ?_
    try simp only [up_same, up_up, Int.reduceToNat, Int.toNat_natCast]
    rw [u _ _ _ (by omega), i1]
    refine wp_aload_n (n := 73) K dX12_sound_72 rfl rfl ?_
    refine wp_getF (n := 76) K dX12_sound_73 rfl fl_X12_7 rfl (liS rfl) rfl rfl ?_
    refine wp_bipush (n := 78) K dX12_sound_76 rfl rfl ?_
    refine wp_dup2 (n := 79) K dX12_sound_78 rfl rfl rfl ?_
    refine wp_iald (n := 80) K dX12_sound_79 rfl rfl (liS rfl) ⟨by omega, by omega, by omega⟩ ?_
    try simp only [up_same, up_up, Int.reduceToNat, Int.toNat_natCast]
    refine wp_iconst (n := 81) K dX12_sound_80 rfl ?_
    refine wp_iadd (n := 82) K dX12_sound_81 rfl ?_
    refine wp_iast (n := 83) K dX12_sound_82 rfl rfl (liS rfl) (fun _ => rfl) ⟨by omega, by omega, by omega⟩ ?_
    try simp only [up_same, up_up, Int.reduceToNat, Int.toNat_natCast]
    refine wp_aload_n (n := 84) K dX12_sound_83 rfl rfl ?_
    refine wp_getF (n := 87) K dX12_sound_84 rfl fl_X12_7 rfl (liS rfl) rfl rfl ?_
    refine wp_bipush (n := 89) K dX12_sound_87 rfl rfl ?_
    refine wp_iald (n := 90) K dX12_sound_89 rfl rfl (liS rfl) ⟨by omega, by omega, by omega⟩ ?_
    try simp only [up_same, up_up, Int.reduceToNat, Int.toNat_natCast]
    refine ret_i K dX12_sound_90 ?_ rfl ?_ ⟨Nat.le_refl _, Nat.le_refl _⟩
    · rw [u _ _ _ (by omega), u _ _ _ (by omega)]
    · rw [u _ _ _ (by omega), u _ _ _ (by omega)]; rfl
  · rw [if_neg (by omega), if_neg (by omega)] at K
    refine wp_iconst (n := 33) K dX12_sound_32 rfl ?_
    refine ret_i K dX12_sound_33 ?_ rfl ?_ ⟨Nat.le_refl _, Nat.le_refl _⟩
    all_goals rfl

def canL (σ : Nat → Int) (h t : Int) : Prop := (0 ≤ h ∧ h < σ 3) ∧ (0 ≤ t ∧ t < σ 3) ∧ (nrN σ h.toNat).testBit t.toNat = true ∧ 0 < σ (70 + 3 * h.toNat)
theorem m_canLend (h t : Int) (h1 : InR h) (h2 : InR t) (S : ST) (M : MT) (hw : WH (M 78)) (b : Bool) (hb : b = true ↔ canL (M 78) h t) : Ct E1 yX12_canLend cX12_canLend 3 (some .boolean) rm_X12_canLend [.ref 77, .int (z h), .int (z t)] S M (Pi (bI b) S M) := by
  have h3 := hw.1
  have hn3 : M 78 3 = ((M 78 3).toNat : Int) := by omega
  have no : ¬ canL (M 78) h t → b = false := fun q => by cases b; rfl; exact absurd (hb.mp rfl) q
  refine Ct.mk [.ref 77, .int (z h), .int (z t)] (by decide) rfl (Nat.le_of_ble_eq_true rfl) (fun X K => ?_)
  refine wp_aload_n (n := 1) K dX12_canLend_0 rfl rfl ?_
  refine wp_iload_n (n := 2) K dX12_canLend_1 rfl rfl ?_
  refine wp_invV_i (n := 5) K dX12_canLend_2 rfl cf_X12_80 (m_isHouse _ (by unfold InR; omega) _ (by omega) _ _ hn3) rfl rfl rfl (liS rfl) rfl (by decide) ⟨Nat.le_refl _, Nat.le_refl _⟩ (Nat.le_of_ble_eq_true rfl) ?_
  refine wp_if_eq_b (n := 8) K dX12_canLend_5 rfl (tgt := 50) (by decide) (fun c5 => ?_) (fun c5 => ?_)
  · have c := of_decide_eq_false c5
    rw [no (fun q => by have := q.1; omega)] at K
    refine wp_iconst (n := 51) K dX12_canLend_50 rfl ?_
    refine ret_z K dX12_canLend_51 ?_ rfl ?_ ⟨Nat.le_refl _, Nat.le_refl _⟩
    all_goals rfl
  have g1 := of_decide_eq_true c5
  refine wp_aload_n (n := 9) K dX12_canLend_8 rfl rfl ?_
  refine wp_iload_n (n := 10) K dX12_canLend_9 rfl rfl ?_
  refine wp_invV_i (n := 13) K dX12_canLend_10 rfl cf_X12_80 (m_isHouse _ (by unfold InR; omega) _ (by omega) _ _ hn3) rfl rfl rfl (liS rfl) rfl (by decide) ⟨Nat.le_refl _, Nat.le_refl _⟩ (Nat.le_of_ble_eq_true rfl) ?_
  refine wp_if_eq_b (n := 16) K dX12_canLend_13 rfl (tgt := 50) (by decide) (fun c13 => ?_) (fun c13 => ?_)
  · have c := of_decide_eq_false c13
    rw [no (fun q => by have := q.2.1; omega)] at K
    refine wp_iconst (n := 51) K dX12_canLend_50 rfl ?_
    refine ret_z K dX12_canLend_51 ?_ rfl ?_ ⟨Nat.le_refl _, Nat.le_refl _⟩
    all_goals rfl
  have g2 := of_decide_eq_true c13
  obtain ⟨a, rfl⟩ : ∃ a : Nat, h = a := ⟨h.toNat, by omega⟩
  obtain ⟨d, rfl⟩ : ∃ a : Nat, t = a := ⟨t.toNat, by omega⟩
  obtain ⟨n1, n2⟩ := hw.nr (show a < 10 by omega)
  obtain ⟨w1, -⟩ := hw.2 a (by omega)
  have i2 : (70 + 3 * (a : Int) + 2).toNat = 72 + 3 * a := by omega
  have i0 : (70 + 3 * (a : Int)).toNat = 70 + 3 * a := by omega
  refine wp_aload_n (n := 17) K dX12_canLend_16 rfl rfl ?_
  refine wp_getF (n := 20) K dX12_canLend_17 rfl fl_X12_7 rfl (liS rfl) rfl rfl ?_
  refine wp_iload_n (n := 21) K dX12_canLend_20 rfl rfl ?_
  refine wp_invS_i (n := 24) K dX12_canLend_21 rfl cf_X12_77 (m_houseAt _ _ _) rfl rfl (by decide) ⟨Nat.le_refl _, Nat.le_refl _⟩ (Nat.le_of_ble_eq_true rfl) ?_
  refine wp_iconst (n := 25) K dX12_canLend_24 rfl ?_
  refine wp_iadd (n := 26) K dX12_canLend_25 rfl ?_
  refine wp_iald (n := 27) K dX12_canLend_26 rfl rfl (liS rfl) ⟨by omega, by omega, by omega⟩ ?_
  try simp only [up_same, up_up, Int.reduceToNat, Int.toNat_natCast]
  rw [i2, n1]
  refine wp_iload_n (n := 28) K dX12_canLend_27 rfl rfl ?_
  refine wp_invS_i (n := 31) K dX12_canLend_28 rfl cf_X12_249 (m_has _ _ (by omega) (by omega) _ _) rfl rfl (by decide) ⟨Nat.le_refl _, Nat.le_refl _⟩ (Nat.le_of_ble_eq_true rfl) ?_
  refine wp_if_eq_b (n := 34) K dX12_canLend_31 rfl (tgt := 50) (by decide) (fun c31 => ?_) (fun c31 => ?_)
  · rw [no (fun q => by have := q.2.2.1; rw [Int.toNat_natCast, Int.toNat_natCast, c31] at this; cases this)] at K
    refine wp_iconst (n := 51) K dX12_canLend_50 rfl ?_
    refine ret_z K dX12_canLend_51 ?_ rfl ?_ ⟨Nat.le_refl _, Nat.le_refl _⟩
    all_goals rfl
  refine wp_aload_n (n := 35) K dX12_canLend_34 rfl rfl ?_
  refine wp_getF (n := 38) K dX12_canLend_35 rfl fl_X12_7 rfl (liS rfl) rfl rfl ?_
  refine wp_iload_n (n := 39) K dX12_canLend_38 rfl rfl ?_
  refine wp_invS_i (n := 42) K dX12_canLend_39 rfl cf_X12_77 (m_houseAt _ _ _) rfl rfl (by decide) ⟨Nat.le_refl _, Nat.le_refl _⟩ (Nat.le_of_ble_eq_true rfl) ?_
  refine wp_iald (n := 43) K dX12_canLend_42 rfl rfl (liS rfl) ⟨by omega, by omega, by omega⟩ ?_
  try simp only [up_same, up_up, Int.reduceToNat, Int.toNat_natCast]
  rw [i0]
  refine wp_if_le (n := 46) K dX12_canLend_43 rfl (tgt := 50) (by decide) ⟨by omega, by omega⟩ (fun c43 => ?_) (fun c43 => ?_)
  · rw [no (fun q => by have := q.2.2.2; rw [Int.toNat_natCast] at this; omega)] at K
    refine wp_iconst (n := 51) K dX12_canLend_50 rfl ?_
    refine ret_z K dX12_canLend_51 ?_ rfl ?_ ⟨Nat.le_refl _, Nat.le_refl _⟩
    all_goals rfl
  · rw [hb.mpr ⟨by omega, by omega, by rw [Int.toNat_natCast, Int.toNat_natCast]; exact c31, by rw [Int.toNat_natCast]; omega⟩] at K
    refine wp_iconst (n := 47) K dX12_canLend_46 rfl ?_
    refine wp_goto K dX12_canLend_47 (tgt := 51) (by decide) ?_
    refine ret_z K dX12_canLend_51 ?_ rfl ?_ ⟨Nat.le_refl _, Nat.le_refl _⟩
    all_goals rfl

def lendsA (σ : Nat → Int) (h t : Nat) : Nat → Int :=
  let σ1 := up σ (70 + 3 * h) (σ (70 + 3 * h) - 1)
  let σ2 := up σ1 (71 + 3 * h) (σ1 (71 + 3 * h) - 1)
  let σ3 := up σ2 (70 + 3 * t) (σ2 (70 + 3 * t) + 1)
  up σ3 (71 + 3 * t) (σ3 (71 + 3 * t) + 1)
theorem m_lends (h t : Nat) (h1 : h < 10) (h2 : t < 10) (S : ST) (M : MT) : Ct E1 yX12_lends cX12_lends 3 none rm_X12_lends [.ref 77, .int (z (h : Int)), .int (z (t : Int))] S M (Pn S (up M 78 (lendsA (M 78) h t))) := by
  have i0 : (70 + 3 * (h : Int)).toNat = 70 + 3 * h := by omega
  have i1 : (70 + 3 * (h : Int) + 1).toNat = 71 + 3 * h := by omega
  have i2 : (70 + 3 * (t : Int)).toNat = 70 + 3 * t := by omega
  have i3 : (70 + 3 * (t : Int) + 1).toNat = 71 + 3 * t := by omega
  refine Ct.mk [.ref 77, .int (z (h : Int)), .int (z (t : Int))] (by decide) rfl (Nat.le_of_ble_eq_true rfl) (fun X K => ?_)
  refine wp_aload_n (n := 1) K dX12_lends_0 rfl rfl ?_
  refine wp_getF (n := 4) K dX12_lends_1 rfl fl_X12_7 rfl (liS rfl) rfl rfl ?_
  refine wp_iload_n (n := 5) K dX12_lends_4 rfl rfl ?_
  refine wp_invS_i (n := 8) K dX12_lends_5 rfl cf_X12_77 (m_houseAt _ _ _) rfl rfl (by decide) ⟨Nat.le_refl _, Nat.le_refl _⟩ (Nat.le_of_ble_eq_true rfl) ?_
  refine wp_dup2 (n := 9) K dX12_lends_8 rfl rfl rfl ?_
  refine wp_iald (n := 10) K dX12_lends_9 rfl rfl (liS rfl) ⟨by omega, by omega, by omega⟩ ?_
  try simp only [up_same, up_up, Int.reduceToNat, Int.toNat_natCast]
  refine wp_iconst (n := 11) K dX12_lends_10 rfl ?_
  refine wp_isub (n := 12) K dX12_lends_11 rfl ?_
  refine wp_iast (n := 13) K dX12_lends_12 rfl rfl (liS rfl) (fun _ => rfl) ⟨by omega, by omega, by omega⟩ ?_
  try simp only [up_same, up_up, Int.reduceToNat, Int.toNat_natCast]
  refine wp_aload_n (n := 14) K dX12_lends_13 rfl rfl ?_
  refine wp_getF (n := 17) K dX12_lends_14 rfl fl_X12_7 rfl (liS rfl) rfl rfl ?_
  refine wp_iload_n (n := 18) K dX12_lends_17 rfl rfl ?_
  refine wp_invS_i (n := 21) K dX12_lends_18 rfl cf_X12_77 (m_houseAt _ _ _) rfl rfl (by decide) ⟨Nat.le_refl _, Nat.le_refl _⟩ (Nat.le_of_ble_eq_true rfl) ?_
  refine wp_iconst (n := 22) K dX12_lends_21 rfl ?_
  refine wp_iadd (n := 23) K dX12_lends_22 rfl ?_
  refine wp_dup2 (n := 24) K dX12_lends_23 rfl rfl rfl ?_
  refine wp_iald (n := 25) K dX12_lends_24 rfl rfl (liS rfl) ⟨by omega, by omega, by omega⟩ ?_
  try simp only [up_same, up_up, Int.reduceToNat, Int.toNat_natCast]
  refine wp_iconst (n := 26) K dX12_lends_25 rfl ?_
  refine wp_isub (n := 27) K dX12_lends_26 rfl ?_
  refine wp_iast (n := 28) K dX12_lends_27 rfl rfl (liS rfl) (fun _ => rfl) ⟨by omega, by omega, by omega⟩ ?_
  try simp only [up_same, up_up, Int.reduceToNat, Int.toNat_natCast]
  refine wp_aload_n (n := 29) K dX12_lends_28 rfl rfl ?_
  refine wp_getF (n := 32) K dX12_lends_29 rfl fl_X12_7 rfl (liS rfl) rfl rfl ?_
  refine wp_iload_n (n := 33) K dX12_lends_32 rfl rfl ?_
  refine wp_invS_i (n := 36) K dX12_lends_33 rfl cf_X12_77 (m_houseAt _ _ _) rfl rfl (by decide) ⟨Nat.le_refl _, Nat.le_refl _⟩ (Nat.le_of_ble_eq_true rfl) ?_
  refine wp_dup2 (n := 37) K dX12_lends_36 rfl rfl rfl ?_
  refine wp_iald (n := 38) K dX12_lends_37 rfl rfl (liS rfl) ⟨by omega, by omega, by omega⟩ ?_
  try simp only [up_same, up_up, Int.reduceToNat, Int.toNat_natCast]
  refine wp_iconst (n := 39) K dX12_lends_38 rfl ?_
  refine wp_iadd (n := 40) K dX12_lends_39 rfl ?_
  refine wp_iast (n := 41) K dX12_lends_40 rfl rfl (liS rfl) (fun _ => rfl) ⟨by omega, by omega, by omega⟩ ?_
  try simp only [up_same, up_up, Int.reduceToNat, Int.toNat_natCast]
  refine wp_aload_n (n := 42) K dX12_lends_41 rfl rfl ?_
  refine wp_getF (n := 45) K dX12_lends_42 rfl fl_X12_7 rfl (liS rfl) rfl rfl ?_
  refine wp_iload_n (n := 46) K dX12_lends_45 rfl rfl ?_
  refine wp_invS_i (n := 49) K dX12_lends_46 rfl cf_X12_77 (m_houseAt _ _ _) rfl rfl (by decide) ⟨Nat.le_refl _, Nat.le_refl _⟩ (Nat.le_of_ble_eq_true rfl) ?_
  refine wp_iconst (n := 50) K dX12_lends_49 rfl ?_
  refine wp_iadd (n := 51) K dX12_lends_50 rfl ?_
  refine wp_dup2 (n := 52) K dX12_lends_51 rfl rfl rfl ?_
  refine wp_iald (n := 53) K dX12_lends_52 rfl rfl (liS rfl) ⟨by omega, by omega, by omega⟩ ?_
  try simp only [up_same, up_up, Int.reduceToNat, Int.toNat_natCast]
  refine wp_iconst (n := 54) K dX12_lends_53 rfl ?_
  refine wp_iadd (n := 55) K dX12_lends_54 rfl ?_
  refine wp_iast (n := 56) K dX12_lends_55 rfl rfl (liS rfl) (fun _ => rfl) ⟨by omega, by omega, by omega⟩ ?_
  try simp only [up_same, up_up, Int.reduceToNat, Int.toNat_natCast]
  refine ret_n K dX12_lends_56 rfl ?_ ⟨Nat.le_refl _, Nat.le_refl _⟩
  rw [i0, i1, i2, i3]; rfl
