/-! which NAME, which clause, which comparison -/
theorem lc_wd {M : MT} {k : Nat} {v : Int} (h : TK M k v) (h2 : M 77 9 = 2) {i : Nat} (hi : i < 18) : (lg_cmp (zl (M 77 11)) (zl (pkR (WR i)))).toInt = 0 ↔ k = i := by
  have hw := tk_wd h hi
  have hp := pkR_7 (WR_ok i hi).1 (WR_ok i hi).2.1
  have hq := tk_rw h h2
  rw [lcmp_eq, w64_id (by omega) (by omega), w64_id (by omega) (by omega)]
  exact ⟨fun e => hw.mp ⟨h2, e⟩, fun e => (hw.mpr e).2⟩
theorem TK.no {M : MT} {k : Nat} {v : Int} (h : TK M k v) (h2 : M 77 9 ≠ 2) : ¬ k < 18 := fun q => h2 ((tk_wd h q).mpr rfl).1

theorem m_nameOf (k : Nat) (v : Int) (S : ST) (M : MT) (h : TK M k v) : Ct E1 yX12_nameOf cX12_nameOf 1 (some .int) rm_X12_nameOf [.ref 77] S M (Pi (if k < 8 then (k : Int) else -1) S M) := by
  refine Ct.mk [.ref 77] (by decide) rfl (Nat.le_of_ble_eq_true rfl) (fun X K => ?_)
  have hr := h.r
  refine wp_aload_n (n := 1) K dX12_nameOf_0 rfl rfl ?_
  refine wp_getI (n := 4) K dX12_nameOf_1 rfl fl_X12_104 rfl (liS rfl) rfl ?_
  try simp only [up_same, up_up, up_ne, ne_eq, Nat.reduceEqDiff, not_false_eq_true, Int.reduceToNat, Int.toNat_natCast]
  refine wp_iconst (n := 5) K dX12_nameOf_4 rfl ?_
  refine wp_icmp_eq (n := 8) K dX12_nameOf_5 rfl (tgt := 10) (by decide) ⟨by omega, by omega⟩ ⟨by omega, by omega⟩ (fun c5 => ?_) (fun c5 => ?_)
  rotate_left
  · have := h.no c5
    rw [if_neg (by omega)] at K
    refine wp_iconst (n := 9) K dX12_nameOf_8 rfl ?_
    refine ret_i K dX12_nameOf_9 ?_ rfl ?_ ⟨Nat.le_refl _, Nat.le_refl _⟩
    all_goals rfl
  refine wp_aload_n (n := 11) K dX12_nameOf_10 rfl rfl ?_
  refine wp_getL (n := 14) K dX12_nameOf_11 rfl fl_X12_117 rfl (liS rfl) rfl ?_
  try simp only [up_same, up_up, up_ne, ne_eq, Nat.reduceEqDiff, not_false_eq_true, Int.reduceToNat, Int.toNat_natCast]
  refine wp_bipush (n := 16) K dX12_nameOf_14 rfl rfl ?_
  refine wp_bipush (n := 18) K dX12_nameOf_16 rfl rfl ?_
  refine wp_bipush (n := 20) K dX12_nameOf_18 rfl rfl ?_
  refine wp_bipush (n := 22) K dX12_nameOf_20 rfl rfl ?_
  refine wp_bipush (n := 24) K dX12_nameOf_22 rfl rfl ?_
  refine wp_invS_l (n := 27) K dX12_nameOf_24 rfl cf_X12_125 (m_w5 _ _ _ _ _ ⟨by decide, by decide⟩ ⟨by decide, by decide⟩ ⟨by decide, by decide⟩ ⟨by decide, by decide⟩ ⟨by decide, by decide⟩ _ _) rfl rfl (by decide) ⟨Nat.le_refl _, Nat.le_refl _⟩ (Nat.le_of_ble_eq_true rfl) ?_
  refine wp_lcmp (n := 28) K dX12_nameOf_27 rfl ?_
  refine wp_if_ne (n := 31) K dX12_nameOf_28 rfl (tgt := 33) (by decide) (lcmp_r _ _) (fun c28 => ?_) (fun c28 => ?_)
  rotate_left
  · have e := (lc_wd h c5 (i := 0) (by decide)).mp c28
    rw [e, if_pos (by decide)] at K
    refine wp_iconst (n := 32) K dX12_nameOf_31 rfl ?_
    refine ret_i K dX12_nameOf_32 ?_ rfl ?_ ⟨Nat.le_refl _, Nat.le_refl _⟩
    all_goals rfl
  have n0 : k ≠ 0 := fun e => c28 ((lc_wd h c5 (i := 0) (by decide)).mpr e)
  refine wp_aload_n (n := 34) K dX12_nameOf_33 rfl rfl ?_
  refine wp_getL (n := 37) K dX12_nameOf_34 rfl fl_X12_117 rfl (liS rfl) rfl ?_
  try simp only [up_same, up_up, up_ne, ne_eq, Nat.reduceEqDiff, not_false_eq_true, Int.reduceToNat, Int.toNat_natCast]
  refine wp_bipush (n := 39) K dX12_nameOf_37 rfl rfl ?_
  refine wp_bipush (n := 41) K dX12_nameOf_39 rfl rfl ?_
  refine wp_bipush (n := 43) K dX12_nameOf_41 rfl rfl ?_
  refine wp_bipush (n := 45) K dX12_nameOf_43 rfl rfl ?_
  refine wp_bipush (n := 47) K dX12_nameOf_45 rfl rfl ?_
  refine wp_bipush (n := 49) K dX12_nameOf_47 rfl rfl ?_
  refine wp_invS_l (n := 52) K dX12_nameOf_49 rfl cf_X12_149 (m_w6 _ _ _ _ _ _ ⟨by decide, by decide⟩ ⟨by decide, by decide⟩ ⟨by decide, by decide⟩ ⟨by decide, by decide⟩ ⟨by decide, by decide⟩ ⟨by decide, by decide⟩ _ _) rfl rfl (by decide) ⟨Nat.le_refl _, Nat.le_refl _⟩ (Nat.le_of_ble_eq_true rfl) ?_
  refine wp_lcmp (n := 53) K dX12_nameOf_52 rfl ?_
  refine wp_if_ne (n := 56) K dX12_nameOf_53 rfl (tgt := 58) (by decide) (lcmp_r _ _) (fun c53 => ?_) (fun c53 => ?_)
  rotate_left
  · have e := (lc_wd h c5 (i := 1) (by decide)).mp c53
    rw [e, if_pos (by decide)] at K
    refine wp_iconst (n := 57) K dX12_nameOf_56 rfl ?_
    refine ret_i K dX12_nameOf_57 ?_ rfl ?_ ⟨Nat.le_refl _, Nat.le_refl _⟩
    all_goals rfl
  have n1 : k ≠ 1 := fun e => c53 ((lc_wd h c5 (i := 1) (by decide)).mpr e)
  refine wp_aload_n (n := 59) K dX12_nameOf_58 rfl rfl ?_
  refine wp_getL (n := 62) K dX12_nameOf_59 rfl fl_X12_117 rfl (liS rfl) rfl ?_
  try simp only [up_same, up_up, up_ne, ne_eq, Nat.reduceEqDiff, not_false_eq_true, Int.reduceToNat, Int.toNat_natCast]
  refine wp_bipush (n := 64) K dX12_nameOf_62 rfl rfl ?_
  refine wp_bipush (n := 66) K dX12_nameOf_64 rfl rfl ?_
  refine wp_bipush (n := 68) K dX12_nameOf_66 rfl rfl ?_
  refine wp_bipush (n := 70) K dX12_nameOf_68 rfl rfl ?_
  refine wp_bipush (n := 72) K dX12_nameOf_70 rfl rfl ?_
  refine wp_bipush (n := 74) K dX12_nameOf_72 rfl rfl ?_
  refine wp_invS_l (n := 77) K dX12_nameOf_74 rfl cf_X12_149 (m_w6 _ _ _ _ _ _ ⟨by decide, by decide⟩ ⟨by decide, by decide⟩ ⟨by decide, by decide⟩ ⟨by decide, by decide⟩ ⟨by decide, by decide⟩ ⟨by decide, by decide⟩ _ _) rfl rfl (by decide) ⟨Nat.le_refl _, Nat.le_refl _⟩ (Nat.le_of_ble_eq_true rfl) ?_
  refine wp_lcmp (n := 78) K dX12_nameOf_77 rfl ?_
  refine wp_if_ne (n := 81) K dX12_nameOf_78 rfl (tgt := 83) (by decide) (lcmp_r _ _) (fun c78 => ?_) (fun c78 => ?_)
  rotate_left
  · have e := (lc_wd h c5 (i := 2) (by decide)).mp c78
    rw [e, if_pos (by decide)] at K
    refine wp_iconst (n := 82) K dX12_nameOf_81 rfl ?_
    refine ret_i K dX12_nameOf_82 ?_ rfl ?_ ⟨Nat.le_refl _, Nat.le_refl _⟩
    all_goals rfl
  have n2 : k ≠ 2 := fun e => c78 ((lc_wd h c5 (i := 2) (by decide)).mpr e)
  refine wp_aload_n (n := 84) K dX12_nameOf_83 rfl rfl ?_
  refine wp_getL (n := 87) K dX12_nameOf_84 rfl fl_X12_117 rfl (liS rfl) rfl ?_
  try simp only [up_same, up_up, up_ne, ne_eq, Nat.reduceEqDiff, not_false_eq_true, Int.reduceToNat, Int.toNat_natCast]
  refine wp_bipush (n := 89) K dX12_nameOf_87 rfl rfl ?_
  refine wp_bipush (n := 91) K dX12_nameOf_89 rfl rfl ?_
  refine wp_bipush (n := 93) K dX12_nameOf_91 rfl rfl ?_
  refine wp_bipush (n := 95) K dX12_nameOf_93 rfl rfl ?_
  refine wp_invS_l (n := 98) K dX12_nameOf_95 rfl cf_X12_153 (m_w4 _ _ _ _ ⟨by decide, by decide⟩ ⟨by decide, by decide⟩ ⟨by decide, by decide⟩ ⟨by decide, by decide⟩ _ _) rfl rfl (by decide) ⟨Nat.le_refl _, Nat.le_refl _⟩ (Nat.le_of_ble_eq_true rfl) ?_
  refine wp_lcmp (n := 99) K dX12_nameOf_98 rfl ?_
  refine wp_if_ne (n := 102) K dX12_nameOf_99 rfl (tgt := 104) (by decide) (lcmp_r _ _) (fun c99 => ?_) (fun c99 => ?_)
  rotate_left
  · have e := (lc_wd h c5 (i := 3) (by decide)).mp c99
    rw [e, if_pos (by decide)] at K
    refine wp_iconst (n := 103) K dX12_nameOf_102 rfl ?_
    refine ret_i K dX12_nameOf_103 ?_ rfl ?_ ⟨Nat.le_refl _, Nat.le_refl _⟩
    all_goals rfl
  have n3 : k ≠ 3 := fun e => c99 ((lc_wd h c5 (i := 3) (by decide)).mpr e)
  refine wp_aload_n (n := 105) K dX12_nameOf_104 rfl rfl ?_
  refine wp_getL (n := 108) K dX12_nameOf_105 rfl fl_X12_117 rfl (liS rfl) rfl ?_
  try simp only [up_same, up_up, up_ne, ne_eq, Nat.reduceEqDiff, not_false_eq_true, Int.reduceToNat, Int.toNat_natCast]
  refine wp_bipush (n := 110) K dX12_nameOf_108 rfl rfl ?_
  refine wp_bipush (n := 112) K dX12_nameOf_110 rfl rfl ?_
  refine wp_bipush (n := 114) K dX12_nameOf_112 rfl rfl ?_
  refine wp_bipush (n := 116) K dX12_nameOf_114 rfl rfl ?_
  refine wp_invS_l (n := 119) K dX12_nameOf_116 rfl cf_X12_153 (m_w4 _ _ _ _ ⟨by decide, by decide⟩ ⟨by decide, by decide⟩ ⟨by decide, by decide⟩ ⟨by decide, by decide⟩ _ _) rfl rfl (by decide) ⟨Nat.le_refl _, Nat.le_refl _⟩ (Nat.le_of_ble_eq_true rfl) ?_
  refine wp_lcmp (n := 120) K dX12_nameOf_119 rfl ?_
  refine wp_if_ne (n := 123) K dX12_nameOf_120 rfl (tgt := 125) (by decide) (lcmp_r _ _) (fun c120 => ?_) (fun c120 => ?_)
  rotate_left
  · have e := (lc_wd h c5 (i := 4) (by decide)).mp c120
    rw [e, if_pos (by decide)] at K
    refine wp_iconst (n := 124) K dX12_nameOf_123 rfl ?_
    refine ret_i K dX12_nameOf_124 ?_ rfl ?_ ⟨Nat.le_refl _, Nat.le_refl _⟩
    all_goals rfl
  have n4 : k ≠ 4 := fun e => c120 ((lc_wd h c5 (i := 4) (by decide)).mpr e)
  refine wp_aload_n (n := 126) K dX12_nameOf_125 rfl rfl ?_
  refine wp_getL (n := 129) K dX12_nameOf_126 rfl fl_X12_117 rfl (liS rfl) rfl ?_
  try simp only [up_same, up_up, up_ne, ne_eq, Nat.reduceEqDiff, not_false_eq_true, Int.reduceToNat, Int.toNat_natCast]
  refine wp_bipush (n := 131) K dX12_nameOf_129 rfl rfl ?_
  refine wp_bipush (n := 133) K dX12_nameOf_131 rfl rfl ?_
  refine wp_bipush (n := 135) K dX12_nameOf_133 rfl rfl ?_
  refine wp_invS_l (n := 138) K dX12_nameOf_135 rfl cf_X12_121 (m_w3 _ _ _ ⟨by decide, by decide⟩ ⟨by decide, by decide⟩ ⟨by decide, by decide⟩ _ _) rfl rfl (by decide) ⟨Nat.le_refl _, Nat.le_refl _⟩ (Nat.le_of_ble_eq_true rfl) ?_
  refine wp_lcmp (n := 139) K dX12_nameOf_138 rfl ?_
  refine wp_if_ne (n := 142) K dX12_nameOf_139 rfl (tgt := 144) (by decide) (lcmp_r _ _) (fun c139 => ?_) (fun c139 => ?_)
  rotate_left
  · have e := (lc_wd h c5 (i := 5) (by decide)).mp c139
    rw [e, if_pos (by decide)] at K
    refine wp_iconst (n := 143) K dX12_nameOf_142 rfl ?_
    refine ret_i K dX12_nameOf_143 ?_ rfl ?_ ⟨Nat.le_refl _, Nat.le_refl _⟩
    all_goals rfl
  have n5 : k ≠ 5 := fun e => c139 ((lc_wd h c5 (i := 5) (by decide)).mpr e)
  refine wp_aload_n (n := 145) K dX12_nameOf_144 rfl rfl ?_
  refine wp_getL (n := 148) K dX12_nameOf_145 rfl fl_X12_117 rfl (liS rfl) rfl ?_
  try simp only [up_same, up_up, up_ne, ne_eq, Nat.reduceEqDiff, not_false_eq_true, Int.reduceToNat, Int.toNat_natCast]
  refine wp_bipush (n := 150) K dX12_nameOf_148 rfl rfl ?_
  refine wp_bipush (n := 152) K dX12_nameOf_150 rfl rfl ?_
  refine wp_bipush (n := 154) K dX12_nameOf_152 rfl rfl ?_
  refine wp_bipush (n := 156) K dX12_nameOf_154 rfl rfl ?_
  refine wp_invS_l (n := 159) K dX12_nameOf_156 rfl cf_X12_153 (m_w4 _ _ _ _ ⟨by decide, by decide⟩ ⟨by decide, by decide⟩ ⟨by decide, by decide⟩ ⟨by decide, by decide⟩ _ _) rfl rfl (by decide) ⟨Nat.le_refl _, Nat.le_refl _⟩ (Nat.le_of_ble_eq_true rfl) ?_
  refine wp_lcmp (n := 160) K dX12_nameOf_159 rfl ?_
  refine wp_if_ne (n := 163) K dX12_nameOf_160 rfl (tgt := 168) (by decide) (lcmp_r _ _) (fun c160 => ?_) (fun c160 => ?_)
  rotate_left
  · have e := (lc_wd h c5 (i := 6) (by decide)).mp c160
    rw [e, if_pos (by decide)] at K
    refine wp_bipush (n := 165) K dX12_nameOf_163 rfl rfl ?_
    refine wp_goto K dX12_nameOf_165 (tgt := 197) (by decide) ?_
    refine ret_i K dX12_nameOf_197 ?_ rfl ?_ ⟨Nat.le_refl _, Nat.le_refl _⟩
    all_goals rfl
  have n6 : k ≠ 6 := fun e => c160 ((lc_wd h c5 (i := 6) (by decide)).mpr e)
  refine wp_aload_n (n := 169) K dX12_nameOf_168 rfl rfl ?_
  refine wp_getL (n := 172) K dX12_nameOf_169 rfl fl_X12_117 rfl (liS rfl) rfl ?_
  try simp only [up_same, up_up, up_ne, ne_eq, Nat.reduceEqDiff, not_false_eq_true, Int.reduceToNat, Int.toNat_natCast]
  refine wp_bipush (n := 174) K dX12_nameOf_172 rfl rfl ?_
  refine wp_bipush (n := 176) K dX12_nameOf_174 rfl rfl ?_
  refine wp_bipush (n := 178) K dX12_nameOf_176 rfl rfl ?_
  refine wp_bipush (n := 180) K dX12_nameOf_178 rfl rfl ?_
  refine wp_bipush (n := 182) K dX12_nameOf_180 rfl rfl ?_
  refine wp_bipush (n := 184) K dX12_nameOf_182 rfl rfl ?_
  refine wp_invS_l (n := 187) K dX12_nameOf_184 rfl cf_X12_149 (m_w6 _ _ _ _ _ _ ⟨by decide, by decide⟩ ⟨by decide, by decide⟩ ⟨by decide, by decide⟩ ⟨by decide, by decide⟩ ⟨by decide, by decide⟩ ⟨by decide, by decide⟩ _ _) rfl rfl (by decide) ⟨Nat.le_refl _, Nat.le_refl _⟩ (Nat.le_of_ble_eq_true rfl) ?_
  refine wp_lcmp (n := 188) K dX12_nameOf_187 rfl ?_
  refine wp_if_ne (n := 191) K dX12_nameOf_188 rfl (tgt := 196) (by decide) (lcmp_r _ _) (fun c188 => ?_) (fun c188 => ?_)
  rotate_left
  · have e := (lc_wd h c5 (i := 7) (by decide)).mp c188
    rw [e, if_pos (by decide)] at K
    refine wp_bipush (n := 193) K dX12_nameOf_191 rfl rfl ?_
    refine wp_goto K dX12_nameOf_193 (tgt := 197) (by decide) ?_
    refine ret_i K dX12_nameOf_197 ?_ rfl ?_ ⟨Nat.le_refl _, Nat.le_refl _⟩
    all_goals rfl
  have n7 : k ≠ 7 := fun e => c188 ((lc_wd h c5 (i := 7) (by decide)).mpr e)
  rw [if_neg (by omega)] at K
  refine wp_iconst (n := 197) K dX12_nameOf_196 rfl ?_
  refine ret_i K dX12_nameOf_197 ?_ rfl ?_ ⟨Nat.le_refl _, Nat.le_refl _⟩
  all_goals rfl

theorem m_sortOf (k : Nat) (v : Int) (S : ST) (M : MT) (h : TK M k v) : Ct E1 yX12_sortOf cX12_sortOf 1 (some .int) rm_X12_sortOf [.ref 77] S M (Pi (if 8 ≤ k ∧ k ≤ 13 then (k : Int) - 8 else -1) S M) := by
  refine Ct.mk [.ref 77] (by decide) rfl (Nat.le_of_ble_eq_true rfl) (fun X K => ?_)
  refine wp_aload_n (n := 1) K dX12_sortOf_0 rfl rfl ?_
  refine wp_bipush (n := 3) K dX12_sortOf_1 rfl rfl ?_
  refine wp_bipush (n := 5) K dX12_sortOf_3 rfl rfl ?_
  refine wp_bipush (n := 7) K dX12_sortOf_5 rfl rfl ?_
  refine wp_bipush (n := 9) K dX12_sortOf_7 rfl rfl ?_
  refine wp_invS_l (n := 12) K dX12_sortOf_9 rfl cf_X12_153 (m_w4 _ _ _ _ ⟨by decide, by decide⟩ ⟨by decide, by decide⟩ ⟨by decide, by decide⟩ ⟨by decide, by decide⟩ _ _) rfl rfl (by decide) ⟨Nat.le_refl _, Nat.le_refl _⟩ (Nat.le_of_ble_eq_true rfl) ?_
  refine wp_invV_i (n := 15) K dX12_sortOf_12 rfl cf_X12_191 (m_isWord 8 k v (by decide) _ _ h) rfl rfl rfl (liS rfl) rfl (by decide) ⟨Nat.le_refl _, Nat.le_refl _⟩ (Nat.le_of_ble_eq_true rfl) ?_
  refine wp_if_eq_b (n := 18) K dX12_sortOf_15 rfl (tgt := 20) (by decide) (fun c15 => ?_) (fun c15 => ?_)
  rotate_left
  · have e := of_decide_eq_true c15
    rw [e, if_pos (by decide)] at K
    refine wp_iconst (n := 19) K dX12_sortOf_18 rfl ?_
    refine ret_i K dX12_sortOf_19 ?_ rfl ?_ ⟨Nat.le_refl _, Nat.le_refl _⟩
    all_goals rfl
  have n0 := of_decide_eq_false c15
  refine wp_aload_n (n := 21) K dX12_sortOf_20 rfl rfl ?_
  refine wp_bipush (n := 23) K dX12_sortOf_21 rfl rfl ?_
  refine wp_bipush (n := 25) K dX12_sortOf_23 rfl rfl ?_
  refine wp_bipush (n := 27) K dX12_sortOf_25 rfl rfl ?_
  refine wp_invS_l (n := 30) K dX12_sortOf_27 rfl cf_X12_121 (m_w3 _ _ _ ⟨by decide, by decide⟩ ⟨by decide, by decide⟩ ⟨by decide, by decide⟩ _ _) rfl rfl (by decide) ⟨Nat.le_refl _, Nat.le_refl _⟩ (Nat.le_of_ble_eq_true rfl) ?_
  refine wp_invV_i (n := 33) K dX12_sortOf_30 rfl cf_X12_191 (m_isWord 9 k v (by decide) _ _ h) rfl rfl rfl (liS rfl) rfl (by decide) ⟨Nat.le_refl _, Nat.le_refl _⟩ (Nat.le_of_ble_eq_true rfl) ?_
  refine wp_if_eq_b (n := 36) K dX12_sortOf_33 rfl (tgt := 38) (by decide) (fun c33 => ?_) (fun c33 => ?_)
  rotate_left
  · have e := of_decide_eq_true c33
    rw [e, if_pos (by decide)] at K
    refine wp_iconst (n := 37) K dX12_sortOf_36 rfl ?_
    refine ret_i K dX12_sortOf_37 ?_ rfl ?_ ⟨Nat.le_refl _, Nat.le_refl _⟩
    all_goals rfl
  have n1 := of_decide_eq_false c33
  refine wp_aload_n (n := 39) K dX12_sortOf_38 rfl rfl ?_
  refine wp_bipush (n := 41) K dX12_sortOf_39 rfl rfl ?_
  refine wp_bipush (n := 43) K dX12_sortOf_41 rfl rfl ?_
  refine wp_bipush (n := 45) K dX12_sortOf_43 rfl rfl ?_
  refine wp_bipush (n := 47) K dX12_sortOf_45 rfl rfl ?_
  refine wp_invS_l (n := 50) K dX12_sortOf_47 rfl cf_X12_153 (m_w4 _ _ _ _ ⟨by decide, by decide⟩ ⟨by decide, by decide⟩ ⟨by decide, by decide⟩ ⟨by decide, by decide⟩ _ _) rfl rfl (by decide) ⟨Nat.le_refl _, Nat.le_refl _⟩ (Nat.le_of_ble_eq_true rfl) ?_
  refine wp_invV_i (n := 53) K dX12_sortOf_50 rfl cf_X12_191 (m_isWord 10 k v (by decide) _ _ h) rfl rfl rfl (liS rfl) rfl (by decide) ⟨Nat.le_refl _, Nat.le_refl _⟩ (Nat.le_of_ble_eq_true rfl) ?_
  refine wp_if_eq_b (n := 56) K dX12_sortOf_53 rfl (tgt := 58) (by decide) (fun c53 => ?_) (fun c53 => ?_)
  rotate_left
  · have e := of_decide_eq_true c53
    rw [e, if_pos (by decide)] at K
    refine wp_iconst (n := 57) K dX12_sortOf_56 rfl ?_
    refine ret_i K dX12_sortOf_57 ?_ rfl ?_ ⟨Nat.le_refl _, Nat.le_refl _⟩
    all_goals rfl
  have n2 := of_decide_eq_false c53
  refine wp_aload_n (n := 59) K dX12_sortOf_58 rfl rfl ?_
  refine wp_bipush (n := 61) K dX12_sortOf_59 rfl rfl ?_
  refine wp_bipush (n := 63) K dX12_sortOf_61 rfl rfl ?_
  refine wp_bipush (n := 65) K dX12_sortOf_63 rfl rfl ?_
  refine wp_invS_l (n := 68) K dX12_sortOf_65 rfl cf_X12_121 (m_w3 _ _ _ ⟨by decide, by decide⟩ ⟨by decide, by decide⟩ ⟨by decide, by decide⟩ _ _) rfl rfl (by decide) ⟨Nat.le_refl _, Nat.le_refl _⟩ (Nat.le_of_ble_eq_true rfl) ?_
  refine wp_invV_i (n := 71) K dX12_sortOf_68 rfl cf_X12_191 (m_isWord 11 k v (by decide) _ _ h) rfl rfl rfl (liS rfl) rfl (by decide) ⟨Nat.le_refl _, Nat.le_refl _⟩ (Nat.le_of_ble_eq_true rfl) ?_
  refine wp_if_eq_b (n := 74) K dX12_sortOf_71 rfl (tgt := 76) (by decide) (fun c71 => ?_) (fun c71 => ?_)
  rotate_left
  · have e := of_decide_eq_true c71
    rw [e, if_pos (by decide)] at K
    refine wp_iconst (n := 75) K dX12_sortOf_74 rfl ?_
    refine ret_i K dX12_sortOf_75 ?_ rfl ?_ ⟨Nat.le_refl _, Nat.le_refl _⟩
    all_goals rfl
  have n3 := of_decide_eq_false c71
  refine wp_aload_n (n := 77) K dX12_sortOf_76 rfl rfl ?_
  refine wp_bipush (n := 79) K dX12_sortOf_77 rfl rfl ?_
  refine wp_bipush (n := 81) K dX12_sortOf_79 rfl rfl ?_
  refine wp_bipush (n := 83) K dX12_sortOf_81 rfl rfl ?_
  refine wp_invS_l (n := 86) K dX12_sortOf_83 rfl cf_X12_121 (m_w3 _ _ _ ⟨by decide, by decide⟩ ⟨by decide, by decide⟩ ⟨by decide, by decide⟩ _ _) rfl rfl (by decide) ⟨Nat.le_refl _, Nat.le_refl _⟩ (Nat.le_of_ble_eq_true rfl) ?_
  refine wp_invV_i (n := 89) K dX12_sortOf_86 rfl cf_X12_191 (m_isWord 12 k v (by decide) _ _ h) rfl rfl rfl (liS rfl) rfl (by decide) ⟨Nat.le_refl _, Nat.le_refl _⟩ (Nat.le_of_ble_eq_true rfl) ?_
  refine wp_if_eq_b (n := 92) K dX12_sortOf_89 rfl (tgt := 96) (by decide) (fun c89 => ?_) (fun c89 => ?_)
  rotate_left
  · have e := of_decide_eq_true c89
    rw [e, if_pos (by decide)] at K
    refine wp_iconst (n := 93) K dX12_sortOf_92 rfl ?_
    refine wp_goto K dX12_sortOf_93 (tgt := 119) (by decide) ?_
    refine ret_i K dX12_sortOf_119 ?_ rfl ?_ ⟨Nat.le_refl _, Nat.le_refl _⟩
    all_goals rfl
  have n4 := of_decide_eq_false c89
  refine wp_aload_n (n := 97) K dX12_sortOf_96 rfl rfl ?_
  refine wp_bipush (n := 99) K dX12_sortOf_97 rfl rfl ?_
  refine wp_bipush (n := 101) K dX12_sortOf_99 rfl rfl ?_
  refine wp_bipush (n := 103) K dX12_sortOf_101 rfl rfl ?_
  refine wp_bipush (n := 105) K dX12_sortOf_103 rfl rfl ?_
  refine wp_invS_l (n := 108) K dX12_sortOf_105 rfl cf_X12_153 (m_w4 _ _ _ _ ⟨by decide, by decide⟩ ⟨by decide, by decide⟩ ⟨by decide, by decide⟩ ⟨by decide, by decide⟩ _ _) rfl rfl (by decide) ⟨Nat.le_refl _, Nat.le_refl _⟩ (Nat.le_of_ble_eq_true rfl) ?_
  refine wp_invV_i (n := 111) K dX12_sortOf_108 rfl cf_X12_191 (m_isWord 13 k v (by decide) _ _ h) rfl rfl rfl (liS rfl) rfl (by decide) ⟨Nat.le_refl _, Nat.le_refl _⟩ (Nat.le_of_ble_eq_true rfl) ?_
  refine wp_if_eq_b (n := 114) K dX12_sortOf_111 rfl (tgt := 118) (by decide) (fun c111 => ?_) (fun c111 => ?_)
  rotate_left
  · have e := of_decide_eq_true c111
    rw [e, if_pos (by decide)] at K
    refine wp_iconst (n := 115) K dX12_sortOf_114 rfl ?_
    refine wp_goto K dX12_sortOf_115 (tgt := 119) (by decide) ?_
    refine ret_i K dX12_sortOf_119 ?_ rfl ?_ ⟨Nat.le_refl _, Nat.le_refl _⟩
    all_goals rfl
  have n5 := of_decide_eq_false c111
  rw [if_neg (by omega)] at K
  refine wp_iconst (n := 119) K dX12_sortOf_118 rfl ?_
  refine ret_i K dX12_sortOf_119 ?_ rfl ?_ ⟨Nat.le_refl _, Nat.le_refl _⟩
  all_goals rfl
/-- a comparison's deed -/
def cmpF (k : Nat) : Int := if k = 20 then 10 else if k = 31 then 11 else if k = 21 then 12 else if k = 32 then 13 else if k = 22 then 14 else if k = 23 then 15 else -1

theorem m_compareOf (k : Nat) (v : Int) (S : ST) (M : MT) (h : TK M k v) : Ct E1 yX12_compareOf cX12_compareOf 1 (some .int) rm_X12_compareOf [.ref 77] S M (Pi (cmpF k) S M) := by
  refine Ct.mk [.ref 77] (by decide) rfl (Nat.le_of_ble_eq_true rfl) (fun X K => ?_)
  have hr := h.r
  unfold cmpF at K
  refine wp_aload_n (n := 1) K dX12_compareOf_0 rfl rfl ?_
  refine wp_getI (n := 4) K dX12_compareOf_1 rfl fl_X12_104 rfl (liS rfl) rfl ?_
  try simp only [up_same, up_up, up_ne, ne_eq, Nat.reduceEqDiff, not_false_eq_true, Int.reduceToNat, Int.toNat_natCast]
  refine wp_bipush (n := 6) K dX12_compareOf_4 rfl rfl ?_
  refine wp_icmp_ne (n := 9) K dX12_compareOf_6 rfl (tgt := 14) (by decide) ⟨by omega, by omega⟩ ⟨by omega, by omega⟩ (fun c6 => ?_) (fun c6 => ?_)
  rotate_left
  · rw [if_pos ((h.is (by decide)).mp c6)] at K
    refine wp_bipush (n := 11) K dX12_compareOf_9 rfl rfl ?_
    refine wp_goto K dX12_compareOf_11 (tgt := 83) (by decide) ?_
    refine ret_i K dX12_compareOf_83 ?_ rfl ?_ ⟨Nat.le_refl _, Nat.le_refl _⟩
    all_goals rfl
  rw [if_neg (fun e => c6 ((h.is (c := 60) (by decide)).mpr e))] at K
  refine wp_aload_n (n := 15) K dX12_compareOf_14 rfl rfl ?_
  refine wp_getI (n := 18) K dX12_compareOf_15 rfl fl_X12_104 rfl (liS rfl) rfl ?_
  try simp only [up_same, up_up, up_ne, ne_eq, Nat.reduceEqDiff, not_false_eq_true, Int.reduceToNat, Int.toNat_natCast]
  refine wp_iconst (n := 19) K dX12_compareOf_18 rfl ?_
  refine wp_icmp_ne (n := 22) K dX12_compareOf_19 rfl (tgt := 27) (by decide) ⟨by omega, by omega⟩ ⟨by omega, by omega⟩ (fun c19 => ?_) (fun c19 => ?_)
  rotate_left
  · rw [if_pos ((h.is (by decide)).mp c19)] at K
    refine wp_bipush (n := 24) K dX12_compareOf_22 rfl rfl ?_
    refine wp_goto K dX12_compareOf_24 (tgt := 83) (by decide) ?_
    refine ret_i K dX12_compareOf_83 ?_ rfl ?_ ⟨Nat.le_refl _, Nat.le_refl _⟩
    all_goals rfl
  rw [if_neg (fun e => c19 ((h.is (c := 4) (by decide)).mpr e))] at K
  refine wp_aload_n (n := 28) K dX12_compareOf_27 rfl rfl ?_
  refine wp_getI (n := 31) K dX12_compareOf_28 rfl fl_X12_104 rfl (liS rfl) rfl ?_
  try simp only [up_same, up_up, up_ne, ne_eq, Nat.reduceEqDiff, not_false_eq_true, Int.reduceToNat, Int.toNat_natCast]
  refine wp_bipush (n := 33) K dX12_compareOf_31 rfl rfl ?_
  refine wp_icmp_ne (n := 36) K dX12_compareOf_33 rfl (tgt := 41) (by decide) ⟨by omega, by omega⟩ ⟨by omega, by omega⟩ (fun c33 => ?_) (fun c33 => ?_)
  rotate_left
  · rw [if_pos ((h.is (by decide)).mp c33)] at K
    refine wp_bipush (n := 38) K dX12_compareOf_36 rfl rfl ?_
    refine wp_goto K dX12_compareOf_38 (tgt := 83) (by decide) ?_
    refine ret_i K dX12_compareOf_83 ?_ rfl ?_ ⟨Nat.le_refl _, Nat.le_refl _⟩
    all_goals rfl
  rw [if_neg (fun e => c33 ((h.is (c := 62) (by decide)).mpr e))] at K
  refine wp_aload_n (n := 42) K dX12_compareOf_41 rfl rfl ?_
  refine wp_getI (n := 45) K dX12_compareOf_42 rfl fl_X12_104 rfl (liS rfl) rfl ?_
  try simp only [up_same, up_up, up_ne, ne_eq, Nat.reduceEqDiff, not_false_eq_true, Int.reduceToNat, Int.toNat_natCast]
  refine wp_iconst (n := 46) K dX12_compareOf_45 rfl ?_
  refine wp_icmp_ne (n := 49) K dX12_compareOf_46 rfl (tgt := 54) (by decide) ⟨by omega, by omega⟩ ⟨by omega, by omega⟩ (fun c46 => ?_) (fun c46 => ?_)
  rotate_left
  · rw [if_pos ((h.is (by decide)).mp c46)] at K
    refine wp_bipush (n := 51) K dX12_compareOf_49 rfl rfl ?_
    refine wp_goto K dX12_compareOf_51 (tgt := 83) (by decide) ?_
    refine ret_i K dX12_compareOf_83 ?_ rfl ?_ ⟨Nat.le_refl _, Nat.le_refl _⟩
    all_goals rfl
  rw [if_neg (fun e => c46 ((h.is (c := 5) (by decide)).mpr e))] at K
  refine wp_aload_n (n := 55) K dX12_compareOf_54 rfl rfl ?_
  refine wp_getI (n := 58) K dX12_compareOf_55 rfl fl_X12_104 rfl (liS rfl) rfl ?_
  try simp only [up_same, up_up, up_ne, ne_eq, Nat.reduceEqDiff, not_false_eq_true, Int.reduceToNat, Int.toNat_natCast]
  refine wp_bipush (n := 60) K dX12_compareOf_58 rfl rfl ?_
  refine wp_icmp_ne (n := 63) K dX12_compareOf_60 rfl (tgt := 68) (by decide) ⟨by omega, by omega⟩ ⟨by omega, by omega⟩ (fun c60 => ?_) (fun c60 => ?_)
  rotate_left
  · rw [if_pos ((h.is (by decide)).mp c60)] at K
    refine wp_bipush (n := 65) K dX12_compareOf_63 rfl rfl ?_
    refine wp_goto K dX12_compareOf_65 (tgt := 83) (by decide) ?_
    refine ret_i K dX12_compareOf_83 ?_ rfl ?_ ⟨Nat.le_refl _, Nat.le_refl _⟩
    all_goals rfl
  rw [if_neg (fun e => c60 ((h.is (c := 61) (by decide)).mpr e))] at K
  refine wp_aload_n (n := 69) K dX12_compareOf_68 rfl rfl ?_
  refine wp_getI (n := 72) K dX12_compareOf_69 rfl fl_X12_104 rfl (liS rfl) rfl ?_
  try simp only [up_same, up_up, up_ne, ne_eq, Nat.reduceEqDiff, not_false_eq_true, Int.reduceToNat, Int.toNat_natCast]
  refine wp_bipush (n := 74) K dX12_compareOf_72 rfl rfl ?_
  refine wp_icmp_ne (n := 77) K dX12_compareOf_74 rfl (tgt := 82) (by decide) ⟨by omega, by omega⟩ ⟨by omega, by omega⟩ (fun c74 => ?_) (fun c74 => ?_)
  rotate_left
  · rw [if_pos ((h.is (by decide)).mp c74)] at K
    refine wp_bipush (n := 79) K dX12_compareOf_77 rfl rfl ?_
    refine wp_goto K dX12_compareOf_79 (tgt := 83) (by decide) ?_
    refine ret_i K dX12_compareOf_83 ?_ rfl ?_ ⟨Nat.le_refl _, Nat.le_refl _⟩
    all_goals rfl
  rw [if_neg (fun e => c74 ((h.is (c := 35) (by decide)).mpr e))] at K
  refine wp_iconst (n := 83) K dX12_compareOf_82 rfl ?_
  refine ret_i K dX12_compareOf_83 ?_ rfl ?_ ⟨Nat.le_refl _, Nat.le_refl _⟩
  all_goals rfl
/-- a NAME that the clause hasn't; so: 0 lift, 1 may, 2 fits -/
def barF (so k : Int) : Bool := if so = 2 then decide (4 ≤ k ∧ k ≤ 6) else decide (k = 7)

theorem m_isBarred (k : Int) (hk : InR k) (S : ST) (M : MT) (h : InR (M 77 20)) : Ct E1 yX12_isBarred cX12_isBarred 2 (some .boolean) rm_X12_isBarred [.ref 77, .int (z k)] S M (Pi (bI (barF (M 77 20) k)) S M) := by
  refine Ct.mk [.ref 77, .int (z k)] (by decide) rfl (Nat.le_of_ble_eq_true rfl) (fun X K => ?_)
  unfold barF at K
  refine wp_aload_n (n := 1) K dX12_isBarred_0 rfl rfl ?_
  refine wp_getI (n := 4) K dX12_isBarred_1 rfl fl_X12_157 rfl (liS rfl) rfl ?_
  try simp only [up_same, up_up, up_ne, ne_eq, Nat.reduceEqDiff, not_false_eq_true, Int.reduceToNat, Int.toNat_natCast]
  refine wp_iconst (n := 5) K dX12_isBarred_4 rfl ?_
  refine wp_icmp_ne (n := 8) K dX12_isBarred_5 rfl (tgt := 18) (by decide) ⟨by omega, by omega⟩ ⟨by omega, by omega⟩ (fun c5 => ?_) (fun c5 => ?_)
  · rw [if_neg c5] at K
    refine wp_iload_n (n := 19) K dX12_isBarred_18 rfl rfl ?_
    refine wp_bipush (n := 21) K dX12_isBarred_19 rfl rfl ?_
    refine wp_icmp_ne (n := 24) K dX12_isBarred_21 rfl (tgt := 28) (by decide) ⟨by omega, by omega⟩ ⟨by omega, by omega⟩ (fun c21 => ?_) (fun c21 => ?_)
    · rw [decide_eq_false c21] at K
      refine wp_iconst (n := 29) K dX12_isBarred_28 rfl ?_
      refine ret_z K dX12_isBarred_29 ?_ rfl ?_ ⟨Nat.le_refl _, Nat.le_refl _⟩
      all_goals rfl
    · rw [decide_eq_true c21] at K
      refine wp_iconst (n := 25) K dX12_isBarred_24 rfl ?_
      refine wp_goto K dX12_isBarred_25 (tgt := 29) (by decide) ?_
      refine ret_z K dX12_isBarred_29 ?_ rfl ?_ ⟨Nat.le_refl _, Nat.le_refl _⟩
      all_goals rfl
  · rw [if_pos c5] at K
    refine wp_iload_n (n := 9) K dX12_isBarred_8 rfl rfl ?_
    refine wp_iconst (n := 10) K dX12_isBarred_9 rfl ?_
    refine wp_bipush (n := 12) K dX12_isBarred_10 rfl rfl ?_
    refine wp_invS_i (n := 15) K dX12_isBarred_12 rfl cf_X12_62 (m_isIn _ _ _ hk ⟨by decide, by decide⟩ ⟨by decide, by decide⟩ _ _) rfl rfl (by decide) ⟨Nat.le_refl _, Nat.le_refl _⟩ (Nat.le_of_ble_eq_true rfl) ?_
    refine wp_goto K dX12_isBarred_15 (tgt := 29) (by decide) ?_
    refine ret_z K dX12_isBarred_29 ?_ rfl ?_ ⟨Nat.le_refl _, Nat.le_refl _⟩
    all_goals rfl
