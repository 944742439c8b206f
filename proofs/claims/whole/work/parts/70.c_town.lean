
theorem c_houseOf (h w : Int) (h1 : InR h) (h2 : InR w) (S : ST) (M : MT) (σ : Nat → Int) (hH : HN M σ) (hw : WH σ) : Ct E1 yX11_houseOf cX11_houseOf 3 (some .int) rm_X11_houseOf [.ref 16, .int (z h), .int (z w)] S M (Pi (if 0 ≤ h ∧ h < σ 3 then (if w = 0 then σ (70 + 3 * h.toNat) else if w = 1 then σ (71 + 3 * h.toNat) else if w = 2 then (cnt 12 (nrN σ h.toNat) : Int) else -1000) else -1000) S M) := by
  have h3 := hw.1
  refine Ct.mk [.ref 16, .int (z h), .int (z w)] (by decide) rfl (Nat.le_of_ble_eq_true rfl) (fun X K => ?_)
  refine wp_aload_n (n := 1) K dX11_houseOf_0 rfl rfl ?_
  refine wp_getF (n := 4) K dX11_houseOf_1 rfl fl_X11_12 rfl (liS rfl) rfl rfl ?_
  refine wp_getF (n := 7) K dX11_houseOf_4 rfl fl_X11_106 rfl (liS rfl) rfl rfl ?_
  refine wp_iload_n (n := 8) K dX11_houseOf_7 rfl rfl ?_
  refine wp_invV_i (n := 11) K dX11_houseOf_8 rfl cf_X11_122 (c_hasH h h1 _ _ _ h3 hH.1) rfl rfl rfl (liS rfl) rfl (by decide) ⟨Nat.le_refl _, Nat.le_refl _⟩ (Nat.le_of_ble_eq_true rfl) ?_
  refine wp_if_ne_b (n := 14) K dX11_houseOf_11 rfl (tgt := 18) (by decide) (fun c11 => ?_) (fun c11 => ?_)
  · have g1 := of_decide_eq_true c11
    rw [if_pos g1] at K
    obtain ⟨a, rfl⟩ : ∃ a : Nat, h = a := ⟨h.toNat, by omega⟩
    rw [Int.toNat_natCast] at K
    obtain ⟨u1, u2, u3⟩ := hH.2 a (by omega)
    obtain ⟨n1, n2⟩ := hw.nr (show a < 10 by omega)
    refine wp_iload_n (n := 19) K dX11_houseOf_18 rfl rfl ?_
    by_cases q : 0 ≤ w ∧ w ≤ 2
    · rcases (show w = 0 ∨ w = 1 ∨ w = 2 by omega) with rfl | rfl | rfl
      · refine wp_tswIn K dX11_houseOf_19 (tgt := 44) h2 (by decide) (by decide) (off := 25) rfl (by decide) ?_
        refine wp_aload_n (n := 45) K dX11_houseOf_44 rfl rfl ?_
        refine wp_getF (n := 48) K dX11_houseOf_45 rfl fl_X11_12 rfl (liS rfl) rfl rfl ?_
        refine wp_getF (n := 51) K dX11_houseOf_48 rfl fl_X11_106 rfl (liS rfl) rfl rfl ?_
        refine wp_getF (n := 54) K dX11_houseOf_51 rfl fl_X11_113 rfl (liS rfl) rfl rfl ?_
        refine wp_iload_n (n := 55) K dX11_houseOf_54 rfl rfl ?_
        refine wp_iald (n := 56) K dX11_houseOf_55 rfl rfl (liS rfl) ⟨by omega, by omega, by omega⟩ ?_
        try simp only [up_same, up_up, Int.reduceToNat, Int.toNat_natCast]
        refine ret_i K dX11_houseOf_56 ?_ rfl ?_ ⟨Nat.le_refl _, Nat.le_refl _⟩
        · exact u1
        · rfl
      · refine wp_tswIn K dX11_houseOf_19 (tgt := 57) h2 (by decide) (by decide) (off := 38) rfl (by decide) ?_
        refine wp_aload_n (n := 58) K dX11_houseOf_57 rfl rfl ?_
        refine wp_getF (n := 61) K dX11_houseOf_58 rfl fl_X11_12 rfl (liS rfl) rfl rfl ?_
        refine wp_getF (n := 64) K dX11_houseOf_61 rfl fl_X11_106 rfl (liS rfl) rfl rfl ?_
        refine wp_getF (n := 67) K dX11_houseOf_64 rfl fl_X11_116 rfl (liS rfl) rfl rfl ?_
        refine wp_iload_n (n := 68) K dX11_houseOf_67 rfl rfl ?_
        refine wp_iald (n := 69) K dX11_houseOf_68 rfl rfl (liS rfl) ⟨by omega, by omega, by omega⟩ ?_
        try simp only [up_same, up_up, Int.reduceToNat, Int.toNat_natCast]
        refine ret_i K dX11_houseOf_69 ?_ rfl ?_ ⟨Nat.le_refl _, Nat.le_refl _⟩
        · exact u2
        · rfl
      · refine wp_tswIn K dX11_houseOf_19 (tgt := 70) h2 (by decide) (by decide) (off := 51) rfl (by decide) ?_
        refine wp_aload_n (n := 71) K dX11_houseOf_70 rfl rfl ?_
        refine wp_getF (n := 74) K dX11_houseOf_71 rfl fl_X11_12 rfl (liS rfl) rfl rfl ?_
        refine wp_getF (n := 77) K dX11_houseOf_74 rfl fl_X11_106 rfl (liS rfl) rfl rfl ?_
        refine wp_getF (n := 80) K dX11_houseOf_77 rfl fl_X11_119 rfl (liS rfl) rfl rfl ?_
        refine wp_iload_n (n := 81) K dX11_houseOf_80 rfl rfl ?_
        refine wp_iald (n := 82) K dX11_houseOf_81 rfl rfl (liS rfl) ⟨by omega, by omega, by omega⟩ ?_
        try simp only [up_same, up_up, Int.reduceToNat, Int.toNat_natCast]
        rw [u3, n1]
        refine wp_invS_i (n := 85) K dX11_houseOf_82 rfl cf_X11_75 (j_bitCount _ (by omega) _ _) rfl rfl (by decide) ⟨Nat.le_refl _, Nat.le_refl _⟩ (Nat.le_of_ble_eq_true rfl) ?_
        refine ret_i K dX11_houseOf_85 ?_ rfl ?_ ⟨Nat.le_refl _, Nat.le_refl _⟩
        · rfl
        · rfl
    · rw [if_neg (by omega), if_neg (by omega), if_neg (by omega)] at K
      refine wp_tswOut K dX11_houseOf_19 (tgt := 86) h2 (by omega) (by decide) ?_
      refine wp_sipush (n := 89) K dX11_houseOf_86 rfl rfl ?_
      refine ret_i K dX11_houseOf_89 ?_ rfl ?_ ⟨Nat.le_refl _, Nat.le_refl _⟩
      · rfl
      · rfl
  · have g1 := of_decide_eq_false c11
    rw [if_neg g1] at K
    refine wp_sipush (n := 17) K dX11_houseOf_14 rfl rfl ?_
    refine ret_i K dX11_houseOf_17 ?_ rfl ?_ ⟨Nat.le_refl _, Nat.le_refl _⟩
    · rfl
    · rfl

theorem c_aboutStone (w : Int) (h2 : InR w) (S : ST) (M : MT) (σ : Nat → Int) (h : SN M σ) (hw : WS σ) : Ct E1 yX11_aboutStone cX11_aboutStone 2 (some .int) rm_X11_aboutStone [.ref 16, .int (z w)] S M (Pi (if 10 ≤ w ∧ w < 10 + σ 0 then σ (13 + 5 * (w - 10).toNat) else if 30 ≤ w ∧ w < 30 + σ 0 then σ (14 + 5 * (w - 30).toNat) else -2) S M) := by
  have h0 := hw.1
  have g := h.1
  refine Ct.mk [.ref 16, .int (z w)] (by decide) rfl (Nat.le_of_ble_eq_true rfl) (fun X K => ?_)
  have k39 : ¬ (10 ≤ w ∧ w < 10 + σ 0) → Wp E1 X 39 [.ref 16, .int (z w)] [] S M := fun c => by
    rw [if_neg c] at K
    refine wp_iload_n (n := 40) K dX11_aboutStone_39 rfl rfl ?_
    refine wp_bipush (n := 42) K dX11_aboutStone_40 rfl rfl ?_
    refine wp_icmp_lt (n := 45) K dX11_aboutStone_42 rfl (tgt := 78) (by decide) ⟨by omega, by omega⟩ ⟨by omega, by omega⟩ (fun c42 => ?_) (fun c42 => ?_)
    · rw [if_neg (by omega)] at K
      refine wp_bipush (n := 80) K dX11_aboutStone_78 rfl rfl ?_
      refine ret_i K dX11_aboutStone_80 ?_ rfl ?_ ⟨Nat.le_refl _, Nat.le_refl _⟩
      · rfl
      · rfl
    · refine wp_iload_n (n := 46) K dX11_aboutStone_45 rfl rfl ?_
      refine wp_bipush (n := 48) K dX11_aboutStone_46 rfl rfl ?_
      refine wp_aload_n (n := 49) K dX11_aboutStone_48 rfl rfl ?_
      refine wp_getF (n := 52) K dX11_aboutStone_49 rfl fl_X11_12 rfl (liS rfl) rfl rfl ?_
      refine wp_getF (n := 55) K dX11_aboutStone_52 rfl fl_X11_65 rfl (liS rfl) rfl rfl ?_
      refine wp_getI (n := 58) K dX11_aboutStone_55 rfl fl_X11_81 rfl (liS rfl) rfl ?_
      try simp only [up_same, up_up, Int.reduceToNat, Int.toNat_natCast]
      refine wp_iadd (n := 59) K dX11_aboutStone_58 rfl ?_
      refine wp_icmp_ge (n := 62) K dX11_aboutStone_59 rfl (tgt := 78) (by decide) ⟨by omega, by omega⟩ ⟨by omega, by omega⟩ (fun c59 => ?_) (fun c59 => ?_)
      · rw [if_neg (by omega)] at K
        refine wp_bipush (n := 80) K dX11_aboutStone_78 rfl rfl ?_
        refine ret_i K dX11_aboutStone_80 ?_ rfl ?_ ⟨Nat.le_refl _, Nat.le_refl _⟩
        · rfl
        · rfl
      · rw [if_pos (by omega)] at K
        refine wp_aload_n (n := 63) K dX11_aboutStone_62 rfl rfl ?_
        refine wp_getF (n := 66) K dX11_aboutStone_63 rfl fl_X11_12 rfl (liS rfl) rfl rfl ?_
        refine wp_getF (n := 69) K dX11_aboutStone_66 rfl fl_X11_65 rfl (liS rfl) rfl rfl ?_
        refine wp_getF (n := 72) K dX11_aboutStone_69 rfl fl_X11_100 rfl (liS rfl) rfl rfl ?_
        refine wp_iload_n (n := 73) K dX11_aboutStone_72 rfl rfl ?_
        refine wp_bipush (n := 75) K dX11_aboutStone_73 rfl rfl ?_
        refine wp_isub (n := 76) K dX11_aboutStone_75 rfl ?_
        refine wp_iald (n := 77) K dX11_aboutStone_76 rfl rfl (liS rfl) ⟨by omega, by omega, by omega⟩ ?_
        try simp only [up_same, up_up, Int.reduceToNat, Int.toNat_natCast]
        refine ret_i K dX11_aboutStone_77 ?_ rfl ?_ ⟨Nat.le_refl _, Nat.le_refl _⟩
        · exact (h.2 (w - 30).toNat (by omega)).2.2.2.2
        · rfl
  refine wp_iload_n (n := 1) K dX11_aboutStone_0 rfl rfl ?_
  refine wp_bipush (n := 3) K dX11_aboutStone_1 rfl rfl ?_
  refine wp_icmp_lt (n := 6) K dX11_aboutStone_3 rfl (tgt := 39) (by decide) ⟨by omega, by omega⟩ ⟨by omega, by omega⟩ (fun c3 => ?_) (fun c3 => ?_)
  · exact k39 (by omega)
  · refine wp_iload_n (n := 7) K dX11_aboutStone_6 rfl rfl ?_
    refine wp_bipush (n := 9) K dX11_aboutStone_7 rfl rfl ?_
    refine wp_aload_n (n := 10) K dX11_aboutStone_9 rfl rfl ?_
    refine wp_getF (n := 13) K dX11_aboutStone_10 rfl fl_X11_12 rfl (liS rfl) rfl rfl ?_
    refine wp_getF (n := 16) K dX11_aboutStone_13 rfl fl_X11_65 rfl (liS rfl) rfl rfl ?_
    refine wp_getI (n := 19) K dX11_aboutStone_16 rfl fl_X11_81 rfl (liS rfl) rfl ?_
    try simp only [up_same, up_up, Int.reduceToNat, Int.toNat_natCast]
    refine wp_iadd (n := 20) K dX11_aboutStone_19 rfl ?_
    refine wp_icmp_ge (n := 23) K dX11_aboutStone_20 rfl (tgt := 39) (by decide) ⟨by omega, by omega⟩ ⟨by omega, by omega⟩ (fun c20 => ?_) (fun c20 => ?_)
    · exact k39 (by omega)
    · rw [if_pos (by omega)] at K
      refine wp_aload_n (n := 24) K dX11_aboutStone_23 rfl rfl ?_
      refine wp_getF (n := 27) K dX11_aboutStone_24 rfl fl_X11_12 rfl (liS rfl) rfl rfl ?_
      refine wp_getF (n := 30) K dX11_aboutStone_27 rfl fl_X11_65 rfl (liS rfl) rfl rfl ?_
      refine wp_getF (n := 33) K dX11_aboutStone_30 rfl fl_X11_97 rfl (liS rfl) rfl rfl ?_
      refine wp_iload_n (n := 34) K dX11_aboutStone_33 rfl rfl ?_
      refine wp_bipush (n := 36) K dX11_aboutStone_34 rfl rfl ?_
      refine wp_isub (n := 37) K dX11_aboutStone_36 rfl ?_
      refine wp_iald (n := 38) K dX11_aboutStone_37 rfl rfl (liS rfl) ⟨by omega, by omega, by omega⟩ ?_
      try simp only [up_same, up_up, Int.reduceToNat, Int.toNat_natCast]
      refine ret_i K dX11_aboutStone_38 ?_ rfl ?_ ⟨Nat.le_refl _, Nat.le_refl _⟩
      · exact (h.2 (w - 10).toNat (by omega)).2.2.2.1
      · rfl

theorem c_about (w t : Int) (h2 : InR w) (S : ST) (M : MT) (σ : Nat → Int) (h : CN M σ) (hw : WS σ) (ht : M 55 4 = t) : Ct E1 yX11_about cX11_about 2 (some .int) rm_X11_about [.ref 16, .int (z w)] S M (Pi (aboutF σ t w) S M) := by
  have h3 := hw.1
  obtain ⟨g1, g2, g3, g4, g5⟩ := h
  refine Ct.mk [.ref 16, .int (z w)] (by decide) rfl (Nat.le_of_ble_eq_true rfl) (fun X K => ?_)
  unfold aboutF at K
  refine wp_iload_n (n := 1) K dX11_about_0 rfl rfl ?_
  by_cases q : 0 ≤ w ∧ w ≤ 8
  · rw [if_neg (by omega), if_neg (by omega)] at K
    rcases (show w = 0 ∨ w = 1 ∨ w = 2 ∨ w = 3 ∨ w = 4 ∨ w = 5 ∨ w = 6 ∨ w = 7 ∨ w = 8 by omega) with rfl | rfl | rfl | rfl | rfl | rfl | rfl | rfl | rfl
    · refine wp_tswIn K dX11_about_1 (tgt := 52) h2 (by decide) (by decide) (off := 51) rfl (by decide) ?_
      refine wp_aload_n (n := 53) K dX11_about_52 rfl rfl ?_
      refine wp_getF (n := 56) K dX11_about_53 rfl fl_X11_12 rfl (liS rfl) rfl rfl ?_
      refine wp_getF (n := 59) K dX11_about_56 rfl fl_X11_65 rfl (liS rfl) rfl rfl ?_
      refine wp_getI (n := 62) K dX11_about_59 rfl fl_X11_81 rfl (liS rfl) rfl ?_
      try simp only [up_same, up_up, Int.reduceToNat, Int.toNat_natCast]
      refine ret_i K dX11_about_62 ?_ rfl ?_ ⟨Nat.le_refl _, Nat.le_refl _⟩
      all_goals first | rfl | exact g1.1
    · refine wp_tswIn K dX11_about_1 (tgt := 63) h2 (by decide) (by decide) (off := 62) rfl (by decide) ?_
      refine wp_aload_n (n := 64) K dX11_about_63 rfl rfl ?_
      refine wp_getF (n := 67) K dX11_about_64 rfl fl_X11_12 rfl (liS rfl) rfl rfl ?_
      refine wp_getI (n := 70) K dX11_about_67 rfl fl_X11_177 rfl (liS rfl) rfl ?_
      try simp only [up_same, up_up, Int.reduceToNat, Int.toNat_natCast]
      refine ret_i K dX11_about_70 ?_ rfl ?_ ⟨Nat.le_refl _, Nat.le_refl _⟩
      all_goals first | rfl | exact g5.2.2.2
    · refine wp_tswIn K dX11_about_1 (tgt := 71) h2 (by decide) (by decide) (off := 70) rfl (by decide) ?_
      refine wp_aload_n (n := 72) K dX11_about_71 rfl rfl ?_
      refine wp_getF (n := 75) K dX11_about_72 rfl fl_X11_12 rfl (liS rfl) rfl rfl ?_
      refine wp_getI (n := 78) K dX11_about_75 rfl fl_X11_103 rfl (liS rfl) rfl ?_
      try simp only [up_same, up_up, Int.reduceToNat, Int.toNat_natCast]
      refine ret_i K dX11_about_78 ?_ rfl ?_ ⟨Nat.le_refl _, Nat.le_refl _⟩
      all_goals first | rfl | exact g5.2.2.1
    · refine wp_tswIn K dX11_about_1 (tgt := 79) h2 (by decide) (by decide) (off := 78) rfl (by decide) ?_
      refine wp_aload_n (n := 80) K dX11_about_79 rfl rfl ?_
      refine wp_getF (n := 83) K dX11_about_80 rfl fl_X11_12 rfl (liS rfl) rfl rfl ?_
      refine wp_getF (n := 86) K dX11_about_83 rfl fl_X11_106 rfl (liS rfl) rfl rfl ?_
      refine wp_getI (n := 89) K dX11_about_86 rfl fl_X11_110 rfl (liS rfl) rfl ?_
      try simp only [up_same, up_up, Int.reduceToNat, Int.toNat_natCast]
      refine ret_i K dX11_about_89 ?_ rfl ?_ ⟨Nat.le_refl _, Nat.le_refl _⟩
      all_goals first | rfl | exact g2.1
    · refine wp_tswIn K dX11_about_1 (tgt := 90) h2 (by decide) (by decide) (off := 89) rfl (by decide) ?_
      refine wp_aload_n (n := 91) K dX11_about_90 rfl rfl ?_
      refine wp_getF (n := 94) K dX11_about_91 rfl fl_X11_12 rfl (liS rfl) rfl rfl ?_
      refine wp_getI (n := 97) K dX11_about_94 rfl fl_X11_136 rfl (liS rfl) rfl ?_
      try simp only [up_same, up_up, Int.reduceToNat, Int.toNat_natCast]
      refine ret_i K dX11_about_97 ?_ rfl ?_ ⟨Nat.le_refl _, Nat.le_refl _⟩
      all_goals first | rfl | exact g5.1
    · refine wp_tswIn K dX11_about_1 (tgt := 98) h2 (by decide) (by decide) (off := 97) rfl (by decide) ?_
      refine wp_aload_n (n := 99) K dX11_about_98 rfl rfl ?_
      refine wp_getF (n := 102) K dX11_about_99 rfl fl_X11_12 rfl (liS rfl) rfl rfl ?_
      refine wp_getI (n := 105) K dX11_about_102 rfl fl_X11_160 rfl (liS rfl) rfl ?_
      try simp only [up_same, up_up, Int.reduceToNat, Int.toNat_natCast]
      refine ret_i K dX11_about_105 ?_ rfl ?_ ⟨Nat.le_refl _, Nat.le_refl _⟩
      all_goals first | rfl | exact g5.2.1
    · refine wp_tswIn K dX11_about_1 (tgt := 106) h2 (by decide) (by decide) (off := 105) rfl (by decide) ?_
      refine wp_aload_n (n := 107) K dX11_about_106 rfl rfl ?_
      refine wp_getF (n := 110) K dX11_about_107 rfl fl_X11_12 rfl (liS rfl) rfl rfl ?_
      refine wp_getF (n := 113) K dX11_about_110 rfl fl_X11_187 rfl (liS rfl) rfl rfl ?_
      refine wp_getI (n := 116) K dX11_about_113 rfl fl_X11_213 rfl (liS rfl) rfl ?_
      try simp only [up_same, up_up, Int.reduceToNat, Int.toNat_natCast]
      refine ret_i K dX11_about_116 ?_ rfl ?_ ⟨Nat.le_refl _, Nat.le_refl _⟩
      all_goals first | rfl | exact g4.2.1
    · refine wp_tswIn K dX11_about_1 (tgt := 117) h2 (by decide) (by decide) (off := 116) rfl (by decide) ?_
      refine wp_aload_n (n := 118) K dX11_about_117 rfl rfl ?_
      refine wp_getF (n := 121) K dX11_about_118 rfl fl_X11_12 rfl (liS rfl) rfl rfl ?_
      refine wp_getF (n := 124) K dX11_about_121 rfl fl_X11_233 rfl (liS rfl) rfl rfl ?_
      refine wp_getI (n := 127) K dX11_about_124 rfl fl_X11_237 rfl (liS rfl) rfl ?_
      try simp only [up_same, up_up, Int.reduceToNat, Int.toNat_natCast]
      refine ret_i K dX11_about_127 ?_ rfl ?_ ⟨Nat.le_refl _, Nat.le_refl _⟩
      all_goals first | rfl | exact g3.1
    · refine wp_tswIn K dX11_about_1 (tgt := 128) h2 (by decide) (by decide) (off := 127) rfl (by decide) ?_
      refine wp_aload_n (n := 129) K dX11_about_128 rfl rfl ?_
      refine wp_getF (n := 132) K dX11_about_129 rfl fl_X11_22 rfl (liS rfl) rfl rfl ?_
      refine wp_getI (n := 135) K dX11_about_132 rfl fl_X11_129 rfl (liS rfl) rfl ?_
      try simp only [up_same, up_up, Int.reduceToNat, Int.toNat_natCast]
      refine ret_i K dX11_about_135 ?_ rfl ?_ ⟨Nat.le_refl _, Nat.le_refl _⟩
      all_goals first | rfl | exact ht
  · rw [if_neg (c := 0 ≤ w ∧ w ≤ 7) (by omega), if_neg (c := w = 8) (by omega)] at K
    refine wp_tswOut K dX11_about_1 (tgt := 136) h2 (by omega) (by decide) ?_
    refine wp_aload_n (n := 137) K dX11_about_136 rfl rfl ?_
    refine wp_iload_n (n := 138) K dX11_about_137 rfl rfl ?_
    refine wp_invV_i (n := 141) K dX11_about_138 rfl cf_X11_274 (c_aboutStone w h2 _ _ σ g1 hw) rfl rfl rfl (liS rfl) rfl (by decide) ⟨Nat.le_refl _, Nat.le_refl _⟩ (Nat.le_of_ble_eq_true rfl) ?_
    refine ret_i K dX11_about_141 ?_ rfl ?_ ⟨Nat.le_refl _, Nat.le_refl _⟩
    all_goals rfl

theorem c_nextDraw (x : Nat) (hx : x < 100000) (S : ST) (M : MT) : Ct E1 yX1_nextDraw cX1_nextDraw 2 (some .int) rm_X1_nextDraw [.ref 24, .int (z (x : Int))] S M (Pi ((nxd x : Nat) : Int) S M) := by
  refine Ct.mk [.ref 24, .int (z (x : Int))] (by decide) rfl (Nat.le_of_ble_eq_true rfl) (fun X K => ?_)
  refine wp_iload_n (n := 1) K dX1_nextDraw_0 rfl rfl ?_
  refine wp_sipush (n := 4) K dX1_nextDraw_1 rfl rfl ?_
  refine wp_imul (n := 5) K dX1_nextDraw_4 rfl ?_
  refine wp_bipush (n := 7) K dX1_nextDraw_5 rfl rfl ?_
  refine wp_iadd (n := 8) K dX1_nextDraw_7 rfl ?_
  refine wp_sipush (n := 11) K dX1_nextDraw_8 rfl rfl ?_
  refine wp_irem (n := 12) K dX1_nextDraw_11 rfl (by decide) ?_
  refine ret_i K dX1_nextDraw_12 ?_ rfl ?_ ⟨Nat.le_refl _, Nat.le_refl _⟩
  · have := brem_n (a := x * 181 + 37) (d := 30091) (by omega) (by omega) (by omega)
    rw [show (x : Int) * 181 + 37 = ((x * 181 + 37 : Nat) : Int) by omega]
    exact this
  · rfl
theorem clr_le (n : Nat) : ∀ w, clr n w ≤ n
  | 0 => Nat.le_refl _
  | w + 1 => Nat.le_trans Nat.and_le_left (clr_le n w)
theorem clr_b {n : Nat} (h : n < 4096) : band (n : Int) ((n : Int) - 1) = ((n &&& (n - 1) : Nat) : Int) := by
  by_cases h0 : n = 0
  · subst h0; decide
  · rw [show (n : Int) - 1 = ((n - 1 : Nat) : Int) by omega]
    exact band_n (by omega) (by omega)

theorem c_nearAt (h w : Nat) (hh : h < 10) (S : ST) (M : MT) (σ : Nat → Int) (hH : HN M σ) (hw : WH σ) (h10 : w < 10) (hc : w < cnt 12 (nrN σ h)) : Ct E1 yX1_nearAt cX1_nearAt 5 (some .int) rm_X1_nearAt [.ref 24, .int (z (h : Int)), .int (z (w : Int))] S M (Pi ((nthB (nrN σ h) w : Nat) : Int) S M) := by
  obtain ⟨n1, n2⟩ := hw.nr hh
  refine Ct.mk [.ref 24, .int (z (h : Int)), .int (z (w : Int)), mkV, mkV] (by decide) rfl (Nat.le_of_ble_eq_true rfl) (fun X K => ?_)
  refine wp_aload_n (n := 1) K dX1_nearAt_0 rfl rfl ?_
  refine wp_getF (n := 4) K dX1_nearAt_1 rfl fl_X1_18 rfl (liS rfl) rfl rfl ?_
  refine wp_iload_n (n := 5) K dX1_nearAt_4 rfl rfl ?_
  refine wp_iald (n := 6) K dX1_nearAt_5 rfl rfl (liS rfl) ⟨by omega, by omega, by omega⟩ ?_
  try simp only [up_same, up_up, Int.reduceToNat, Int.toNat_natCast]
  rw [(hH.2 h hh).2.2, n1]
  refine wp_istore_n (n := 7) K dX1_nearAt_6 rfl (by decide) ?_
  refine wp_iconst (n := 8) K dX1_nearAt_7 rfl ?_
  refine wp_istore (n := 10) K dX1_nearAt_8 rfl (by decide) ?_
  refine dn w (Q := fun k => Wp E1 X 10 [.ref 24, .int (z (h : Int)), .int (z (w : Int)), .int (z (clr (nrN σ h) k : Int)), .int (z (k : Int))] [] S M) (fun k hk ih => ?_) 0 (by omega)
  have hl := clr_le (nrN σ h) k
  refine wp_iload (n := 12) K dX1_nearAt_10 rfl rfl ?_
  refine wp_iload_n (n := 13) K dX1_nearAt_12 rfl rfl ?_
  refine wp_icmp_ge (n := 16) K dX1_nearAt_13 rfl (tgt := 28) (by decide) ⟨by omega, by omega⟩ ⟨by omega, by omega⟩ (fun c13 => ?_) (fun c13 => ?_)
  · have : k = w := by omega
    subst this
    refine wp_iload_n (n := 29) K dX1_nearAt_28 rfl rfl ?_
    refine wp_invS_i (n := 32) K dX1_nearAt_29 rfl cf_X1_36 (j_ntz _ (by omega) _ _) rfl rfl (by decide) ⟨Nat.le_refl _, Nat.le_refl _⟩ (Nat.le_of_ble_eq_true rfl) ?_
    refine ret_i K dX1_nearAt_32 ?_ rfl ?_ ⟨Nat.le_refl _, Nat.le_refl _⟩
    · rw [clr_n n2 hc h10]
    · rfl
  · refine wp_iload_n (n := 17) K dX1_nearAt_16 rfl rfl ?_
    refine wp_iload_n (n := 18) K dX1_nearAt_17 rfl rfl ?_
    refine wp_iconst (n := 19) K dX1_nearAt_18 rfl ?_
    refine wp_isub (n := 20) K dX1_nearAt_19 rfl ?_
    refine wp_iand (n := 21) K dX1_nearAt_20 rfl ?_
    rw [clr_b (by omega)]
    refine wp_istore_n (n := 22) K dX1_nearAt_21 rfl (by decide) ?_
    refine wp_iinc (n := 25) K dX1_nearAt_22 rfl rfl (by decide) ?_
    refine wp_goto K dX1_nearAt_25 (tgt := 10) (by decide) ?_
    exact ih (by omega)
theorem cnt10 {n : Nat} (h : n < 1024) : cnt 12 n ≤ 10 := by
  have e : cnt 12 n = cnt 10 n + (n.testBit 10).toNat + (n.testBit 11).toNat := rfl
  have h1 : n.testBit 10 = false := Nat.testBit_lt_two_pow (by omega)
  have h2 : n.testBit 11 = false := Nat.testBit_lt_two_pow (by omega)
  rw [e, h1, h2]
  exact cnt_le 10 n

theorem c_ld_in {X : XT} {S : ST} {P : Option Value → ST → MT → Prop} {S0 : ST} (K : Ok E1 X yX1_lendByDraws cX1_lendByDraws 9 (some .int) rm_X1_lendByDraws P S0) (hS : S = S0) (a N did k : Int) (w8 : Value) (x h c : Nat) (B : MT) (σ : Nat → Int) (hHB : HN B σ) (hw : WH σ) (hh : h < 10) (hc : cnt 12 (nrN σ h) = c) (hc0 : 0 < c) (hx : x < 30091) (c3 : Nat) (hc3 : σ 3 = c3) (hlt : h < c3) (to : Nat) (hto : nthB (nrN σ h) (x % c) = to) (ht3 : to < c3) (hn2 : nrN σ h < 1024) (htb : (nrN σ h).testBit to = true)
    (kT : 0 < σ (70 + 3 * h) → ∀ B1 : MT, (∀ b, b ∉ [25, 26] → B1 b = B b) → HN B1 (lendsA σ h to) → Wp E1 X 13 [.ref 24, .int (z a), .int (z N), .int (z ((nxd x : Nat) : Int)), .int (z (did + 1)), .int (z (k + 1)), .int (z (h : Int)), .int (z (c : Int)), .int (z (to : Int))] [] S B1)
    (kF : ¬ 0 < σ (70 + 3 * h) → Wp E1 X 13 [.ref 24, .int (z a), .int (z N), .int (z ((nxd x : Nat) : Int)), .int (z did), .int (z (k + 1)), .int (z (h : Int)), .int (z (c : Int)), .int (z (to : Int))] [] S B) :
    Wp E1 X 57 [.ref 24, .int (z a), .int (z N), .int (z (x : Int)), .int (z did), .int (z k), .int (z (h : Int)), .int (z (c : Int)), w8] [] S B := by
  subst hS
  have h3 := hw.1
  have hc10 : c ≤ 10 := by rw [← hc]; exact cnt10 hn2
  have hml : x % c < c := Nat.mod_lt _ hc0
  have em : brem ((x : Nat) : Int) ((c : Nat) : Int) = ((x % c : Nat) : Int) := brem_n (by omega) (by omega) (by omega)
  refine wp_aload_n (n := 58) K dX1_lendByDraws_57 rfl rfl ?_
  refine wp_iload (n := 60) K dX1_lendByDraws_58 rfl rfl ?_
  refine wp_iload_n (n := 61) K dX1_lendByDraws_60 rfl rfl ?_
  refine wp_iload (n := 63) K dX1_lendByDraws_61 rfl rfl ?_
  refine wp_irem (n := 64) K dX1_lendByDraws_63 rfl (by rw [w32_id (by omega) (by omega)]; omega) ?_
  rw [em]
  refine wp_invV_i (n := 67) K dX1_lendByDraws_64 rfl cf_X1_47 (c_nearAt h (x % c) hh _ _ σ hHB hw (by omega) (by rw [hc]; exact hml)) rfl rfl rfl (liS rfl) rfl (by decide) ⟨Nat.le_refl _, Nat.le_refl _⟩ (Nat.le_of_ble_eq_true rfl) ?_
  refine wp_istore (n := 69) K dX1_lendByDraws_67 rfl (by decide) ?_
  refine wp_aload_n (n := 70) K dX1_lendByDraws_69 rfl rfl ?_
  refine wp_iload_n (n := 71) K dX1_lendByDraws_70 rfl rfl ?_
  refine wp_invV_i (n := 74) K dX1_lendByDraws_71 rfl cf_X1_41 (c_nextDraw x (by omega) _ _) rfl rfl rfl (liS rfl) rfl (by decide) ⟨Nat.le_refl _, Nat.le_refl _⟩ (Nat.le_of_ble_eq_true rfl) ?_
  refine wp_istore_n (n := 75) K dX1_lendByDraws_74 rfl (by decide) ?_
  refine wp_aload_n (n := 76) K dX1_lendByDraws_75 rfl rfl ?_
  refine wp_iload (n := 78) K dX1_lendByDraws_76 rfl rfl ?_
  refine wp_iload (n := 80) K dX1_lendByDraws_78 rfl rfl ?_
  rw [hto]
  by_cases hsp : 0 < σ (70 + 3 * h)
  · have hcl2 : canL σ ((h : Nat) : Int) (to : Int) := ⟨⟨by omega, by omega⟩, ⟨by omega, by omega⟩, by rw [Int.toNat_natCast, Int.toNat_natCast]; exact htb, by rw [Int.toNat_natCast]; exact hsp⟩
    refine wp_invV_i (n := 83) K dX1_lendByDraws_80 rfl cf_X1_51 (c_canLend _ _ ⟨by omega, by omega⟩ ⟨by omega, by omega⟩ _ _ σ hHB hw true ⟨fun _ => hcl2, fun _ => rfl⟩) rfl rfl rfl (liS rfl) rfl (by decide) ⟨Nat.le_refl _, Nat.le_refl _⟩ (Nat.le_of_ble_eq_true rfl) ?_
    refine wp_if_eq_b (n := 86) K dX1_lendByDraws_83 rfl (tgt := 97) (by decide) (fun c83 => ?_) (fun c83 => ?_)
    · cases c83
    · refine wp_aload_n (n := 87) K dX1_lendByDraws_86 rfl rfl ?_
      refine wp_iload (n := 89) K dX1_lendByDraws_87 rfl rfl ?_
      refine wp_iload (n := 91) K dX1_lendByDraws_89 rfl rfl ?_
      refine wp_invV_qn (n := 94) K dX1_lendByDraws_91 rfl cf_X1_55 (c_moveOne _ _ hh (by omega) _ _ σ hHB) rfl rfl rfl (liS rfl) rfl (by decide) ⟨Nat.le_refl _, Nat.le_refl _⟩ (Nat.le_of_ble_eq_true rfl) (fun A1 hA1 gA1 => ?_)
      refine wp_iinc (n := 97) K dX1_lendByDraws_94 rfl rfl (by decide) ?_
      refine wp_iinc (n := 100) K dX1_lendByDraws_97 rfl rfl (by decide) ?_
      refine wp_goto K dX1_lendByDraws_100 (tgt := 13) (by decide) ?_
      exact kT hsp A1 hA1 gA1
  · refine wp_invV_i (n := 83) K dX1_lendByDraws_80 rfl cf_X1_51 (c_canLend _ _ ⟨by omega, by omega⟩ ⟨by omega, by omega⟩ _ _ σ hHB hw false ⟨(fun q => by cases q), fun q => absurd q.2.2.2 (by rw [Int.toNat_natCast]; exact hsp)⟩) rfl rfl rfl (liS rfl) rfl (by decide) ⟨Nat.le_refl _, Nat.le_refl _⟩ (Nat.le_of_ble_eq_true rfl) ?_
    refine wp_if_eq_b (n := 86) K dX1_lendByDraws_83 rfl (tgt := 97) (by decide) (fun c83 => ?_) (fun c83 => ?_)
    · refine wp_iinc (n := 100) K dX1_lendByDraws_97 rfl rfl (by decide) ?_
      refine wp_goto K dX1_lendByDraws_100 (tgt := 13) (by decide) ?_
      exact kF hsp
    · cases c83
theorem c_lendByDraws (a N : Nat) (ha : a ≤ 9999) (hN1 : 1 ≤ N ∧ N ≤ 99) (S : ST) (M : MT) (κ : Nat → Int) (hH : HN M κ) (hw : WHb 900000 κ) (hN : WN κ) (h3 : 0 < κ 3) : Ct E1 yX1_lendByDraws cX1_lendByDraws 9 (some .int) rm_X1_lendByDraws [.ref 24, .int (z (a : Int)), .int (z (N : Int))] S M (Qi ((townT κ (a * 9 + 4) N).2.2 : Int) [25, 26] S M (fun M1 => HN M1 (townT κ (a * 9 + 4) N).1)) := by
  have hT := townT_w hw h3 (a * 9 + 4) (by omega)
  refine Ct.mk [.ref 24, .int (z (a : Int)), .int (z (N : Int)), mkV, mkV, mkV, mkV, mkV, mkV] (by decide) rfl (Nat.le_of_ble_eq_true rfl) (fun X K => ?_)
  refine wp_iload_n (n := 1) K dX1_lendByDraws_0 rfl rfl ?_
  refine wp_bipush (n := 3) K dX1_lendByDraws_1 rfl rfl ?_
  refine wp_imul (n := 4) K dX1_lendByDraws_3 rfl ?_
  refine wp_iconst (n := 5) K dX1_lendByDraws_4 rfl ?_
  refine wp_iadd (n := 6) K dX1_lendByDraws_5 rfl ?_
  rw [show (a : Int) * 9 + 4 = ((a * 9 + 4 : Nat) : Int) by omega]
  refine wp_istore_n (n := 7) K dX1_lendByDraws_6 rfl (by decide) ?_
  refine wp_iconst (n := 8) K dX1_lendByDraws_7 rfl ?_
  refine wp_istore (n := 10) K dX1_lendByDraws_8 rfl (by decide) ?_
  refine wp_iconst (n := 11) K dX1_lendByDraws_10 rfl ?_
  refine wp_istore (n := 13) K dX1_lendByDraws_11 rfl (by decide) ?_
  refine (dn N (Q := fun k => ∀ (B : MT) (w6 w7 w8 : Value), (∀ b, b ∉ [25, 26] → B b = M b) → HN B (townT κ (a * 9 + 4) k).1 → Wp E1 X 13 [.ref 24, .int (z (a : Int)), .int (z (N : Int)), .int (z ((townT κ (a * 9 + 4) k).2.1 : Int)), .int (z ((townT κ (a * 9 + 4) k).2.2 : Int)), .int (z (k : Int)), w6, w7, w8] [] S B) (fun k hk ih B w6 w7 w8 hB hHB => ?_) 0 (by omega)) M mkV mkV mkV (fun _ _ => rfl) hH
  obtain ⟨t1, t2, t3, t4, t5⟩ := hT k
  refine wp_iload (n := 15) K dX1_lendByDraws_13 rfl rfl ?_
  refine wp_iload_n (n := 16) K dX1_lendByDraws_15 rfl rfl ?_
  refine wp_icmp_ge (n := 19) K dX1_lendByDraws_16 rfl (tgt := 103) (by decide) ⟨by omega, by omega⟩ ⟨by omega, by omega⟩ (fun c16 => ?_) (fun c16 => ?_)
  · have : k = N := by omega
    subst this
    refine wp_iload (n := 105) K dX1_lendByDraws_103 rfl rfl ?_
    refine ret_qi K dX1_lendByDraws_105 ?_ rfl ?_ ?_ ⟨Nat.le_refl _, Nat.le_refl _⟩
    · rfl
    · exact hB
    · exact hHB
  · have ih2 := ih (by omega)
    unfold townT townS at ih2
    generalize (townT κ (a * 9 + 4) k).1 = σ at *
    generalize (townT κ (a * 9 + 4) k).2.1 = x at *
    generalize (townT κ (a * 9 + 4) k).2.2 = did at *
    have hwσ : WH σ := t1.wh (by omega)
    obtain ⟨c3, hc3⟩ : ∃ c3 : Nat, σ 3 = c3 := ⟨(σ 3).toNat, by omega⟩
    rw [hc3, Int.toNat_natCast] at ih2
    have hc30 : 0 < c3 ∧ c3 ≤ 10 := by have := t1.1; omega
    have hh : x % c3 < 10 := Nat.lt_of_lt_of_le (Nat.mod_lt _ (by omega)) (by have := t1.1; omega)
    obtain ⟨n1, n2⟩ := hwσ.nr hh
    have g4 := hHB.1
    refine wp_aload_n (n := 20) K dX1_lendByDraws_19 rfl rfl ?_
    refine wp_getI (n := 23) K dX1_lendByDraws_20 rfl fl_X1_24 rfl (liS rfl) rfl ?_
    try simp only [up_same, up_up, up_ne, ne_eq, Nat.reduceEqDiff, not_false_eq_true, Int.reduceToNat, Int.toNat_natCast]
    refine wp_if_le (n := 26) K dX1_lendByDraws_23 rfl (tgt := 103) (by decide) ⟨by omega, by omega⟩ (fun c23 => ?_) (fun c23 => ?_)
    · omega
    · 
      have er : brem (x : Int) (B 24 4) = ((x % c3 : Nat) : Int) := by rw [g4, hc3]; exact brem_n (by omega) (by omega) (by omega)
      refine wp_iload_n (n := 27) K dX1_lendByDraws_26 rfl rfl ?_
      refine wp_aload_n (n := 28) K dX1_lendByDraws_27 rfl rfl ?_
      refine wp_getI (n := 31) K dX1_lendByDraws_28 rfl fl_X1_24 rfl (liS rfl) rfl ?_
      try simp only [up_same, up_up, up_ne, ne_eq, Nat.reduceEqDiff, not_false_eq_true, Int.reduceToNat, Int.toNat_natCast]
      refine wp_irem (n := 32) K dX1_lendByDraws_31 rfl (by rw [g4, hc3, w32_id (by omega) (by omega)]; omega) ?_
      rw [er]
      refine wp_istore (n := 34) K dX1_lendByDraws_32 rfl (by decide) ?_
      refine wp_aload_n (n := 35) K dX1_lendByDraws_34 rfl rfl ?_
      refine wp_iload_n (n := 36) K dX1_lendByDraws_35 rfl rfl ?_
      refine wp_invV_i (n := 39) K dX1_lendByDraws_36 rfl cf_X1_41 (c_nextDraw x t3 _ _) rfl rfl rfl (liS rfl) rfl (by decide) ⟨Nat.le_refl _, Nat.le_refl _⟩ (Nat.le_of_ble_eq_true rfl) ?_
      refine wp_istore_n (n := 40) K dX1_lendByDraws_39 rfl (by decide) ?_
      refine wp_aload_n (n := 41) K dX1_lendByDraws_40 rfl rfl ?_
      refine wp_getF (n := 44) K dX1_lendByDraws_41 rfl fl_X1_18 rfl (liS rfl) rfl rfl ?_
      refine wp_iload (n := 46) K dX1_lendByDraws_44 rfl rfl ?_
      refine wp_iald (n := 47) K dX1_lendByDraws_46 rfl rfl (liS rfl) ⟨by omega, by omega, by omega⟩ ?_
      try simp only [up_same, up_up, up_ne, ne_eq, Nat.reduceEqDiff, not_false_eq_true, Int.reduceToNat, Int.toNat_natCast]
      rw [(hHB.2 _ hh).2.2, n1]
      have hcl := cnt_le 12 (nrN σ (x % c3))
      have hx1 := nxd_lt x
      refine wp_invS_i (n := 50) K dX1_lendByDraws_47 rfl cf_X1_44 (j_bitCount _ (by omega) _ _) rfl rfl (by decide) ⟨Nat.le_refl _, Nat.le_refl _⟩ (Nat.le_of_ble_eq_true rfl) ?_
      refine wp_istore (n := 52) K dX1_lendByDraws_50 rfl (by decide) ?_
      refine wp_iload (n := 54) K dX1_lendByDraws_52 rfl rfl ?_
      refine wp_if_le (n := 57) K dX1_lendByDraws_54 rfl (tgt := 97) (by decide) ⟨by omega, by omega⟩ (fun c54 => ?_) (fun c54 => ?_)
      · dsimp only at ih2
        rw [if_pos (by omega)] at ih2
        refine wp_iinc (n := 100) K dX1_lendByDraws_97 rfl rfl (by decide) ?_
        refine wp_goto K dX1_lendByDraws_100 (tgt := 13) (by decide) ?_
        exact ih2 B _ _ _ hB hHB
      · dsimp only at ih2
        rw [if_neg (by omega)] at ih2
        have hml : nxd x % cnt 12 (nrN σ (x % c3)) < cnt 12 (nrN σ (x % c3)) := Nat.mod_lt _ (by omega)
        have ht := nthB_ok (n := nrN σ (x % c3)) (w := nxd x % cnt 12 (nrN σ (x % c3))) n2 hml
        generalize hwx : nthB (nrN σ (x % c3)) (nxd x % cnt 12 (nrN σ (x % c3))) = to at ht ih2
        have hto3 : to < c3 := by
          have q1 := hN (x % c3) hh
          have e2 : (κ 3).toNat = c3 := by omega
          have q2 : nrN σ (x % c3) < 2 ^ c3 := by
            rw [e2, p2_c, ← t5 _ hh, n1] at q1
            omega
          rcases Nat.lt_or_ge to c3 with q | q
          · exact q
          · have := Nat.testBit_lt_two_pow (Nat.lt_of_lt_of_le q2 (Nat.pow_le_pow_right (by decide) q))
            rw [ht.1] at this; cases this
        refine c_ld_in K rfl _ _ _ _ _ (nxd x) (x % c3) _ B σ hHB hwσ hh rfl (by omega) hx1 c3 hc3 (Nat.mod_lt _ (by omega)) to hwx hto3 n2 ht.1 (fun hsp B1 q1 q2 => ?_) (fun hsp => ?_)
        · rw [if_pos hsp] at ih2
          exact ih2 B1 _ _ _ (fun b hb => by rw [q1 b hb, hB b hb]) q2
        · rw [if_neg hsp] at ih2
          exact ih2 B _ _ _ hB hHB

theorem townT_o (σ : Nat → Int) (h3 : 0 < σ 3) (hw : WHb 900000 σ) (x : Nat) (hx : x < 100000) (j : Nat) (hj : j < 70 ∨ 100 ≤ j) : ∀ k, k ≤ 99 → (townT σ x k).1 j = σ j := by
  intro k
  induction k with
  | zero => intro _; rfl
  | succ k ih =>
    intro hk
    have ih := ih (by omega)
    obtain ⟨t1, t2, t3, t4, t5⟩ := townT_w hw h3 x hx k
    unfold townT townS
    generalize (townT σ x k).1 = ρ at *
    generalize (townT σ x k).2.1 = y at *
    dsimp only
    split
    · exact ih
    · rename_i hc
      split
      · have hh : y % (ρ 3).toNat < 10 := Nat.lt_of_lt_of_le (Nat.mod_lt _ (by omega)) (by have := t1.1; omega)
        have hwσ : WH ρ := t1.wh (by omega)
        obtain ⟨n1, n2⟩ := hwσ.nr hh
        have ht := nthB_ok (n := nrN ρ (y % (ρ 3).toNat)) (w := nxd y % cnt 12 (nrN ρ (y % (ρ 3).toNat))) n2 (Nat.mod_lt _ (by omega))
        exact (lendsA_o ρ _ _ j (fun k hk => by omega) (fun k hk => by omega) hh ht.2).trans ih
      · exact ih
theorem c_town (s n : Int) (h1 : InR s) (h2 : InR n) (S : ST) (M : MT) (σ : Nat → Int) (h : CN M σ) (hw : WHb 900000 σ) (hN : WN σ) (h6 : 0 ≤ σ 6 ∧ σ 6 ≤ 30) : (okTown σ s n → Ct E1 yX11_town cX11_town 3 (some .int) rm_X11_town [.ref 16, .int (z s), .int (z n)] S M (Qi ((townT (keepA σ) (s.toNat * 9 + 4) n.toNat).2.2 : Int) [25, 26, 32, 33] S M (fun M1 => CN M1 (townT (keepA σ) (s.toNat * 9 + 4) n.toNat).1))) ∧ (¬ okTown σ s n → Ct E1 yX11_town cX11_town 3 (some .int) rm_X11_town [.ref 16, .int (z s), .int (z n)] S M (Pi (-1) S M)) := by
  have h3 := hw.1
  have g4 := h.2.1.1
  refine ⟨fun c => ?_, fun c => ?_⟩
  · obtain ⟨c1, c2, c3⟩ := c
    obtain ⟨a, rfl⟩ : ∃ a : Nat, s = a := ⟨s.toNat, by omega⟩
    obtain ⟨N, rfl⟩ : ∃ a : Nat, n = a := ⟨n.toNat, by omega⟩
    rw [Int.toNat_natCast, Int.toNat_natCast]
    have e := keepA_h σ h6
    have hwk : WHb 900000 (keepA σ) := hw.congr (fun j h1 h2 => e j h2 (by omega))
    have hk3 : keepA σ 3 = σ 3 := e 3 (by omega) (by omega)
    have hNk : WN (keepA σ) := fun k hk => by rw [e _ (by omega) (by omega), hk3]; exact hN k hk
    refine Ct.mk [.ref 16, .int (z (a : Int)), .int (z (N : Int))] (by decide) rfl (Nat.le_of_ble_eq_true rfl) (fun X K => ?_)
    have k37 : Wp E1 X 37 [.ref 16, .int (z (a : Int)), .int (z (N : Int))] [] S M := by
      refine wp_aload_n (n := 38) K dX11_town_37 rfl rfl ?_
      refine wp_getF (n := 41) K dX11_town_38 rfl fl_X11_12 rfl (liS rfl) rfl rfl ?_
      refine wp_getF (n := 44) K dX11_town_41 rfl fl_X11_187 rfl (liS rfl) rfl rfl ?_
      refine wp_aload_n (n := 45) K dX11_town_44 rfl rfl ?_
      refine wp_getF (n := 48) K dX11_town_45 rfl fl_X11_12 rfl (liS rfl) rfl rfl ?_
      refine wp_getI (n := 51) K dX11_town_48 rfl fl_X11_177 rfl (liS rfl) rfl ?_
      try simp only [up_same, up_up, up_ne, ne_eq, Nat.reduceEqDiff, not_false_eq_true, Int.reduceToNat, Int.toNat_natCast]
      refine wp_aload_n (n := 52) K dX11_town_51 rfl rfl ?_
      refine wp_getF (n := 55) K dX11_town_52 rfl fl_X11_12 rfl (liS rfl) rfl rfl ?_
      refine wp_getF (n := 58) K dX11_town_55 rfl fl_X11_106 rfl (liS rfl) rfl rfl ?_
      rw [h.2.2.2.2.2.2.2]
      refine wp_invV_qn (n := 61) K dX11_town_58 rfl cf_X11_191 (c_keep _ _ σ h6 h.2.2.2.1 h.2.1) rfl rfl rfl (liS rfl) rfl (by decide) ⟨Nat.le_refl _, Nat.le_refl _⟩ (Nat.le_of_ble_eq_true rfl) (fun A1 hA1 gA1 => ?_)
      refine wp_aload_n (n := 62) K dX11_town_61 rfl rfl ?_
      refine wp_getF (n := 65) K dX11_town_62 rfl fl_X11_12 rfl (liS rfl) rfl rfl ?_
      refine wp_getF (n := 68) K dX11_town_65 rfl fl_X11_106 rfl (liS rfl) rfl rfl ?_
      refine wp_iload_n (n := 69) K dX11_town_68 rfl rfl ?_
      refine wp_iload_n (n := 70) K dX11_town_69 rfl rfl ?_
      have g1 := keep_rest h6 h hA1 gA1
      refine wp_invV_qi (n := 73) K dX11_town_70 rfl cf_X11_268 (c_lendByDraws a N (by omega) ⟨by omega, by omega⟩ _ _ _ g1.2.1 hwk hNk (by omega)) rfl rfl rfl (liS rfl) rfl (by decide) ⟨Nat.le_refl _, Nat.le_refl _⟩ (Nat.le_of_ble_eq_true rfl) (fun A2 hA2 gA2 => ?_)
      refine ret_qi K dX11_town_73 ?_ rfl ?_ ?_ ⟨Nat.le_refl _, Nat.le_refl _⟩
      · rfl
      · intro b hb
        simp only [List.mem_cons, List.not_mem_nil, or_false, not_or] at hb
        rw [hA2 b (by simp [hb]), hA1 b (by simp [hb])]
      · have eo : ∀ j, (j < 70 ∨ 100 ≤ j) → (townT (keepA σ) (a * 9 + 4) N).1 j = keepA σ j := fun j hj => townT_o _ (by omega) hwk _ (by omega) j hj N (by omega)
        refine ⟨SNs (SNm g1.1 (fun b u1 u2 => hA2 b (by simp; omega))) (fun j hj => eo j (by omega)), gA2, NNs (NNm g1.2.2.1 (fun b u1 u2 => hA2 b (by simp; omega))) (fun j hj => eo j (by omega)), GNs (GNm g1.2.2.2.1 (fun b u1 u2 => hA2 b (by simp; omega))) (fun j hj => eo j (by omega)), ?_⟩
        unfold FD
        rw [hA2 17 (by decide), eo 4 (by omega), eo 5 (by omega), eo 2 (by omega), eo 1 (by omega)]
        exact g1.2.2.2.2
    refine wp_iload_n (n := 1) K dX11_town_0 rfl rfl ?_
    refine wp_if_lt (n := 4) K dX11_town_1 rfl (tgt := 35) (by decide) ⟨by omega, by omega⟩ (fun c1 => ?_) (fun c1 => ?_)
    · omega
    · refine wp_iload_n (n := 5) K dX11_town_4 rfl rfl ?_
      refine wp_sipush (n := 8) K dX11_town_5 rfl rfl ?_
      refine wp_icmp_gt (n := 11) K dX11_town_8 rfl (tgt := 35) (by decide) ⟨by omega, by omega⟩ ⟨by omega, by omega⟩ (fun c8 => ?_) (fun c8 => ?_)
      · omega
      · refine wp_iload_n (n := 12) K dX11_town_11 rfl rfl ?_
        refine wp_iconst (n := 13) K dX11_town_12 rfl ?_
        refine wp_icmp_lt (n := 16) K dX11_town_13 rfl (tgt := 35) (by decide) ⟨by omega, by omega⟩ ⟨by omega, by omega⟩ (fun c13 => ?_) (fun c13 => ?_)
        · omega
        · refine wp_iload_n (n := 17) K dX11_town_16 rfl rfl ?_
          refine wp_bipush (n := 19) K dX11_town_17 rfl rfl ?_
          refine wp_icmp_gt (n := 22) K dX11_town_19 rfl (tgt := 35) (by decide) ⟨by omega, by omega⟩ ⟨by omega, by omega⟩ (fun c19 => ?_) (fun c19 => ?_)
          · omega
          · refine wp_aload_n (n := 23) K dX11_town_22 rfl rfl ?_
            refine wp_getF (n := 26) K dX11_town_23 rfl fl_X11_12 rfl (liS rfl) rfl rfl ?_
            refine wp_getF (n := 29) K dX11_town_26 rfl fl_X11_106 rfl (liS rfl) rfl rfl ?_
            refine wp_getI (n := 32) K dX11_town_29 rfl fl_X11_110 rfl (liS rfl) rfl ?_
            try simp only [up_same, up_up, up_ne, ne_eq, Nat.reduceEqDiff, not_false_eq_true, Int.reduceToNat, Int.toNat_natCast]
            refine wp_if_ne (n := 35) K dX11_town_32 rfl (tgt := 37) (by decide) ⟨by omega, by omega⟩ (fun c32 => ?_) (fun c32 => ?_)
            · exact k37
            · omega
  · refine Ct.mk [.ref 16, .int (z s), .int (z n)] (by decide) rfl (Nat.le_of_ble_eq_true rfl) (fun X K => ?_)
    refine wp_iload_n (n := 1) K dX11_town_0 rfl rfl ?_
    refine wp_if_lt (n := 4) K dX11_town_1 rfl (tgt := 35) (by decide) ⟨by omega, by omega⟩ (fun c1 => ?_) (fun c1 => ?_)
    · refine wp_iconst (n := 36) K dX11_town_35 rfl ?_
      refine ret_i K dX11_town_36 ?_ rfl ?_ ⟨Nat.le_refl _, Nat.le_refl _⟩
      all_goals rfl
    · refine wp_iload_n (n := 5) K dX11_town_4 rfl rfl ?_
      refine wp_sipush (n := 8) K dX11_town_5 rfl rfl ?_
      refine wp_icmp_gt (n := 11) K dX11_town_8 rfl (tgt := 35) (by decide) ⟨by omega, by omega⟩ ⟨by omega, by omega⟩ (fun c8 => ?_) (fun c8 => ?_)
      · refine wp_iconst (n := 36) K dX11_town_35 rfl ?_
        refine ret_i K dX11_town_36 ?_ rfl ?_ ⟨Nat.le_refl _, Nat.le_refl _⟩
        all_goals rfl
      · refine wp_iload_n (n := 12) K dX11_town_11 rfl rfl ?_
        refine wp_iconst (n := 13) K dX11_town_12 rfl ?_
        refine wp_icmp_lt (n := 16) K dX11_town_13 rfl (tgt := 35) (by decide) ⟨by omega, by omega⟩ ⟨by omega, by omega⟩ (fun c13 => ?_) (fun c13 => ?_)
        · refine wp_iconst (n := 36) K dX11_town_35 rfl ?_
          refine ret_i K dX11_town_36 ?_ rfl ?_ ⟨Nat.le_refl _, Nat.le_refl _⟩
          all_goals rfl
        · refine wp_iload_n (n := 17) K dX11_town_16 rfl rfl ?_
          refine wp_bipush (n := 19) K dX11_town_17 rfl rfl ?_
          refine wp_icmp_gt (n := 22) K dX11_town_19 rfl (tgt := 35) (by decide) ⟨by omega, by omega⟩ ⟨by omega, by omega⟩ (fun c19 => ?_) (fun c19 => ?_)
          · refine wp_iconst (n := 36) K dX11_town_35 rfl ?_
            refine ret_i K dX11_town_36 ?_ rfl ?_ ⟨Nat.le_refl _, Nat.le_refl _⟩
            all_goals rfl
          · refine wp_aload_n (n := 23) K dX11_town_22 rfl rfl ?_
            refine wp_getF (n := 26) K dX11_town_23 rfl fl_X11_12 rfl (liS rfl) rfl rfl ?_
            refine wp_getF (n := 29) K dX11_town_26 rfl fl_X11_106 rfl (liS rfl) rfl rfl ?_
            refine wp_getI (n := 32) K dX11_town_29 rfl fl_X11_110 rfl (liS rfl) rfl ?_
            try simp only [up_same, up_up, up_ne, ne_eq, Nat.reduceEqDiff, not_false_eq_true, Int.reduceToNat, Int.toNat_natCast]
            refine wp_if_ne (n := 35) K dX11_town_32 rfl (tgt := 37) (by decide) ⟨by omega, by omega⟩ (fun c32 => ?_) (fun c32 => ?_)
            · exact absurd ⟨⟨by omega, by omega⟩, ⟨by omega, by omega⟩, by omega⟩ c
            · refine wp_iconst (n := 36) K dX11_town_35 rfl ?_
              refine ret_i K dX11_town_36 ?_ rfl ?_ ⟨Nat.le_refl _, Nat.le_refl _⟩
              all_goals rfl
