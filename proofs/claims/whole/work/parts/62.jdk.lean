/-! the methods of the JDK that the class calls -/

theorem j_min {E : ET} (a b : Int) (ha : InR a) (hb : InR b) (S : ST) (M : MT) : Ct E yJ9_min_7cf53 cJ9_min_7cf53 2 (some .int) rm_J9_min_7cf53 [.int (z a), .int (z b)] S M (Pi (min a b) S M) := by
  refine Ct.mkF [.int (z a), .int (z b)] (by decide +kernel) rfl (Nat.le_of_ble_eq_true rfl) (fun X K => ?_)
  refine wp_iload_n (n := 1) K dJ9_min_7cf53_0 rfl rfl ?_
  refine wp_iload_n (n := 2) K dJ9_min_7cf53_1 rfl rfl ?_
  refine wp_icmp_gt (n := 5) K dJ9_min_7cf53_2 rfl (tgt := 9) (by decide) ⟨by omega, by omega⟩ ⟨by omega, by omega⟩ (fun c2 => ?_) (fun c2 => ?_)
  · refine wp_iload_n (n := 10) K dJ9_min_7cf53_9 rfl rfl ?_
    refine ret_i K dJ9_min_7cf53_10 ?_ rfl ?_ ⟨Nat.le_refl _, Nat.le_refl _⟩
    all_goals first | rfl | omega
  · refine wp_iload_n (n := 6) K dJ9_min_7cf53_5 rfl rfl ?_
    refine wp_goto K dJ9_min_7cf53_6 (tgt := 10) (by decide) ?_
    refine ret_i K dJ9_min_7cf53_10 ?_ rfl ?_ ⟨Nat.le_refl _, Nat.le_refl _⟩
    all_goals first | rfl | omega

theorem j_max {E : ET} (a b : Int) (ha : InR a) (hb : InR b) (S : ST) (M : MT) : Ct E yJ9_max_7cf53 cJ9_max_7cf53 2 (some .int) rm_J9_max_7cf53 [.int (z a), .int (z b)] S M (Pi (max a b) S M) := by
  refine Ct.mkF [.int (z a), .int (z b)] (by decide +kernel) rfl (Nat.le_of_ble_eq_true rfl) (fun X K => ?_)
  refine wp_iload_n (n := 1) K dJ9_max_7cf53_0 rfl rfl ?_
  refine wp_iload_n (n := 2) K dJ9_max_7cf53_1 rfl rfl ?_
  refine wp_icmp_lt (n := 5) K dJ9_max_7cf53_2 rfl (tgt := 9) (by decide) ⟨by omega, by omega⟩ ⟨by omega, by omega⟩ (fun c2 => ?_) (fun c2 => ?_)
  · refine wp_iload_n (n := 10) K dJ9_max_7cf53_9 rfl rfl ?_
    refine ret_i K dJ9_max_7cf53_10 ?_ rfl ?_ ⟨Nat.le_refl _, Nat.le_refl _⟩
    all_goals first | rfl | omega
  · refine wp_iload_n (n := 6) K dJ9_max_7cf53_5 rfl rfl ?_
    refine wp_goto K dJ9_max_7cf53_6 (tgt := 10) (by decide) ?_
    refine ret_i K dJ9_max_7cf53_10 ?_ rfl ?_ ⟨Nat.le_refl _, Nat.le_refl _⟩
    all_goals first | rfl | omega

theorem j_minl {E : ET} (a b : Int) (ha : -9223372036854775808 ≤ a ∧ a < 9223372036854775808) (hb : -9223372036854775808 ≤ b ∧ b < 9223372036854775808) (S : ST) (M : MT) : Ct E yJ9_min_f86c9 cJ9_min_f86c9 4 (some .long) rm_J9_min_f86c9 [.long (zl a), .long (zl b)] S M (Pl (min a b) S M) := by
  refine Ct.mkF [.long (zl a), mkV, .long (zl b), mkV] (by decide +kernel) rfl (Nat.le_of_ble_eq_true rfl) (fun X K => ?_)
  refine wp_lload_n (n := 1) K dJ9_min_f86c9_0 rfl rfl ?_
  refine wp_lload_n (n := 2) K dJ9_min_f86c9_1 rfl rfl ?_
  refine wp_lcmp (n := 3) K dJ9_min_f86c9_2 rfl ?_
  refine wp_if_gt (n := 6) K dJ9_min_f86c9_3 rfl (tgt := 10) (by decide) (lcmp_r _ _) (fun c3 => ?_) (fun c3 => ?_)
  · refine wp_lload_n (n := 11) K dJ9_min_f86c9_10 rfl rfl ?_
    refine ret_l K dJ9_min_f86c9_11 ?_ rfl ?_ ⟨Nat.le_refl _, Nat.le_refl _⟩
    · have := lcmp_gt.mp c3; rw [w64_id ha.1 ha.2, w64_id hb.1 hb.2] at this; omega
    · rfl
  · refine wp_lload_n (n := 7) K dJ9_min_f86c9_6 rfl rfl ?_
    refine wp_goto K dJ9_min_f86c9_7 (tgt := 11) (by decide) ?_
    refine ret_l K dJ9_min_f86c9_11 ?_ rfl ?_ ⟨Nat.le_refl _, Nat.le_refl _⟩
    · have := lcmp_le.mp c3; rw [w64_id ha.1 ha.2, w64_id hb.1 hb.2] at this; omega
    · rfl

theorem j_maxl {E : ET} (a b : Int) (ha : -9223372036854775808 ≤ a ∧ a < 9223372036854775808) (hb : -9223372036854775808 ≤ b ∧ b < 9223372036854775808) (S : ST) (M : MT) : Ct E yJ9_max_f86c9 cJ9_max_f86c9 4 (some .long) rm_J9_max_f86c9 [.long (zl a), .long (zl b)] S M (Pl (max a b) S M) := by
  refine Ct.mkF [.long (zl a), mkV, .long (zl b), mkV] (by decide +kernel) rfl (Nat.le_of_ble_eq_true rfl) (fun X K => ?_)
  refine wp_lload_n (n := 1) K dJ9_max_f86c9_0 rfl rfl ?_
  refine wp_lload_n (n := 2) K dJ9_max_f86c9_1 rfl rfl ?_
  refine wp_lcmp (n := 3) K dJ9_max_f86c9_2 rfl ?_
  refine wp_if_lt (n := 6) K dJ9_max_f86c9_3 rfl (tgt := 10) (by decide) (lcmp_r _ _) (fun c3 => ?_) (fun c3 => ?_)
  · refine wp_lload_n (n := 11) K dJ9_max_f86c9_10 rfl rfl ?_
    refine ret_l K dJ9_max_f86c9_11 ?_ rfl ?_ ⟨Nat.le_refl _, Nat.le_refl _⟩
    · have := lcmp_lt.mp c3; rw [w64_id ha.1 ha.2, w64_id hb.1 hb.2] at this; omega
    · rfl
  · refine wp_lload_n (n := 7) K dJ9_max_f86c9_6 rfl rfl ?_
    refine wp_goto K dJ9_max_f86c9_7 (tgt := 11) (by decide) ?_
    refine ret_l K dJ9_max_f86c9_11 ?_ rfl ?_ ⟨Nat.le_refl _, Nat.le_refl _⟩
    · have := lcmp_ge.mp c3; rw [w64_id ha.1 ha.2, w64_id hb.1 hb.2] at this; omega
    · rfl

theorem j_bitCount {E : ET} (n : Nat) (h : n < 4096) (S : ST) (M : MT) : Ct E yJ6_bitCount_0f7a4 cJ6_bitCount_0f7a4 1 (some .int) rm_J6_bitCount_0f7a4 [.int (z (n : Int))] S M (Pi (cnt 12 n : Int) S M) := by
  refine Ct.mk [.int (z (n : Int))] (by decide) rfl (Nat.le_of_ble_eq_true rfl) (fun X K => ?_)
  refine wp_iload_n (n := 1) K dJ6_bitCount_0f7a4_0 rfl rfl ?_
  refine wp_iload_n (n := 2) K dJ6_bitCount_0f7a4_1 rfl rfl ?_
  refine wp_iconst (n := 3) K dJ6_bitCount_0f7a4_2 rfl ?_
  refine wp_iushr (n := 4) K dJ6_bitCount_0f7a4_3 rfl ?_
  refine wp_ldc_w (n := 7) K dJ6_bitCount_0f7a4_4 rfl (1431655765) co_J6_265 ?_
  refine wp_iand (n := 8) K dJ6_bitCount_0f7a4_7 rfl ?_
  refine wp_isub (n := 9) K dJ6_bitCount_0f7a4_8 rfl ?_
  refine wp_istore_n (n := 10) K dJ6_bitCount_0f7a4_9 rfl (by decide) ?_
  change Wp E X 10 [.int (z (bc1 (n : Int)))] [] S M
  refine wp_iload_n (n := 11) K dJ6_bitCount_0f7a4_10 rfl rfl ?_
  refine wp_ldc_w (n := 14) K dJ6_bitCount_0f7a4_11 rfl (858993459) co_J6_266 ?_
  refine wp_iand (n := 15) K dJ6_bitCount_0f7a4_14 rfl ?_
  refine wp_iload_n (n := 16) K dJ6_bitCount_0f7a4_15 rfl rfl ?_
  refine wp_iconst (n := 17) K dJ6_bitCount_0f7a4_16 rfl ?_
  refine wp_iushr (n := 18) K dJ6_bitCount_0f7a4_17 rfl ?_
  refine wp_ldc_w (n := 21) K dJ6_bitCount_0f7a4_18 rfl (858993459) co_J6_266 ?_
  refine wp_iand (n := 22) K dJ6_bitCount_0f7a4_21 rfl ?_
  refine wp_iadd (n := 23) K dJ6_bitCount_0f7a4_22 rfl ?_
  refine wp_istore_n (n := 24) K dJ6_bitCount_0f7a4_23 rfl (by decide) ?_
  change Wp E X 24 [.int (z (bc2 (bc1 (n : Int))))] [] S M
  refine wp_iload_n (n := 25) K dJ6_bitCount_0f7a4_24 rfl rfl ?_
  refine wp_iload_n (n := 26) K dJ6_bitCount_0f7a4_25 rfl rfl ?_
  refine wp_iconst (n := 27) K dJ6_bitCount_0f7a4_26 rfl ?_
  refine wp_iushr (n := 28) K dJ6_bitCount_0f7a4_27 rfl ?_
  refine wp_iadd (n := 29) K dJ6_bitCount_0f7a4_28 rfl ?_
  refine wp_ldc_w (n := 32) K dJ6_bitCount_0f7a4_29 rfl (252645135) co_J6_267 ?_
  refine wp_iand (n := 33) K dJ6_bitCount_0f7a4_32 rfl ?_
  refine wp_istore_n (n := 34) K dJ6_bitCount_0f7a4_33 rfl (by decide) ?_
  change Wp E X 34 [.int (z (bc3 (bc2 (bc1 (n : Int)))))] [] S M
  refine wp_iload_n (n := 35) K dJ6_bitCount_0f7a4_34 rfl rfl ?_
  refine wp_iload_n (n := 36) K dJ6_bitCount_0f7a4_35 rfl rfl ?_
  refine wp_bipush (n := 38) K dJ6_bitCount_0f7a4_36 rfl rfl ?_
  refine wp_iushr (n := 39) K dJ6_bitCount_0f7a4_38 rfl ?_
  refine wp_iadd (n := 40) K dJ6_bitCount_0f7a4_39 rfl ?_
  refine wp_istore_n (n := 41) K dJ6_bitCount_0f7a4_40 rfl (by decide) ?_
  change Wp E X 41 [.int (z (bc4 (bc3 (bc2 (bc1 (n : Int))))))] [] S M
  refine wp_iload_n (n := 42) K dJ6_bitCount_0f7a4_41 rfl rfl ?_
  refine wp_iload_n (n := 43) K dJ6_bitCount_0f7a4_42 rfl rfl ?_
  refine wp_bipush (n := 45) K dJ6_bitCount_0f7a4_43 rfl rfl ?_
  refine wp_iushr (n := 46) K dJ6_bitCount_0f7a4_45 rfl ?_
  refine wp_iadd (n := 47) K dJ6_bitCount_0f7a4_46 rfl ?_
  refine wp_istore_n (n := 48) K dJ6_bitCount_0f7a4_47 rfl (by decide) ?_
  change Wp E X 48 [.int (z (bc5 (bc4 (bc3 (bc2 (bc1 (n : Int)))))))] [] S M
  refine wp_iload_n (n := 49) K dJ6_bitCount_0f7a4_48 rfl rfl ?_
  refine wp_bipush (n := 51) K dJ6_bitCount_0f7a4_49 rfl rfl ?_
  refine wp_iand (n := 52) K dJ6_bitCount_0f7a4_51 rfl ?_
  refine ret_i K dJ6_bitCount_0f7a4_52 ?_ rfl ?_ ⟨Nat.le_refl _, Nat.le_refl _⟩
  · exact bc_n h
  · rfl

theorem j_ntz {E : ET} (n : Nat) (h : n < 4096) (S : ST) (M : MT) : Ct E yJ6_numberOfTrailingZeros_0f7a4 cJ6_numberOfTrailingZeros_0f7a4 2 (some .int) rm_J6_numberOfTrailingZeros_0f7a4 [.int (z (n : Int))] S M (Pi (ntz n : Int) S M) := by
  refine Ct.mk [.int (z (n : Int)), mkV] (by decide) rfl (Nat.le_of_ble_eq_true rfl) (fun X K => ?_)
  obtain ⟨h1, h2, h3⟩ := nt_n h
  refine wp_iload_n (n := 1) K dJ6_numberOfTrailingZeros_0f7a4_0 rfl rfl ?_
  refine wp_iconst (n := 2) K dJ6_numberOfTrailingZeros_0f7a4_1 rfl ?_
  refine wp_ixor (n := 3) K dJ6_numberOfTrailingZeros_0f7a4_2 rfl ?_
  refine wp_iload_n (n := 4) K dJ6_numberOfTrailingZeros_0f7a4_3 rfl rfl ?_
  refine wp_iconst (n := 5) K dJ6_numberOfTrailingZeros_0f7a4_4 rfl ?_
  refine wp_isub (n := 6) K dJ6_numberOfTrailingZeros_0f7a4_5 rfl ?_
  refine wp_iand (n := 7) K dJ6_numberOfTrailingZeros_0f7a4_6 rfl ?_
  refine wp_istore_n (n := 8) K dJ6_numberOfTrailingZeros_0f7a4_7 rfl (by decide) ?_
  change Wp E X 8 [.int (z (nt1 (n : Int))), mkV] [] S M
  generalize nt1 (n : Int) = i at h1 h2 h3 ⊢
  refine wp_iload_n (n := 9) K dJ6_numberOfTrailingZeros_0f7a4_8 rfl rfl ?_
  refine wp_if_gt (n := 12) K dJ6_numberOfTrailingZeros_0f7a4_9 rfl (tgt := 17) (by decide) ⟨by omega, by omega⟩ (fun c9 => ?_) (fun c9 => ?_)
  · rw [if_neg (by omega)] at h3
    refine wp_iconst (n := 18) K dJ6_numberOfTrailingZeros_0f7a4_17 rfl ?_
    refine wp_istore_n (n := 19) K dJ6_numberOfTrailingZeros_0f7a4_18 rfl (by decide) ?_
    refine wp_iload_n (n := 20) K dJ6_numberOfTrailingZeros_0f7a4_19 rfl rfl ?_
    refine wp_ldc_w (n := 23) K dJ6_numberOfTrailingZeros_0f7a4_20 rfl (65536) co_J6_264 ?_
    refine wp_icmp_le (n := 26) K dJ6_numberOfTrailingZeros_0f7a4_23 rfl (tgt := 34) (by decide) ⟨by omega, by omega⟩ ⟨by omega, by omega⟩ (fun c23 => ?_) (fun c23 => ?_)
    · have r2 : InR (nt2 i) := by unfold nt2; split; exact h1; exact inR_ushr _ _
      have r3 : InR (nt3 (nt2 i)) := by unfold nt3; split; exact r2; exact inR_ushr _ _
      have k49 : Wp E X 49 [.int (z (nt2 i)), .int (z (na2 i))] [] S M := by
        refine wp_iload_n (n := 50) K dJ6_numberOfTrailingZeros_0f7a4_49 rfl rfl ?_
        refine wp_bipush (n := 52) K dJ6_numberOfTrailingZeros_0f7a4_50 rfl rfl ?_
        refine wp_icmp_le (n := 55) K dJ6_numberOfTrailingZeros_0f7a4_52 rfl (tgt := 62) (by decide) ⟨by omega, by omega⟩ ⟨by omega, by omega⟩ (fun c52 => ?_) (fun c52 => ?_)
        · have e3 : nt3 (nt2 i) = nt2 i := if_pos c52
          have e4 : na3 (na2 i) (nt2 i) = na2 i := if_pos c52
          have k62 : Wp E X 62 [.int (z (nt2 i)), .int (z (na2 i))] [] S M := by
            refine wp_iload_n (n := 63) K dJ6_numberOfTrailingZeros_0f7a4_62 rfl rfl ?_
            refine wp_iconst (n := 64) K dJ6_numberOfTrailingZeros_0f7a4_63 rfl ?_
            refine wp_icmp_le (n := 67) K dJ6_numberOfTrailingZeros_0f7a4_64 rfl (tgt := 74) (by decide) ⟨by omega, by omega⟩ ⟨by omega, by omega⟩ (fun c64 => ?_) (fun c64 => ?_)
            · refine wp_iload_n (n := 75) K dJ6_numberOfTrailingZeros_0f7a4_74 rfl rfl ?_
              refine wp_iload_n (n := 76) K dJ6_numberOfTrailingZeros_0f7a4_75 rfl rfl ?_
              refine wp_iconst (n := 77) K dJ6_numberOfTrailingZeros_0f7a4_76 rfl ?_
              refine wp_iushr (n := 78) K dJ6_numberOfTrailingZeros_0f7a4_77 rfl ?_
              refine wp_iadd (n := 79) K dJ6_numberOfTrailingZeros_0f7a4_78 rfl ?_
              refine ret_i K dJ6_numberOfTrailingZeros_0f7a4_79 ?_ rfl ?_ ⟨Nat.le_refl _, Nat.le_refl _⟩
              · rw [← h3]; unfold ntR; rw [e3, e4]; unfold nt4 na4; rw [if_pos c64, if_pos c64]
              · rfl
            · refine wp_iinc (n := 70) K dJ6_numberOfTrailingZeros_0f7a4_67 rfl rfl (by decide) ?_
              refine wp_iload_n (n := 71) K dJ6_numberOfTrailingZeros_0f7a4_70 rfl rfl ?_
              refine wp_iconst (n := 72) K dJ6_numberOfTrailingZeros_0f7a4_71 rfl ?_
              refine wp_iushr (n := 73) K dJ6_numberOfTrailingZeros_0f7a4_72 rfl ?_
              refine wp_istore_n (n := 74) K dJ6_numberOfTrailingZeros_0f7a4_73 rfl (by decide) ?_
              refine wp_iload_n (n := 75) K dJ6_numberOfTrailingZeros_0f7a4_74 rfl rfl ?_
              refine wp_iload_n (n := 76) K dJ6_numberOfTrailingZeros_0f7a4_75 rfl rfl ?_
              refine wp_iconst (n := 77) K dJ6_numberOfTrailingZeros_0f7a4_76 rfl ?_
              refine wp_iushr (n := 78) K dJ6_numberOfTrailingZeros_0f7a4_77 rfl ?_
              refine wp_iadd (n := 79) K dJ6_numberOfTrailingZeros_0f7a4_78 rfl ?_
              refine ret_i K dJ6_numberOfTrailingZeros_0f7a4_79 ?_ rfl ?_ ⟨Nat.le_refl _, Nat.le_refl _⟩
              · rw [← h3]; unfold ntR; rw [e3, e4]; unfold nt4 na4; rw [if_neg (by omega), if_neg (by omega)]
              · rfl
          exact k62
        · refine wp_iinc (n := 58) K dJ6_numberOfTrailingZeros_0f7a4_55 rfl rfl (by decide) ?_
          refine wp_iload_n (n := 59) K dJ6_numberOfTrailingZeros_0f7a4_58 rfl rfl ?_
          refine wp_iconst (n := 60) K dJ6_numberOfTrailingZeros_0f7a4_59 rfl ?_
          refine wp_iushr (n := 61) K dJ6_numberOfTrailingZeros_0f7a4_60 rfl ?_
          refine wp_istore_n (n := 62) K dJ6_numberOfTrailingZeros_0f7a4_61 rfl (by decide) ?_
          have e3 : nt3 (nt2 i) = bushr (nt2 i) 4 := if_neg (by omega)
          have e4 : na3 (na2 i) (nt2 i) = na2 i + 4 := if_neg (by omega)
          have k62 : Wp E X 62 [.int (z (bushr (nt2 i) 4)), .int (z (na2 i + 4))] [] S M := by
            have r4 := inR_ushr (nt2 i) 4
            refine wp_iload_n (n := 63) K dJ6_numberOfTrailingZeros_0f7a4_62 rfl rfl ?_
            refine wp_iconst (n := 64) K dJ6_numberOfTrailingZeros_0f7a4_63 rfl ?_
            refine wp_icmp_le (n := 67) K dJ6_numberOfTrailingZeros_0f7a4_64 rfl (tgt := 74) (by decide) ⟨by omega, by omega⟩ ⟨by omega, by omega⟩ (fun c64 => ?_) (fun c64 => ?_)
            · refine wp_iload_n (n := 75) K dJ6_numberOfTrailingZeros_0f7a4_74 rfl rfl ?_
              refine wp_iload_n (n := 76) K dJ6_numberOfTrailingZeros_0f7a4_75 rfl rfl ?_
              refine wp_iconst (n := 77) K dJ6_numberOfTrailingZeros_0f7a4_76 rfl ?_
              refine wp_iushr (n := 78) K dJ6_numberOfTrailingZeros_0f7a4_77 rfl ?_
              refine wp_iadd (n := 79) K dJ6_numberOfTrailingZeros_0f7a4_78 rfl ?_
              refine ret_i K dJ6_numberOfTrailingZeros_0f7a4_79 ?_ rfl ?_ ⟨Nat.le_refl _, Nat.le_refl _⟩
              · rw [← h3]; unfold ntR; rw [e3, e4]; unfold nt4 na4; rw [if_pos c64, if_pos c64]
              · rfl
            · refine wp_iinc (n := 70) K dJ6_numberOfTrailingZeros_0f7a4_67 rfl rfl (by decide) ?_
              refine wp_iload_n (n := 71) K dJ6_numberOfTrailingZeros_0f7a4_70 rfl rfl ?_
              refine wp_iconst (n := 72) K dJ6_numberOfTrailingZeros_0f7a4_71 rfl ?_
              refine wp_iushr (n := 73) K dJ6_numberOfTrailingZeros_0f7a4_72 rfl ?_
              refine wp_istore_n (n := 74) K dJ6_numberOfTrailingZeros_0f7a4_73 rfl (by decide) ?_
              refine wp_iload_n (n := 75) K dJ6_numberOfTrailingZeros_0f7a4_74 rfl rfl ?_
              refine wp_iload_n (n := 76) K dJ6_numberOfTrailingZeros_0f7a4_75 rfl rfl ?_
              refine wp_iconst (n := 77) K dJ6_numberOfTrailingZeros_0f7a4_76 rfl ?_
              refine wp_iushr (n := 78) K dJ6_numberOfTrailingZeros_0f7a4_77 rfl ?_
              refine wp_iadd (n := 79) K dJ6_numberOfTrailingZeros_0f7a4_78 rfl ?_
              refine ret_i K dJ6_numberOfTrailingZeros_0f7a4_79 ?_ rfl ?_ ⟨Nat.le_refl _, Nat.le_refl _⟩
              · rw [← h3]; unfold ntR; rw [e3, e4]; unfold nt4 na4; rw [if_neg (by omega), if_neg (by omega)]
              · rfl
          exact k62
      refine wp_iload_n (n := 35) K dJ6_numberOfTrailingZeros_0f7a4_34 rfl rfl ?_
      refine wp_sipush (n := 38) K dJ6_numberOfTrailingZeros_0f7a4_35 rfl rfl ?_
      refine wp_icmp_le (n := 41) K dJ6_numberOfTrailingZeros_0f7a4_38 rfl (tgt := 49) (by decide) ⟨by omega, by omega⟩ ⟨by omega, by omega⟩ (fun c38 => ?_) (fun c38 => ?_)
      · have e1 : nt2 i = i := if_pos c38
        have e2 : na2 i = 1 := if_pos c38
        rw [e1, e2] at k49
        exact k49
      · refine wp_iinc (n := 44) K dJ6_numberOfTrailingZeros_0f7a4_41 rfl rfl (by decide) ?_
        refine wp_iload_n (n := 45) K dJ6_numberOfTrailingZeros_0f7a4_44 rfl rfl ?_
        refine wp_bipush (n := 47) K dJ6_numberOfTrailingZeros_0f7a4_45 rfl rfl ?_
        refine wp_iushr (n := 48) K dJ6_numberOfTrailingZeros_0f7a4_47 rfl ?_
        refine wp_istore_n (n := 49) K dJ6_numberOfTrailingZeros_0f7a4_48 rfl (by decide) ?_
        have e1 : nt2 i = bushr i 8 := if_neg (by omega)
        have e2 : na2 i = 9 := if_neg (by omega)
        rw [e1, e2] at k49
        exact k49
    · omega
  · refine wp_iload_n (n := 13) K dJ6_numberOfTrailingZeros_0f7a4_12 rfl rfl ?_
    refine wp_bipush (n := 15) K dJ6_numberOfTrailingZeros_0f7a4_13 rfl rfl ?_
    refine wp_iand (n := 16) K dJ6_numberOfTrailingZeros_0f7a4_15 rfl ?_
    refine ret_i K dJ6_numberOfTrailingZeros_0f7a4_16 ?_ rfl ?_ ⟨Nat.le_refl _, Nat.le_refl _⟩
    · rw [if_pos (by omega)] at h3; exact h3
    · rfl

theorem j_coder {E : ET} (i : Nat) (hi : i < 2) (S : ST) (M : MT) : Ct E yJ0_coder_7d493 cJ0_coder_7d493 1 (some .byte) rm_J0_coder_7d493 [.ref (2 + 2 * i)] S M (Pi 0 S M) := by
  refine Ct.mk [.ref (2 + 2 * i)] (by decide) rfl (Nat.le_of_ble_eq_true rfl) (fun X K => ?_)
  refine wp_getCS (n := 3) K dJ0_coder_7d493_0 rfl rfl ?_
  refine wp_if_eq (n := 6) K dJ0_coder_7d493_3 rfl (tgt := 13) (by decide) ⟨by omega, by omega⟩ (fun c3 => ?_) (fun c3 => ?_)
  · exact absurd c3 (by decide)
  · refine wp_aload_n (n := 7) K dJ0_coder_7d493_6 rfl rfl ?_
    refine wp_strC (n := 10) K dJ0_coder_7d493_7 rfl rfl hi ?_
    try simp only [up_same, up_up, Int.reduceToNat, Int.toNat_natCast]
    refine wp_goto K dJ0_coder_7d493_10 (tgt := 14) (by decide) ?_
    refine ret_t K dJ0_coder_7d493_14 ?_ ?_ rfl ?_ ⟨Nat.le_refl _, Nat.le_refl _⟩
    · rfl
    · decide
    · rfl

theorem j_isLatin1 {E : ET} (i : Nat) (hi : i < 2) (S : ST) (M : MT) : Ct E yJ0_isLatin1_aae02 cJ0_isLatin1_aae02 1 (some .boolean) rm_J0_isLatin1_aae02 [.ref (2 + 2 * i)] S M (Pi (bI true) S M) := by
  refine Ct.mk [.ref (2 + 2 * i)] (by decide) rfl (Nat.le_of_ble_eq_true rfl) (fun X K => ?_)
  refine wp_getCS (n := 3) K dJ0_isLatin1_aae02_0 rfl rfl ?_
  refine wp_if_eq (n := 6) K dJ0_isLatin1_aae02_3 rfl (tgt := 17) (by decide) ⟨by omega, by omega⟩ (fun c3 => ?_) (fun c3 => ?_)
  · exact absurd c3 (by decide)
  · refine wp_aload_n (n := 7) K dJ0_isLatin1_aae02_6 rfl rfl ?_
    refine wp_strC (n := 10) K dJ0_isLatin1_aae02_7 rfl rfl hi ?_
    try simp only [up_same, up_up, Int.reduceToNat, Int.toNat_natCast]
    refine wp_if_ne (n := 13) K dJ0_isLatin1_aae02_10 rfl (tgt := 17) (by decide) ⟨by omega, by omega⟩ (fun c10 => ?_) (fun c10 => ?_)
    · exact absurd rfl c10
    · refine wp_iconst (n := 14) K dJ0_isLatin1_aae02_13 rfl ?_
      refine wp_goto K dJ0_isLatin1_aae02_14 (tgt := 18) (by decide) ?_
      refine ret_z K dJ0_isLatin1_aae02_18 ?_ rfl ?_ ⟨Nat.le_refl _, Nat.le_refl _⟩
      · rfl
      · rfl
theorem sLn_lt {i : Nat} (hi : i < 2) : sLn.getD i 0 < 100 := by
  match i, hi with
  | 0, _ => decide
  | 1, _ => decide
theorem bshr_0 {n : Nat} (h : n < 100) : bshr (n : Int) 0 = (n : Int) := by
  have := bshr_n (a := n) (k := 0) (by decide) (by omega)
  simpa using this

theorem j_length {E : ET} (i : Nat) (hi : i < 2) (S : ST) (M : MT) : Ct E yJ0_length_8abf5 cJ0_length_8abf5 1 (some .int) rm_J0_length_8abf5 [.ref (2 + 2 * i)] S M (Pi ((sLn.getD i 0 : Nat) : Int) S M) := by
  refine Ct.mk [.ref (2 + 2 * i)] (by decide) rfl (Nat.le_of_ble_eq_true rfl) (fun X K => ?_)
  refine wp_aload_n (n := 1) K dJ0_length_8abf5_0 rfl rfl ?_
  refine wp_strV (n := 4) K dJ0_length_8abf5_1 rfl rfl hi ?_
  try simp only [up_same, up_up, Int.reduceToNat, Int.toNat_natCast]
  refine wp_alenS (n := 5) K dJ0_length_8abf5_4 rfl hi ?_
  refine wp_aload_n (n := 6) K dJ0_length_8abf5_5 rfl rfl ?_
  refine wp_invVS (n := 9) K dJ0_length_8abf5_6 rfl cf_J0_335 (j_coder i hi _ _) rfl rfl hi rfl (by decide) ⟨Nat.le_refl _, Nat.le_refl _⟩ (Nat.le_of_ble_eq_true rfl) ?_
  refine wp_ishr (n := 10) K dJ0_length_8abf5_9 rfl ?_
  refine ret_i K dJ0_length_8abf5_10 ?_ rfl ?_ ⟨Nat.le_refl _, Nat.le_refl _⟩
  · exact bshr_0 (sLn_lt hi)
  · rfl

theorem j_check {E : ET} (a b : Int) (r : Nat) (h : 0 ≤ a ∧ a < b ∧ b < 2147483648) (S : ST) (M : MT) : Ct E yJ3_checkIndex_8e157 cJ3_checkIndex_8e157 3 (some .int) rm_J3_checkIndex_8e157 [.int (z a), .int (z b), .ref r] S M (Pi a S M) := by
  refine Ct.mk [.int (z a), .int (z b), .ref r] (by decide) rfl (Nat.le_of_ble_eq_true rfl) (fun X K => ?_)
  refine wp_iload_n (n := 1) K dJ3_checkIndex_8e157_0 rfl rfl ?_
  refine wp_if_lt (n := 4) K dJ3_checkIndex_8e157_1 rfl (tgt := 9) (by decide) ⟨by omega, by omega⟩ (fun c1 => ?_) (fun c1 => ?_)
  · omega
  · refine wp_iload_n (n := 5) K dJ3_checkIndex_8e157_4 rfl rfl ?_
    refine wp_iload_n (n := 6) K dJ3_checkIndex_8e157_5 rfl rfl ?_
    refine wp_icmp_lt (n := 9) K dJ3_checkIndex_8e157_6 rfl (tgt := 16) (by decide) ⟨by omega, by omega⟩ ⟨by omega, by omega⟩ (fun c6 => ?_) (fun c6 => ?_)
    · refine wp_iload_n (n := 17) K dJ3_checkIndex_8e157_16 rfl rfl ?_
      refine ret_i K dJ3_checkIndex_8e157_17 ?_ rfl ?_ ⟨Nat.le_refl _, Nat.le_refl _⟩
      · rfl
      · rfl
    · omega

theorem j_checkIndex {E : ET} (a b : Int) (h : 0 ≤ a ∧ a < b ∧ b < 2147483648) (S : ST) (M : MT) : Ct E yJ0_checkIndex_df160 cJ0_checkIndex_df160 2 none rm_J0_checkIndex_df160 [.int (z a), .int (z b)] S M (Pn S M) := by
  refine Ct.mk [.int (z a), .int (z b)] (by decide) rfl (Nat.le_of_ble_eq_true rfl) (fun X K => ?_)
  refine wp_iload_n (n := 1) K dJ0_checkIndex_df160_0 rfl rfl ?_
  refine wp_iload_n (n := 2) K dJ0_checkIndex_df160_1 rfl rfl ?_
  refine wp_getSF (n := 5) K dJ0_checkIndex_df160_2 rfl rfl (fun r => ?_)
  refine wp_invS_i (n := 8) K dJ0_checkIndex_df160_5 rfl cf_J0_1059 (j_check a b r h _ _) rfl rfl (by decide) ⟨Nat.le_refl _, Nat.le_refl _⟩ (Nat.le_of_ble_eq_true rfl) ?_
  refine wp_pop (n := 9) K dJ0_checkIndex_df160_8 rfl rfl ?_
  refine ret_n K dJ0_checkIndex_df160_9 rfl ?_ ⟨Nat.le_refl _, Nat.le_refl _⟩
  · rfl

theorem j_l1charAt {E : ET} (i : Nat) (hi : i < 2) (j : Int) (h : 0 ≤ j ∧ j < (sLn.getD i 0 : Nat)) (S : ST) (M : MT) : Ct E yJ1_charAt_3b067 cJ1_charAt_3b067 2 (some .char) rm_J1_charAt_3b067 [.ref (3 + 2 * i), .int (z j)] S M (Pi (sB i j.toNat) S M) := by
  refine Ct.mk [.ref (3 + 2 * i), .int (z j)] (by decide) rfl (Nat.le_of_ble_eq_true rfl) (fun X K => ?_)
  have hb : sLn.getD i 0 < 100 := sLn_lt hi
  have hc := sB_ok hi (j := j.toNat) (by omega)
  refine wp_iload_n (n := 1) K dJ1_charAt_3b067_0 rfl rfl ?_
  refine wp_aload_n (n := 2) K dJ1_charAt_3b067_1 rfl rfl ?_
  refine wp_alenS (n := 3) K dJ1_charAt_3b067_2 rfl hi ?_
  refine wp_invS_n (n := 6) K dJ1_charAt_3b067_3 rfl cf_J1_9 (j_checkIndex _ _ ⟨by omega, by omega, by omega⟩ _ _) rfl rfl (by decide) ⟨Nat.le_refl _, Nat.le_refl _⟩ (Nat.le_of_ble_eq_true rfl) ?_
  refine wp_aload_n (n := 7) K dJ1_charAt_3b067_6 rfl rfl ?_
  refine wp_iload_n (n := 8) K dJ1_charAt_3b067_7 rfl rfl ?_
  refine wp_baldS (n := 9) K dJ1_charAt_3b067_8 rfl hi ⟨by omega, by omega, by omega⟩ ?_
  try simp only [up_same, up_up, Int.reduceToNat, Int.toNat_natCast]
  refine wp_sipush (n := 12) K dJ1_charAt_3b067_9 rfl rfl ?_
  refine wp_iand (n := 13) K dJ1_charAt_3b067_12 rfl ?_
  refine wp_i2c (n := 14) K dJ1_charAt_3b067_13 rfl ?_
  refine ret_t K dJ1_charAt_3b067_14 ?_ ?_ rfl ?_ ⟨Nat.le_refl _, Nat.le_refl _⟩
  · exact hc.1
  · exact nrC hc.2.1 (by omega)
  · rfl

theorem j_charAt {E : ET} (i : Nat) (hi : i < 2) (j : Int) (h : 0 ≤ j ∧ j < (sLn.getD i 0 : Nat)) (S : ST) (M : MT) : Ct E yJ0_charAt_5068e cJ0_charAt_5068e 2 (some .char) rm_J0_charAt_5068e [.ref (2 + 2 * i), .int (z j)] S M (Pi (sB i j.toNat) S M) := by
  refine Ct.mk [.ref (2 + 2 * i), .int (z j)] (by decide) rfl (Nat.le_of_ble_eq_true rfl) (fun X K => ?_)
  have hc := sB_ok hi (j := j.toNat) (by omega)
  refine wp_aload_n (n := 1) K dJ0_charAt_5068e_0 rfl rfl ?_
  refine wp_invVS (n := 4) K dJ0_charAt_5068e_1 rfl cf_J0_492 (j_isLatin1 i hi _ _) rfl rfl hi rfl (by decide) ⟨Nat.le_refl _, Nat.le_refl _⟩ (Nat.le_of_ble_eq_true rfl) ?_
  refine wp_if_eq_b (n := 7) K dJ0_charAt_5068e_4 rfl (tgt := 16) (by decide) (fun c4 => ?_) (fun c4 => ?_)
  · cases c4
  · refine wp_aload_n (n := 8) K dJ0_charAt_5068e_7 rfl rfl ?_
    refine wp_strV (n := 11) K dJ0_charAt_5068e_8 rfl rfl hi ?_
    try simp only [up_same, up_up, Int.reduceToNat, Int.toNat_natCast]
    refine wp_iload_n (n := 12) K dJ0_charAt_5068e_11 rfl rfl ?_
    refine wp_invS_i (n := 15) K dJ0_charAt_5068e_12 rfl cf_J0_495 (j_l1charAt i hi j h _ _) rfl rfl (by decide) ⟨Nat.le_refl _, Nat.le_refl _⟩ (Nat.le_of_ble_eq_true rfl) ?_
    refine ret_t K dJ0_charAt_5068e_15 ?_ ?_ rfl ?_ ⟨Nat.le_refl _, Nat.le_refl _⟩
    · rfl
    · exact nrC hc.2.1 (by omega)
    · rfl

theorem j_canEncode {E : ET} (c : Int) (h : 0 ≤ c ∧ c ≤ 255) (S : ST) (M : MT) : Ct E yJ1_canEncode_9a6ad cJ1_canEncode_9a6ad 1 (some .boolean) rm_J1_canEncode_9a6ad [.int (z c)] S M (Pi (bI true) S M) := by
  refine Ct.mk [.int (z c)] (by decide) rfl (Nat.le_of_ble_eq_true rfl) (fun X K => ?_)
  refine wp_iload_n (n := 1) K dJ1_canEncode_9a6ad_0 rfl rfl ?_
  refine wp_if_lt (n := 4) K dJ1_canEncode_9a6ad_1 rfl (tgt := 15) (by decide) ⟨by omega, by omega⟩ (fun c1 => ?_) (fun c1 => ?_)
  · refine wp_iconst (n := 16) K dJ1_canEncode_9a6ad_15 rfl ?_
    refine ret_z K dJ1_canEncode_9a6ad_16 ?_ rfl ?_ ⟨Nat.le_refl _, Nat.le_refl _⟩
    all_goals first | rfl | omega
  · refine wp_iload_n (n := 5) K dJ1_canEncode_9a6ad_4 rfl rfl ?_
    refine wp_sipush (n := 8) K dJ1_canEncode_9a6ad_5 rfl rfl ?_
    refine wp_icmp_gt (n := 11) K dJ1_canEncode_9a6ad_8 rfl (tgt := 15) (by decide) ⟨by omega, by omega⟩ ⟨by omega, by omega⟩ (fun c8 => ?_) (fun c8 => ?_)
    · refine wp_iconst (n := 16) K dJ1_canEncode_9a6ad_15 rfl ?_
      refine ret_z K dJ1_canEncode_9a6ad_16 ?_ rfl ?_ ⟨Nat.le_refl _, Nat.le_refl _⟩
      all_goals first | rfl | omega
    · refine wp_iconst (n := 12) K dJ1_canEncode_9a6ad_11 rfl ?_
      refine wp_goto K dJ1_canEncode_9a6ad_12 (tgt := 16) (by decide) ?_
      refine ret_z K dJ1_canEncode_9a6ad_16 ?_ rfl ?_ ⟨Nat.le_refl _, Nat.le_refl _⟩
      all_goals first | rfl | omega
def ixS (b : Int) : Nat → Nat → Int
  | 0, _ => -1
  | d + 1, j => if sB 1 j = b then (j : Int) else ixS b d (j + 1)
theorem inR_sB (i j : Nat) : InR (sB i j) := inR_t _

theorem j_indexOfChar {E : ET} (c : Int) (S : ST) (M : MT) : Ct E yJ1_indexOfChar_4cfef cJ1_indexOfChar_4cfef 6 (some .int) rm_J1_indexOfChar_4cfef [.ref 5, .int (z c), .int (z 0), .int (z 11)] S M (Pi (ixS (bi2b c) 11 0) S M) := by
  refine Ct.mk [.ref 5, .int (z c), .int (z 0), .int (z 11), mkV, mkV] (by decide) rfl (Nat.le_of_ble_eq_true rfl) (fun X K => ?_)
  have hi : (1 : Nat) < 2 := by decide
  have hr : InR (bi2b c) := inR_t _
  generalize hv : ixS (bi2b c) 11 0 = v at K
  refine wp_iload_n (n := 1) K dJ1_indexOfChar_4cfef_0 rfl rfl ?_
  refine wp_i2b (n := 2) K dJ1_indexOfChar_4cfef_1 rfl ?_
  refine wp_istore (n := 4) K dJ1_indexOfChar_4cfef_2 rfl (by decide) ?_
  refine wp_iload_n (n := 5) K dJ1_indexOfChar_4cfef_4 rfl rfl ?_
  refine wp_istore (n := 7) K dJ1_indexOfChar_4cfef_5 rfl (by decide) ?_
  refine dn 11 (Q := fun k => ixS (bi2b c) (11 - k) k = v → Wp E X 7 [.ref 5, .int (z c), .int (z 0), .int (z 11), .int (z (bi2b c)), .int (z (k : Int))] [] S M) (fun k hk ih hq => ?_) 0 (by omega) hv
  refine wp_iload (n := 9) K dJ1_indexOfChar_4cfef_7 rfl rfl ?_
  refine wp_iload_n (n := 10) K dJ1_indexOfChar_4cfef_9 rfl rfl ?_
  refine wp_icmp_ge (n := 13) K dJ1_indexOfChar_4cfef_10 rfl (tgt := 31) (by decide) ⟨by omega, by omega⟩ ⟨by omega, by omega⟩ (fun c10 => ?_) (fun c10 => ?_)
  · refine wp_iconst (n := 32) K dJ1_indexOfChar_4cfef_31 rfl ?_
    refine ret_i K dJ1_indexOfChar_4cfef_32 ?_ rfl ?_ ⟨Nat.le_refl _, Nat.le_refl _⟩
    · rw [← hq, show 11 - k = 0 by omega]; rfl
    · rfl
  · have hs := inR_sB 1 k
    rw [show 11 - k = (11 - (k + 1)) + 1 by omega] at hq
    unfold ixS at hq
    refine wp_aload_n (n := 14) K dJ1_indexOfChar_4cfef_13 rfl rfl ?_
    refine wp_iload (n := 16) K dJ1_indexOfChar_4cfef_14 rfl rfl ?_
    refine wp_baldS (i := 1) (j := (k : Int)) (n := 17) K dJ1_indexOfChar_4cfef_16 rfl hi ⟨by omega, by show (k : Int) < 11; omega, by omega⟩ ?_
    try simp only [up_same, up_up, Int.reduceToNat, Int.toNat_natCast]
    refine wp_iload (n := 19) K dJ1_indexOfChar_4cfef_17 rfl rfl ?_
    refine wp_icmp_ne (n := 22) K dJ1_indexOfChar_4cfef_19 rfl (tgt := 25) (by decide) hs hr (fun c19 => ?_) (fun c19 => ?_)
    · rw [if_neg c19] at hq
      refine wp_iinc (n := 28) K dJ1_indexOfChar_4cfef_25 rfl rfl (by decide) ?_
      refine wp_goto K dJ1_indexOfChar_4cfef_28 (tgt := 7) (by decide) ?_
      exact ih (by omega) hq
    · rw [if_pos (by omega)] at hq
      refine wp_iload (n := 24) K dJ1_indexOfChar_4cfef_22 rfl rfl ?_
      refine ret_i K dJ1_indexOfChar_4cfef_24 ?_ rfl ?_ ⟨Nat.le_refl _, Nat.le_refl _⟩
      · exact hq
      · rfl

theorem j_l1indexOf {E : ET} (c : Int) (h : 0 ≤ c ∧ c ≤ 255) (S : ST) (M : MT) : Ct E yJ1_indexOf_4cfef cJ1_indexOf_4cfef 4 (some .int) rm_J1_indexOf_4cfef [.ref 5, .int (z c), .int (z 0), .int (z 11)] S M (Pi (ixS (bi2b c) 11 0) S M) := by
  refine Ct.mk [.ref 5, .int (z c), .int (z 0), .int (z 11)] (by decide) rfl (Nat.le_of_ble_eq_true rfl) (fun X K => ?_)
  refine wp_iload_n (n := 1) K dJ1_indexOf_4cfef_0 rfl rfl ?_
  refine wp_invS_i (n := 4) K dJ1_indexOf_4cfef_1 rfl cf_J1_88 (j_canEncode c h _ _) rfl rfl (by decide) ⟨Nat.le_refl _, Nat.le_refl _⟩ (Nat.le_of_ble_eq_true rfl) ?_
  refine wp_if_ne_b (n := 7) K dJ1_indexOf_4cfef_4 rfl (tgt := 9) (by decide) (fun c4 => ?_) (fun c4 => ?_)
  · refine wp_iload_n (n := 10) K dJ1_indexOf_4cfef_9 rfl rfl ?_
    refine wp_iconst (n := 11) K dJ1_indexOf_4cfef_10 rfl ?_
    refine wp_invS_i (n := 14) K dJ1_indexOf_4cfef_11 rfl cf_J1_92 (j_max _ _ ⟨by omega, by omega⟩ ⟨by omega, by omega⟩ _ _) rfl rfl (by decide) ⟨Nat.le_refl _, Nat.le_refl _⟩ (Nat.le_of_ble_eq_true rfl) ?_
    refine wp_istore_n (n := 15) K dJ1_indexOf_4cfef_14 rfl (by decide) ?_
    refine wp_iload_n (n := 16) K dJ1_indexOf_4cfef_15 rfl rfl ?_
    refine wp_aload_n (n := 17) K dJ1_indexOf_4cfef_16 rfl rfl ?_
    refine wp_alenS (i := 1) (n := 18) K dJ1_indexOf_4cfef_17 rfl (by decide) ?_
    refine wp_invS_i (n := 21) K dJ1_indexOf_4cfef_18 rfl cf_J1_38 (j_min _ _ ⟨by omega, by omega⟩ ⟨by decide, by decide⟩ _ _) rfl rfl (by decide) ⟨Nat.le_refl _, Nat.le_refl _⟩ (Nat.le_of_ble_eq_true rfl) ?_
    refine wp_istore_n (n := 22) K dJ1_indexOf_4cfef_21 rfl (by decide) ?_
    change Wp E X 22 [.ref 5, .int (z c), .int (z 0), .int (z 11)] [] S M
    refine wp_iload_n (n := 23) K dJ1_indexOf_4cfef_22 rfl rfl ?_
    refine wp_iload_n (n := 24) K dJ1_indexOf_4cfef_23 rfl rfl ?_
    refine wp_icmp_lt (n := 27) K dJ1_indexOf_4cfef_24 rfl (tgt := 29) (by decide) ⟨by omega, by omega⟩ ⟨by omega, by omega⟩ (fun c24 => ?_) (fun c24 => ?_)
    · refine wp_aload_n (n := 30) K dJ1_indexOf_4cfef_29 rfl rfl ?_
      refine wp_iload_n (n := 31) K dJ1_indexOf_4cfef_30 rfl rfl ?_
      refine wp_iload_n (n := 32) K dJ1_indexOf_4cfef_31 rfl rfl ?_
      refine wp_iload_n (n := 33) K dJ1_indexOf_4cfef_32 rfl rfl ?_
      refine wp_invS_i (n := 36) K dJ1_indexOf_4cfef_33 rfl cf_J1_95 (j_indexOfChar c _ _) rfl rfl (by decide) ⟨Nat.le_refl _, Nat.le_refl _⟩ (Nat.le_of_ble_eq_true rfl) ?_
      refine ret_i K dJ1_indexOf_4cfef_36 ?_ rfl ?_ ⟨Nat.le_refl _, Nat.le_refl _⟩
      · rfl
      · rfl
    · omega
  · cases c4

theorem j_indexOf2 {E : ET} (c : Int) (h : 0 ≤ c ∧ c ≤ 255) (S : ST) (M : MT) : Ct E yJ0_indexOf_7cf53 cJ0_indexOf_7cf53 3 (some .int) rm_J0_indexOf_7cf53 [.ref 4, .int (z c), .int (z 0)] S M (Pi (ixS (bi2b c) 11 0) S M) := by
  refine Ct.mk [.ref 4, .int (z c), .int (z 0)] (by decide) rfl (Nat.le_of_ble_eq_true rfl) (fun X K => ?_)
  have hi : (1 : Nat) < 2 := by decide
  refine wp_aload_n (n := 1) K dJ0_indexOf_7cf53_0 rfl rfl ?_
  refine wp_invVS (n := 4) K dJ0_indexOf_7cf53_1 rfl cf_J0_492 (j_isLatin1 1 hi _ _) rfl rfl hi rfl (by decide) ⟨Nat.le_refl _, Nat.le_refl _⟩ (Nat.le_of_ble_eq_true rfl) ?_
  refine wp_if_eq_b (n := 7) K dJ0_indexOf_7cf53_4 rfl (tgt := 23) (by decide) (fun c4 => ?_) (fun c4 => ?_)
  · cases c4
  · refine wp_aload_n (n := 8) K dJ0_indexOf_7cf53_7 rfl rfl ?_
    refine wp_strV (i := 1) (n := 11) K dJ0_indexOf_7cf53_8 rfl rfl hi ?_
    try simp only [up_same, up_up, Int.reduceToNat, Int.toNat_natCast]
    refine wp_iload_n (n := 12) K dJ0_indexOf_7cf53_11 rfl rfl ?_
    refine wp_iload_n (n := 13) K dJ0_indexOf_7cf53_12 rfl rfl ?_
    refine wp_aload_n (n := 14) K dJ0_indexOf_7cf53_13 rfl rfl ?_
    refine wp_invVS (n := 17) K dJ0_indexOf_7cf53_14 rfl cf_J0_505 (j_length 1 hi _ _) rfl rfl hi rfl (by decide) ⟨Nat.le_refl _, Nat.le_refl _⟩ (Nat.le_of_ble_eq_true rfl) ?_
    refine wp_invS_i (n := 20) K dJ0_indexOf_7cf53_17 rfl cf_J0_637 (j_l1indexOf c h _ _) rfl rfl (by decide) ⟨Nat.le_refl _, Nat.le_refl _⟩ (Nat.le_of_ble_eq_true rfl) ?_
    refine wp_goto K dJ0_indexOf_7cf53_20 (tgt := 36) (by decide) ?_
    refine ret_i K dJ0_indexOf_7cf53_36 ?_ rfl ?_ ⟨Nat.le_refl _, Nat.le_refl _⟩
    · rfl
    · rfl

theorem j_indexOf {E : ET} (c : Int) (h : 0 ≤ c ∧ c ≤ 255) (S : ST) (M : MT) : Ct E yJ0_indexOf_0f7a4 cJ0_indexOf_0f7a4 2 (some .int) rm_J0_indexOf_0f7a4 [.ref 4, .int (z c)] S M (Pi (ixS (bi2b c) 11 0) S M) := by
  refine Ct.mk [.ref 4, .int (z c)] (by decide) rfl (Nat.le_of_ble_eq_true rfl) (fun X K => ?_)
  have hi : (1 : Nat) < 2 := by decide
  refine wp_aload_n (n := 1) K dJ0_indexOf_0f7a4_0 rfl rfl ?_
  refine wp_iload_n (n := 2) K dJ0_indexOf_0f7a4_1 rfl rfl ?_
  refine wp_iconst (n := 3) K dJ0_indexOf_0f7a4_2 rfl ?_
  refine wp_invVS (n := 6) K dJ0_indexOf_0f7a4_3 rfl cf_J0_633 (j_indexOf2 c h _ _) rfl rfl (i := 1) hi rfl (by decide) ⟨Nat.le_refl _, Nat.le_refl _⟩ (Nat.le_of_ble_eq_true rfl) ?_
  refine ret_i K dJ0_indexOf_0f7a4_6 ?_ rfl ?_ ⟨Nat.le_refl _, Nat.le_refl _⟩
  · rfl
  · rfl
