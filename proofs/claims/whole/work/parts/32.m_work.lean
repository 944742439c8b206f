
theorem m_clip {E : ET} (v : Int) (hv : -9000000000000000000 ≤ v ∧ v ≤ 9000000000000000000) (S : ST) (M : MT) : Ct E yX12_clip cX12_clip 2 (some .long) rm_X12_clip [.long (zl v)] S M (Pl (clipF v) S M) := by
  have e1 : w64 v = v := w64_id (by omega) (by omega)
  have e2 : w64 1000000 = 1000000 := rfl
  have e3 : w64 (-1000000) = -1000000 := rfl
  refine Ct.mk [.long (zl v), mkV] (by decide) rfl (Nat.le_of_ble_eq_true rfl) (fun X K => ?_)
  unfold clipF at K
  refine wp_lload_n (n := 1) K dX12_clip_0 rfl rfl ?_
  refine wp_ldc2 (n := 4) K dX12_clip_1 rfl (1000000) co_X12_230 ?_
  refine wp_lcmp (n := 5) K dX12_clip_4 rfl ?_
  refine wp_if_le (n := 8) K dX12_clip_5 rfl (tgt := 14) (by decide) (lcmp_r _ _) (fun c5 => ?_) (fun c5 => ?_)
  · have c := lcmp_le.mp c5
    rw [e1, e2] at c
    rw [if_neg (by omega)] at K
    refine wp_lload_n (n := 15) K dX12_clip_14 rfl rfl ?_
    refine wp_ldc2 (n := 18) K dX12_clip_15 rfl (-1000000) co_X12_232 ?_
    refine wp_lcmp (n := 19) K dX12_clip_18 rfl ?_
    refine wp_if_ge (n := 22) K dX12_clip_19 rfl (tgt := 28) (by decide) (lcmp_r _ _) (fun c19 => ?_) (fun c19 => ?_)
    · have c := lcmp_ge.mp c19
      rw [e1, e3] at c
      rw [if_neg (by omega)] at K
      refine wp_lload_n (n := 29) K dX12_clip_28 rfl rfl ?_
      refine ret_l K dX12_clip_29 ?_ rfl ?_ ⟨Nat.le_refl _, Nat.le_refl _⟩
      all_goals rfl
    · have c := lcmp_lt.mp c19
      rw [e1, e3] at c
      rw [if_pos (by omega)] at K
      refine wp_ldc2 (n := 25) K dX12_clip_22 rfl (-1000000) co_X12_232 ?_
      refine wp_goto K dX12_clip_25 (tgt := 29) (by decide) ?_
      refine ret_l K dX12_clip_29 ?_ rfl ?_ ⟨Nat.le_refl _, Nat.le_refl _⟩
      all_goals rfl
  · have c := lcmp_gt.mp c5
    rw [e1, e2] at c
    rw [if_pos (by omega)] at K
    refine wp_ldc2 (n := 11) K dX12_clip_8 rfl (1000000) co_X12_230 ?_
    refine wp_goto K dX12_clip_11 (tgt := 29) (by decide) ?_
    refine ret_l K dX12_clip_29 ?_ rfl ?_ ⟨Nat.le_refl _, Nat.le_refl _⟩
    all_goals rfl

theorem mul_r {x y B : Int} (hB : 0 ≤ B) (hx : -B ≤ x ∧ x ≤ B) (hy : -B ≤ y ∧ y ≤ B) : -(B * B) ≤ x * y ∧ x * y ≤ B * B := by
  have h1 : x.natAbs ≤ B.natAbs := by omega
  have h2 : y.natAbs ≤ B.natAbs := by omega
  have h3 := Nat.mul_le_mul h1 h2
  rw [← Int.natAbs_mul, ← Int.natAbs_mul] at h3
  have h4 : 0 ≤ B * B := Int.mul_nonneg hB hB
  omega
theorem tdiv_r {x y B : Int} (hx : -B ≤ x ∧ x ≤ B) : -B ≤ Int.tdiv x y ∧ Int.tdiv x y ≤ B := by
  have h1 : (Int.tdiv x y).natAbs = x.natAbs / y.natAbs := Int.natAbs_tdiv x y
  have h2 := Nat.div_le_self x.natAbs y.natAbs
  omega

theorem m_two {E : ET} (o x y : Int) (ho : 3 ≤ o ∧ o ≤ 6) (hx : -1000000 ≤ x ∧ x ≤ 1000000) (hy : -1000000 ≤ y ∧ y ≤ 1000000) (S : ST) (M : MT) : Ct E yX12_two cX12_two 5 (some .long) rm_X12_two [.int (z o), .long (zl x), .long (zl y)] S M (Pl (twoF o x y) S M) := by
  have hm := mul_r (B := 1000000) (by omega) hx hy
  have hd := tdiv_r (y := y) (B := 1000000) hx
  refine Ct.mk [.int (z o), .long (zl x), mkV, .long (zl y), mkV] (by decide) rfl (Nat.le_of_ble_eq_true rfl) (fun X K => ?_)
  unfold twoF at K
  refine wp_iload_n (n := 1) K dX12_two_0 rfl rfl ?_
  rcases (show o = 3 ∨ o = 4 ∨ o = 5 ∨ o = 6 by omega) with rfl | rfl | rfl | rfl
  · refine wp_tswIn K dX12_two_1 (tgt := 28) (by decide) (by decide) (by decide) (off := 27) rfl (by decide) ?_
    rw [if_pos rfl] at K
    refine wp_lload_n (n := 29) K dX12_two_28 rfl rfl ?_
    refine wp_lload_n (n := 30) K dX12_two_29 rfl rfl ?_
    refine wp_ladd (n := 31) K dX12_two_30 rfl ?_
    refine wp_invS_l (n := 34) K dX12_two_31 rfl cf_X12_234 (m_clip _ (by omega) _ _) rfl rfl (by decide) ⟨Nat.le_refl _, Nat.le_refl _⟩ (Nat.le_of_ble_eq_true rfl) ?_
    refine ret_l K dX12_two_34 ?_ rfl ?_ ⟨Nat.le_refl _, Nat.le_refl _⟩
    all_goals rfl
  · refine wp_tswIn K dX12_two_1 (tgt := 35) (by decide) (by decide) (by decide) (off := 34) rfl (by decide) ?_
    rw [if_neg (by decide), if_pos rfl] at K
    refine wp_lload_n (n := 36) K dX12_two_35 rfl rfl ?_
    refine wp_lload_n (n := 37) K dX12_two_36 rfl rfl ?_
    refine wp_lsub (n := 38) K dX12_two_37 rfl ?_
    refine wp_invS_l (n := 41) K dX12_two_38 rfl cf_X12_234 (m_clip _ (by omega) _ _) rfl rfl (by decide) ⟨Nat.le_refl _, Nat.le_refl _⟩ (Nat.le_of_ble_eq_true rfl) ?_
    refine ret_l K dX12_two_41 ?_ rfl ?_ ⟨Nat.le_refl _, Nat.le_refl _⟩
    all_goals rfl
  · refine wp_tswIn K dX12_two_1 (tgt := 42) (by decide) (by decide) (by decide) (off := 41) rfl (by decide) ?_
    rw [if_neg (by decide), if_neg (by decide), if_pos rfl] at K
    refine wp_lload_n (n := 43) K dX12_two_42 rfl rfl ?_
    refine wp_lload_n (n := 44) K dX12_two_43 rfl rfl ?_
    refine wp_lmul (n := 45) K dX12_two_44 rfl ?_
    refine wp_invS_l (n := 48) K dX12_two_45 rfl cf_X12_234 (m_clip _ (by omega) _ _) rfl rfl (by decide) ⟨Nat.le_refl _, Nat.le_refl _⟩ (Nat.le_of_ble_eq_true rfl) ?_
    refine ret_l K dX12_two_48 ?_ rfl ?_ ⟨Nat.le_refl _, Nat.le_refl _⟩
    all_goals rfl
  · refine wp_tswOut K dX12_two_1 (tgt := 49) (by decide) (by decide) (by decide) ?_
    rw [if_neg (by decide), if_neg (by decide), if_neg (by decide)] at K
    refine wp_lload_n (n := 50) K dX12_two_49 rfl rfl ?_
    refine wp_lconst (n := 51) (a := 0) K dX12_two_50 rfl rfl ?_
    refine wp_lcmp (n := 52) K dX12_two_51 rfl ?_
    refine wp_if_ne (n := 55) K dX12_two_52 rfl (tgt := 59) (by decide) (lcmp_r _ _) (fun c52 => ?_) (fun c52 => ?_)
    · have c : ¬ (w64 y = w64 0) := fun q => c52 (lcmp_eq.mpr q)
      rw [w64_id (by omega) (by omega), show w64 0 = 0 from rfl] at c
      rw [if_neg c] at K
      refine wp_lload_n (n := 60) K dX12_two_59 rfl rfl ?_
      refine wp_lload_n (n := 61) K dX12_two_60 rfl rfl ?_
      refine wp_ldiv (n := 62) K dX12_two_61 rfl (by rw [w64_id (by omega) (by omega)]; exact c) ?_
      rw [bldiv_v (by omega) (by omega)]
      refine wp_invS_l (n := 65) K dX12_two_62 rfl cf_X12_234 (m_clip _ (by omega) _ _) rfl rfl (by decide) ⟨Nat.le_refl _, Nat.le_refl _⟩ (Nat.le_of_ble_eq_true rfl) ?_
      refine ret_l K dX12_two_65 ?_ rfl ?_ ⟨Nat.le_refl _, Nat.le_refl _⟩
      all_goals rfl
    · have c := lcmp_eq.mp c52
      rw [w64_id (by omega) (by omega), show w64 0 = 0 from rfl] at c
      rw [if_pos c] at K
      refine wp_lconst (n := 56) (a := 0) K dX12_two_55 rfl rfl ?_
      refine wp_goto K dX12_two_56 (tgt := 65) (by decide) ?_
      refine ret_l K dX12_two_65 ?_ rfl ?_ ⟨Nat.le_refl _, Nat.le_refl _⟩
      all_goals rfl

theorem m_isAsked {E : ET} (o x y : Int) (ho : 10 ≤ o ∧ o ≤ 15) (hx : -1000000 ≤ x ∧ x ≤ 1000000) (hy : -1000000 ≤ y ∧ y ≤ 1000000) (S : ST) (M : MT) : Ct E yX12_isAsked cX12_isAsked 5 (some .boolean) rm_X12_isAsked [.int (z o), .long (zl x), .long (zl y)] S M (Pi (bI (askF o x y)) S M) := by
  have ex : w64 x = x := w64_id (by omega) (by omega)
  have ey : w64 y = y := w64_id (by omega) (by omega)
  refine Ct.mk [.int (z o), .long (zl x), mkV, .long (zl y), mkV] (by decide) rfl (Nat.le_of_ble_eq_true rfl) (fun X K => ?_)
  have l1 : (lg_cmp (zl x) (zl y)).toInt < 0 ↔ x < y := by rw [lcmp_lt, ex, ey]
  have l2 : (lg_cmp (zl x) (zl y)).toInt = 0 ↔ x = y := by rw [lcmp_eq, ex, ey]
  have l3 : 0 < (lg_cmp (zl x) (zl y)).toInt ↔ y < x := by rw [lcmp_gt, ex, ey]
  refine wp_iload_n (n := 1) K dX12_isAsked_0 rfl rfl ?_
  refine wp_bipush (n := 3) K dX12_isAsked_1 rfl rfl ?_
  refine wp_icmp_ne (n := 6) K dX12_isAsked_3 rfl (tgt := 20) (by decide) ⟨by omega, by omega⟩ ⟨by omega, by omega⟩ (fun c3 => ?_) (fun c3 => ?_)
  · refine wp_iload_n (n := 21) K dX12_isAsked_20 rfl rfl ?_
    refine wp_bipush (n := 23) K dX12_isAsked_21 rfl rfl ?_
    refine wp_icmp_ne (n := 26) K dX12_isAsked_23 rfl (tgt := 40) (by decide) ⟨by omega, by omega⟩ ⟨by omega, by omega⟩ (fun c23 => ?_) (fun c23 => ?_)
    · refine wp_iload_n (n := 41) K dX12_isAsked_40 rfl rfl ?_
      refine wp_bipush (n := 43) K dX12_isAsked_41 rfl rfl ?_
      refine wp_icmp_ne (n := 46) K dX12_isAsked_43 rfl (tgt := 60) (by decide) ⟨by omega, by omega⟩ ⟨by omega, by omega⟩ (fun c43 => ?_) (fun c43 => ?_)
      · refine wp_iload_n (n := 61) K dX12_isAsked_60 rfl rfl ?_
        refine wp_bipush (n := 63) K dX12_isAsked_61 rfl rfl ?_
        refine wp_icmp_ne (n := 66) K dX12_isAsked_63 rfl (tgt := 80) (by decide) ⟨by omega, by omega⟩ ⟨by omega, by omega⟩ (fun c63 => ?_) (fun c63 => ?_)
        · refine wp_iload_n (n := 81) K dX12_isAsked_80 rfl rfl ?_
          refine wp_bipush (n := 83) K dX12_isAsked_81 rfl rfl ?_
          refine wp_icmp_ne (n := 86) K dX12_isAsked_83 rfl (tgt := 100) (by decide) ⟨by omega, by omega⟩ ⟨by omega, by omega⟩ (fun c83 => ?_) (fun c83 => ?_)
          · refine wp_lload_n (n := 101) K dX12_isAsked_100 rfl rfl ?_
            refine wp_lload_n (n := 102) K dX12_isAsked_101 rfl rfl ?_
            refine wp_lcmp (n := 103) K dX12_isAsked_102 rfl ?_
            refine wp_if_eq (n := 106) K dX12_isAsked_103 rfl (tgt := 110) (by decide) (lcmp_r _ _) (fun c103 => ?_) (fun c103 => ?_)
            · refine wp_iconst (n := 111) K dX12_isAsked_110 rfl ?_
              refine ret_z K dX12_isAsked_111 ?_ rfl ?_ ⟨Nat.le_refl _, Nat.le_refl _⟩
              all_goals first | rfl | (unfold askF; first | (simp only [*, if_true, if_false, reduceIte]; first | exact bI_t (by omega) | exact bI_f (by omega)) | (repeat (first | rw [if_pos (by omega)] | rw [if_neg (by omega)])); first | exact bI_t (by omega) | exact bI_f (by omega))
            · refine wp_iconst (n := 107) K dX12_isAsked_106 rfl ?_
              refine wp_goto K dX12_isAsked_107 (tgt := 111) (by decide) ?_
              refine ret_z K dX12_isAsked_111 ?_ rfl ?_ ⟨Nat.le_refl _, Nat.le_refl _⟩
              all_goals first | rfl | (unfold askF; first | (simp only [*, if_true, if_false, reduceIte]; first | exact bI_t (by omega) | exact bI_f (by omega)) | (repeat (first | rw [if_pos (by omega)] | rw [if_neg (by omega)])); first | exact bI_t (by omega) | exact bI_f (by omega))
          · refine wp_lload_n (n := 87) K dX12_isAsked_86 rfl rfl ?_
            refine wp_lload_n (n := 88) K dX12_isAsked_87 rfl rfl ?_
            refine wp_lcmp (n := 89) K dX12_isAsked_88 rfl ?_
            refine wp_if_ne (n := 92) K dX12_isAsked_89 rfl (tgt := 96) (by decide) (lcmp_r _ _) (fun c89 => ?_) (fun c89 => ?_)
            · refine wp_iconst (n := 97) K dX12_isAsked_96 rfl ?_
              refine wp_goto K dX12_isAsked_97 (tgt := 111) (by decide) ?_
              refine ret_z K dX12_isAsked_111 ?_ rfl ?_ ⟨Nat.le_refl _, Nat.le_refl _⟩
              all_goals first | rfl | (unfold askF; first | (simp only [*, if_true, if_false, reduceIte]; first | exact bI_t (by omega) | exact bI_f (by omega)) | (repeat (first | rw [if_pos (by omega)] | rw [if_neg (by omega)])); first | exact bI_t (by omega) | exact bI_f (by omega))
            · refine wp_iconst (n := 93) K dX12_isAsked_92 rfl ?_
              refine wp_goto K dX12_isAsked_93 (tgt := 111) (by decide) ?_
              refine ret_z K dX12_isAsked_111 ?_ rfl ?_ ⟨Nat.le_refl _, Nat.le_refl _⟩
              all_goals first | rfl | (unfold askF; first | (simp only [*, if_true, if_false, reduceIte]; first | exact bI_t (by omega) | exact bI_f (by omega)) | (repeat (first | rw [if_pos (by omega)] | rw [if_neg (by omega)])); first | exact bI_t (by omega) | exact bI_f (by omega))
        · refine wp_lload_n (n := 67) K dX12_isAsked_66 rfl rfl ?_
          refine wp_lload_n (n := 68) K dX12_isAsked_67 rfl rfl ?_
          refine wp_lcmp (n := 69) K dX12_isAsked_68 rfl ?_
          refine wp_if_lt (n := 72) K dX12_isAsked_69 rfl (tgt := 76) (by decide) (lcmp_r _ _) (fun c69 => ?_) (fun c69 => ?_)
          · refine wp_iconst (n := 77) K dX12_isAsked_76 rfl ?_
            refine wp_goto K dX12_isAsked_77 (tgt := 111) (by decide) ?_
            refine ret_z K dX12_isAsked_111 ?_ rfl ?_ ⟨Nat.le_refl _, Nat.le_refl _⟩
            all_goals first | rfl | (unfold askF; first | (simp only [*, if_true, if_false, reduceIte]; first | exact bI_t (by omega) | exact bI_f (by omega)) | (repeat (first | rw [if_pos (by omega)] | rw [if_neg (by omega)])); first | exact bI_t (by omega) | exact bI_f (by omega))
          · refine wp_iconst (n := 73) K dX12_isAsked_72 rfl ?_
            refine wp_goto K dX12_isAsked_73 (tgt := 111) (by decide) ?_
            refine ret_z K dX12_isAsked_111 ?_ rfl ?_ ⟨Nat.le_refl _, Nat.le_refl _⟩
            all_goals first | rfl | (unfold askF; first | (simp only [*, if_true, if_false, reduceIte]; first | exact bI_t (by omega) | exact bI_f (by omega)) | (repeat (first | rw [if_pos (by omega)] | rw [if_neg (by omega)])); first | exact bI_t (by omega) | exact bI_f (by omega))
      · refine wp_lload_n (n := 47) K dX12_isAsked_46 rfl rfl ?_
        refine wp_lload_n (n := 48) K dX12_isAsked_47 rfl rfl ?_
        refine wp_lcmp (n := 49) K dX12_isAsked_48 rfl ?_
        refine wp_if_le (n := 52) K dX12_isAsked_49 rfl (tgt := 56) (by decide) (lcmp_r _ _) (fun c49 => ?_) (fun c49 => ?_)
        · refine wp_iconst (n := 57) K dX12_isAsked_56 rfl ?_
          refine wp_goto K dX12_isAsked_57 (tgt := 111) (by decide) ?_
          refine ret_z K dX12_isAsked_111 ?_ rfl ?_ ⟨Nat.le_refl _, Nat.le_refl _⟩
          all_goals first | rfl | (unfold askF; first | (simp only [*, if_true, if_false, reduceIte]; first | exact bI_t (by omega) | exact bI_f (by omega)) | (repeat (first | rw [if_pos (by omega)] | rw [if_neg (by omega)])); first | exact bI_t (by omega) | exact bI_f (by omega))
        · refine wp_iconst (n := 53) K dX12_isAsked_52 rfl ?_
          refine wp_goto K dX12_isAsked_53 (tgt := 111) (by decide) ?_
          refine ret_z K dX12_isAsked_111 ?_ rfl ?_ ⟨Nat.le_refl _, Nat.le_refl _⟩
          all_goals first | rfl | (unfold askF; first | (simp only [*, if_true, if_false, reduceIte]; first | exact bI_t (by omega) | exact bI_f (by omega)) | (repeat (first | rw [if_pos (by omega)] | rw [if_neg (by omega)])); first | exact bI_t (by omega) | exact bI_f (by omega))
    · refine wp_lload_n (n := 27) K dX12_isAsked_26 rfl rfl ?_
      refine wp_lload_n (n := 28) K dX12_isAsked_27 rfl rfl ?_
      refine wp_lcmp (n := 29) K dX12_isAsked_28 rfl ?_
      refine wp_if_gt (n := 32) K dX12_isAsked_29 rfl (tgt := 36) (by decide) (lcmp_r _ _) (fun c29 => ?_) (fun c29 => ?_)
      · refine wp_iconst (n := 37) K dX12_isAsked_36 rfl ?_
        refine wp_goto K dX12_isAsked_37 (tgt := 111) (by decide) ?_
        refine ret_z K dX12_isAsked_111 ?_ rfl ?_ ⟨Nat.le_refl _, Nat.le_refl _⟩
        all_goals first | rfl | (unfold askF; first | (simp only [*, if_true, if_false, reduceIte]; first | exact bI_t (by omega) | exact bI_f (by omega)) | (repeat (first | rw [if_pos (by omega)] | rw [if_neg (by omega)])); first | exact bI_t (by omega) | exact bI_f (by omega))
      · refine wp_iconst (n := 33) K dX12_isAsked_32 rfl ?_
        refine wp_goto K dX12_isAsked_33 (tgt := 111) (by decide) ?_
        refine ret_z K dX12_isAsked_111 ?_ rfl ?_ ⟨Nat.le_refl _, Nat.le_refl _⟩
        all_goals first | rfl | (unfold askF; first | (simp only [*, if_true, if_false, reduceIte]; first | exact bI_t (by omega) | exact bI_f (by omega)) | (repeat (first | rw [if_pos (by omega)] | rw [if_neg (by omega)])); first | exact bI_t (by omega) | exact bI_f (by omega))
  · refine wp_lload_n (n := 7) K dX12_isAsked_6 rfl rfl ?_
    refine wp_lload_n (n := 8) K dX12_isAsked_7 rfl rfl ?_
    refine wp_lcmp (n := 9) K dX12_isAsked_8 rfl ?_
    refine wp_if_ge (n := 12) K dX12_isAsked_9 rfl (tgt := 16) (by decide) (lcmp_r _ _) (fun c9 => ?_) (fun c9 => ?_)
    · refine wp_iconst (n := 17) K dX12_isAsked_16 rfl ?_
      refine wp_goto K dX12_isAsked_17 (tgt := 111) (by decide) ?_
      refine ret_z K dX12_isAsked_111 ?_ rfl ?_ ⟨Nat.le_refl _, Nat.le_refl _⟩
      all_goals first | rfl | (unfold askF; first | (simp only [*, if_true, if_false, reduceIte]; first | exact bI_t (by omega) | exact bI_f (by omega)) | (repeat (first | rw [if_pos (by omega)] | rw [if_neg (by omega)])); first | exact bI_t (by omega) | exact bI_f (by omega))
    · refine wp_iconst (n := 13) K dX12_isAsked_12 rfl ?_
      refine wp_goto K dX12_isAsked_13 (tgt := 111) (by decide) ?_
      refine ret_z K dX12_isAsked_111 ?_ rfl ?_ ⟨Nat.le_refl _, Nat.le_refl _⟩
      all_goals first | rfl | (unfold askF; first | (simp only [*, if_true, if_false, reduceIte]; first | exact bI_t (by omega) | exact bI_f (by omega)) | (repeat (first | rw [if_pos (by omega)] | rw [if_neg (by omega)])); first | exact bI_t (by omega) | exact bI_f (by omega))
/-- the code of a clause: places from .. of the text at base b -/
def codeF (τ : Nat → Int) (b fr : Nat) (i : Nat) : Int × Int := (τ (b + 75 + 2 * (fr + i)), τ (b + 76 + 2 * (fr + i)))
/-- what the reference's own rows hold, as far as they count -/
def evRep (V T : Nat → Int) (s : EvS) : Prop := (∀ j, j < s.2.1 → V j = s.1 j) ∧ ∀ j, j < s.2.2.2 → T j = s.2.2.1 j

theorem m_work (k t fr to : Nat) (S : ST) (M : MT) (ht : t < 4) (hk : k < 24) (h5 : M 78 5 = t) (hfr : M 80 (680 * t + 2 + 3 * k) = fr) (hto : M 80 (680 * t + 3 + 3 * k) = to) (hft : fr ≤ to ∧ to ≤ 302) (hok : okCode (codeF (M 80) (680 * t) fr) (to - fr)) (hnm : ∀ j, j < 8 → -1000000 ≤ M 83 j ∧ M 83 j ≤ 1000000) :
    Ct E1 yX12_work cX12_work 9 none rm_X12_work [.ref 77, .int (z (k : Int))] S M (Qn [84, 85] S M (fun M1 => (∀ j, j < (evRun (M 83) (codeF (M 80) (680 * t) fr) (to - fr)).2.1 → M1 84 j = (evRun (M 83) (codeF (M 80) (680 * t) fr) (to - fr)).1 j) ∧ ∀ j, j < (evRun (M 83) (codeF (M 80) (680 * t) fr) (to - fr)).2.2.2 → M1 85 j = (evRun (M 83) (codeF (M 80) (680 * t) fr) (to - fr)).2.2.1 j)) := by
  refine Ct.mk [.ref 77, .int (z (k : Int)), mkV, mkV, mkV, mkV, mkV, mkV, mkV] (by decide) rfl (Nat.le_of_ble_eq_true rfl) (fun X K => ?_)
  refine wp_sipush (n := 3) K dX12_work_0 rfl rfl ?_
  refine wp_aload_n (n := 4) K dX12_work_3 rfl rfl ?_
  refine wp_getF (n := 7) K dX12_work_4 rfl fl_X12_7 rfl (liS rfl) rfl rfl ?_
  refine wp_iconst (n := 8) K dX12_work_7 rfl ?_
  refine wp_iald (n := 9) K dX12_work_8 rfl rfl (liS rfl) ⟨by omega, by omega, by omega⟩ ?_
  try simp only [up_same, up_up, up_ne, ne_eq, Nat.reduceEqDiff, not_false_eq_true, Int.reduceToNat, Int.toNat_natCast]
  refine wp_imul (n := 10) K dX12_work_9 rfl ?_
  refine wp_iconst (n := 11) K dX12_work_10 rfl ?_
  refine wp_iadd (n := 12) K dX12_work_11 rfl ?_
  refine wp_iconst (n := 13) K dX12_work_12 rfl ?_
  refine wp_iload_n (n := 14) K dX12_work_13 rfl rfl ?_
  refine wp_imul (n := 15) K dX12_work_14 rfl ?_
  refine wp_iadd (n := 16) K dX12_work_15 rfl ?_
  rw [h5, show 680 * (t : Int) + 1 + 3 * (k : Int) = ((680 * t + 1 + 3 * k : Nat) : Int) by omega]
  refine wp_istore_n (n := 17) K dX12_work_16 rfl (by decide) ?_
  refine wp_sipush (n := 20) K dX12_work_17 rfl rfl ?_
  refine wp_aload_n (n := 21) K dX12_work_20 rfl rfl ?_
  refine wp_getF (n := 24) K dX12_work_21 rfl fl_X12_7 rfl (liS rfl) rfl rfl ?_
  refine wp_iconst (n := 25) K dX12_work_24 rfl ?_
  refine wp_iald (n := 26) K dX12_work_25 rfl rfl (liS rfl) ⟨by omega, by omega, by omega⟩ ?_
  try simp only [up_same, up_up, up_ne, ne_eq, Nat.reduceEqDiff, not_false_eq_true, Int.reduceToNat, Int.toNat_natCast]
  refine wp_imul (n := 27) K dX12_work_26 rfl ?_
  refine wp_bipush (n := 29) K dX12_work_27 rfl rfl ?_
  refine wp_iadd (n := 30) K dX12_work_29 rfl ?_
  rw [h5, show 680 * (t : Int) + 75 = ((680 * t + 75 : Nat) : Int) by omega]
  refine wp_istore_n (n := 31) K dX12_work_30 rfl (by decide) ?_
  refine wp_iconst (n := 32) K dX12_work_31 rfl ?_
  refine wp_istore (n := 34) K dX12_work_32 rfl (by decide) ?_
  refine wp_iconst (n := 35) K dX12_work_34 rfl ?_
  refine wp_istore (n := 37) K dX12_work_35 rfl (by decide) ?_
  refine wp_aload_n (n := 38) K dX12_work_37 rfl rfl ?_
  refine wp_getF (n := 41) K dX12_work_38 rfl fl_X12_16 rfl (liS rfl) rfl rfl ?_
  refine wp_iload_n (n := 42) K dX12_work_41 rfl rfl ?_
  refine wp_iconst (n := 43) K dX12_work_42 rfl ?_
  refine wp_iadd (n := 44) K dX12_work_43 rfl ?_
  refine wp_iald (n := 45) K dX12_work_44 rfl rfl (liS rfl) ⟨by omega, by omega, by omega⟩ ?_
  try simp only [up_same, up_up, up_ne, ne_eq, Nat.reduceEqDiff, not_false_eq_true, Int.reduceToNat, Int.toNat_natCast]
  rw [show (((680 * t + 1 + 3 * k : Nat) : Int) + 1).toNat = 680 * t + 2 + 3 * k by omega, hfr]
  refine wp_istore (n := 47) K dX12_work_45 rfl (by decide) ?_
  have main : ∀ (d i : Nat), i + d = to - fr → ∀ (M1 : MT) (v7 v8 : Value), (∀ a, a ∉ [84, 85] → M1 a = M a) → evRep (M1 84) (M1 85) (evRun (M 83) (codeF (M 80) (680 * t) fr) i) → Wp E1 X 47 [.ref 77, .int (z (k : Int)), .int (z ((680 * t + 1 + 3 * k : Nat) : Int)), .int (z ((680 * t + 75 : Nat) : Int)), .int (z ((evRun (M 83) (codeF (M 80) (680 * t) fr) i).2.1 : Int)), .int (z ((evRun (M 83) (codeF (M 80) (680 * t) fr) i).2.2.2 : Int)), .int (z ((fr + i : Nat) : Int)), v7, v8] [] S M1 := by
    intro d
    induction d with
    | zero =>
      intro i hi M1 v7 v8 hM hrep
      have e80 : M1 80 = M 80 := hM _ (by decide)
      refine wp_iload (n := 49) K dX12_work_47 rfl rfl ?_
      refine wp_aload_n (n := 50) K dX12_work_49 rfl rfl ?_
      refine wp_getF (n := 53) K dX12_work_50 rfl fl_X12_16 rfl (liS rfl) rfl rfl ?_
      refine wp_iload_n (n := 54) K dX12_work_53 rfl rfl ?_
      refine wp_iconst (n := 55) K dX12_work_54 rfl ?_
      refine wp_iadd (n := 56) K dX12_work_55 rfl ?_
      refine wp_iald (n := 57) K dX12_work_56 rfl rfl (liS rfl) ⟨by omega, by omega, by omega⟩ ?_
      try simp only [up_same, up_up, up_ne, ne_eq, Nat.reduceEqDiff, not_false_eq_true, Int.reduceToNat, Int.toNat_natCast]
      rw [e80, show (((680 * t + 1 + 3 * k : Nat) : Int) + 2).toNat = 680 * t + 3 + 3 * k by omega, hto]
      refine wp_icmp_ge (n := 60) K dX12_work_57 rfl (tgt := 359) (by decide) ⟨by omega, by omega⟩ ⟨by omega, by omega⟩ (fun c57 => ?_) (fun c57 => ?_)
      · refine ret_qn K dX12_work_359 rfl ?_ ?_ ⟨Nat.le_refl _, Nat.le_refl _⟩
        · exact hM
        · rw [show to - fr = i by omega]; exact hrep
      · omega
    | succ d ih =>
      intro i hi M1 v7 v8 hM hrep
      have e80 : M1 80 = M 80 := hM _ (by decide)
      have e83 : M1 83 = M 83 := hM _ (by decide)
      have hop := hok.2 i (by omega)
      have hdp := evRun_dp (M 83) (codeF (M 80) (680 * t) fr) hok i (by omega)
      have hle := dpRun_le (codeF (M 80) (680 * t) fr) i
      rw [← hdp] at hop hle
      have hev := evRun_ok hnm hok i (by omega)
      have ih := ih (i + 1) (by omega)
      unfold evRun at ih
      refine wp_iload (n := 49) K dX12_work_47 rfl rfl ?_
      refine wp_aload_n (n := 50) K dX12_work_49 rfl rfl ?_
      refine wp_getF (n := 53) K dX12_work_50 rfl fl_X12_16 rfl (liS rfl) rfl rfl ?_
      refine wp_iload_n (n := 54) K dX12_work_53 rfl rfl ?_
      refine wp_iconst (n := 55) K dX12_work_54 rfl ?_
      refine wp_iadd (n := 56) K dX12_work_55 rfl ?_
      refine wp_iald (n := 57) K dX12_work_56 rfl rfl (liS rfl) ⟨by omega, by omega, by omega⟩ ?_
      try simp only [up_same, up_up, up_ne, ne_eq, Nat.reduceEqDiff, not_false_eq_true, Int.reduceToNat, Int.toNat_natCast]
      rw [e80, show (((680 * t + 1 + 3 * k : Nat) : Int) + 2).toNat = 680 * t + 3 + 3 * k by omega, hto]
      refine wp_icmp_ge (n := 60) K dX12_work_57 rfl (tgt := 359) (by decide) ⟨by omega, by omega⟩ ⟨by omega, by omega⟩ (fun c57 => ?_) (fun c57 => ?_)
      · omega
      refine wp_aload_n (n := 61) K dX12_work_60 rfl rfl ?_
      refine wp_getF (n := 64) K dX12_work_61 rfl fl_X12_16 rfl (liS rfl) rfl rfl ?_
      refine wp_iload_n (n := 65) K dX12_work_64 rfl rfl ?_
      refine wp_iconst (n := 66) K dX12_work_65 rfl ?_
      refine wp_iload (n := 68) K dX12_work_66 rfl rfl ?_
      refine wp_imul (n := 69) K dX12_work_68 rfl ?_
      refine wp_iadd (n := 70) K dX12_work_69 rfl ?_
      refine wp_iald (n := 71) K dX12_work_70 rfl rfl (liS rfl) ⟨by omega, by omega, by omega⟩ ?_
      try simp only [up_same, up_up, up_ne, ne_eq, Nat.reduceEqDiff, not_false_eq_true, Int.reduceToNat, Int.toNat_natCast]
      rw [e80, show (((680 * t + 75 : Nat) : Int) + 2 * ((fr + i : Nat) : Int)).toNat = 680 * t + 75 + 2 * (fr + i) by omega]
      refine wp_istore (n := 73) K dX12_work_71 rfl (by decide) ?_
      refine wp_aload_n (n := 74) K dX12_work_73 rfl rfl ?_
      refine wp_getF (n := 77) K dX12_work_74 rfl fl_X12_16 rfl (liS rfl) rfl rfl ?_
      refine wp_iload_n (n := 78) K dX12_work_77 rfl rfl ?_
      refine wp_iconst (n := 79) K dX12_work_78 rfl ?_
      refine wp_iload (n := 81) K dX12_work_79 rfl rfl ?_
      refine wp_imul (n := 82) K dX12_work_81 rfl ?_
      refine wp_iadd (n := 83) K dX12_work_82 rfl ?_
      refine wp_iconst (n := 84) K dX12_work_83 rfl ?_
      refine wp_iadd (n := 85) K dX12_work_84 rfl ?_
      refine wp_iald (n := 86) K dX12_work_85 rfl rfl (liS rfl) ⟨by omega, by omega, by omega⟩ ?_
      try simp only [up_same, up_up, up_ne, ne_eq, Nat.reduceEqDiff, not_false_eq_true, Int.reduceToNat, Int.toNat_natCast]
      rw [e80, show (((680 * t + 75 : Nat) : Int) + 2 * ((fr + i : Nat) : Int) + 1).toNat = 680 * t + 76 + 2 * (fr + i) by omega]
      rw [show codeF (M 80) (680 * t) fr i = (M 80 (680 * t + 75 + 2 * (fr + i)), M 80 (680 * t + 76 + 2 * (fr + i))) from rfl] at ih hop
      generalize M 80 (680 * t + 75 + 2 * (fr + i)) = o at *
      generalize M 80 (680 * t + 76 + 2 * (fr + i)) = w at *
      generalize evRun (M 83) (codeF (M 80) (680 * t) fr) i = s at *
      obtain ⟨V, n, T, m⟩ := s
      obtain ⟨rv, rt⟩ := hrep
      obtain ⟨bv, bt⟩ := hev
      dsimp only at *
      unfold okOp at hop
      dsimp only at hop
      have keepM : ∀ (f : Nat → Int), ∀ a, a ∉ [84, 85] → up M1 84 f a = M a := fun f a ha => by rw [up_ne _ _ (fun e => ha (by rw [e]; decide))]; exact hM a ha
      have keepT : ∀ (f : Nat → Int), ∀ a, a ∉ [84, 85] → up M1 85 f a = M a := fun f a ha => by rw [up_ne _ _ (fun e => ha (by rw [e]; decide))]; exact hM a ha
      have nextI : (fr + i : Nat) + 1 = fr + (i + 1) := by omega
      unfold evStep at ih
      dsimp only at ih
      have upA : ∀ {A B : Nat → Int} {k2 : Nat} {x : Int} {n2 : Nat}, (∀ j, j < n2 → j ≠ k2 → A j = B j) → ∀ j, j < n2 → up A k2 x j = up B k2 x j := by
        intro A B k2 x n2 h j hj
        by_cases he : j = k2
        · subst he; rw [up_same, up_same]
        · rw [up_ne _ _ he, up_ne _ _ he]; exact h j hj he
      refine wp_istore (n := 88) K dX12_work_86 rfl (by decide) ?_
      refine wp_iload (n := 90) K dX12_work_88 rfl rfl ?_
      refine wp_iconst (n := 91) K dX12_work_90 rfl ?_
      refine wp_icmp_gt (n := 94) K dX12_work_91 rfl (tgt := 126) (by decide) ⟨by omega, by omega⟩ ⟨by omega, by omega⟩ (fun c91 => ?_) (fun c91 => ?_)
      · rw [if_neg (by omega)] at ih
        refine wp_iload (n := 128) K dX12_work_126 rfl rfl ?_
        refine wp_iconst (n := 129) K dX12_work_128 rfl ?_
        refine wp_icmp_ne (n := 132) K dX12_work_129 rfl (tgt := 154) (by decide) ⟨by omega, by omega⟩ ⟨by omega, by omega⟩ (fun c129 => ?_) (fun c129 => ?_)
        · rw [if_neg (by omega)] at ih
          refine wp_iload (n := 156) K dX12_work_154 rfl rfl ?_
          refine wp_bipush (n := 158) K dX12_work_156 rfl rfl ?_
          refine wp_icmp_ge (n := 161) K dX12_work_158 rfl (tgt := 197) (by decide) ⟨by omega, by omega⟩ ⟨by omega, by omega⟩ (fun c158 => ?_) (fun c158 => ?_)
          · rw [if_neg (by omega)] at ih
            refine wp_iload (n := 199) K dX12_work_197 rfl rfl ?_
            refine wp_bipush (n := 201) K dX12_work_199 rfl rfl ?_
            refine wp_icmp_ge (n := 204) K dX12_work_201 rfl (tgt := 241) (by decide) ⟨by omega, by omega⟩ ⟨by omega, by omega⟩ (fun c201 => ?_) (fun c201 => ?_)
            · rw [if_neg (by omega)] at ih
              refine wp_iload (n := 243) K dX12_work_241 rfl rfl ?_
              refine wp_bipush (n := 245) K dX12_work_243 rfl rfl ?_
              refine wp_icmp_ne (n := 248) K dX12_work_245 rfl (tgt := 277) (by decide) ⟨by omega, by omega⟩ ⟨by omega, by omega⟩ (fun c245 => ?_) (fun c245 => ?_)
              · rw [if_neg (by omega)] at ih
                have t1 := bt (m - 1) (by omega)
                have t2 := bt (m - 2) (by omega)
                have r1 := rt (m - 1) (by omega)
                have r2 := rt (m - 2) (by omega)
                have j1 : ((m : Int) + -1 - 1).toNat = m - 2 := by omega
                have j2 : ((m : Int) + -1).toNat = m - 1 := by omega
                have fin1 : ∀ v : Int, (v = 0 ∨ v = 1) → up T (m - 2) v = (if o = 21 then up T (m - 2) (if T (m - 2) ≠ 0 ∧ T (m - 1) ≠ 0 then 1 else 0) else up T (m - 2) (if T (m - 2) ≠ 0 ∨ T (m - 1) ≠ 0 then 1 else 0)) → Wp E1 X 352 [.ref 77, .int (z (k : Int)), .int (z ((680 * t + 1 + 3 * k : Nat) : Int)), .int (z ((680 * t + 75 : Nat) : Int)), .int (z (n : Int)), .int (z ((m : Int) + -1)), .int (z ((fr + i : Nat) : Int)), .int (z o), .int (z w)] [.int (z v), .int (z ((m : Int) + -1 - 1)), .ref 85] S M1 := by
                  intro v hv hT
                  refine wp_zast (n := 353) K dX12_work_352 rfl rfl (liS rfl) (fun _ => rfl) ⟨by omega, by omega, by omega⟩ hv ?_
                  try simp only [up_same, up_up, up_ne, ne_eq, Nat.reduceEqDiff, not_false_eq_true, Int.reduceToNat, Int.toNat_natCast]
                  refine wp_iinc (n := 356) K dX12_work_353 rfl rfl (by decide) ?_
                  refine wp_goto K dX12_work_356 (tgt := 47) (by decide) ?_
                  rw [j1, show (m : Int) + -1 = ((m - 1 : Nat) : Int) by omega, show ((fr + i : Nat) : Int) + 1 = ((fr + (i + 1) : Nat) : Int) by omega]
                  have q1 : ∀ j, j < m - 1 → up (M1 85) (m - 2) v j = up T (m - 2) v j := upA (fun j hj _ => rt j (by omega))
                  rw [hT] at q1
                  by_cases ho : o = 21
                  · rw [if_pos ho] at ih q1
                    exact ih _ _ _ (keepT _) ⟨rv, q1⟩
                  · rw [if_neg ho] at ih q1
                    exact ih _ _ _ (keepT _) ⟨rv, q1⟩
                refine wp_iinc (n := 280) K dX12_work_277 rfl rfl (by decide) ?_
                refine wp_aload_n (n := 281) K dX12_work_280 rfl rfl ?_
                refine wp_getF (n := 284) K dX12_work_281 rfl fl_X12_39 rfl (liS rfl) rfl rfl ?_
                refine wp_iload (n := 286) K dX12_work_284 rfl rfl ?_
                refine wp_iconst (n := 287) K dX12_work_286 rfl ?_
                refine wp_isub (n := 288) K dX12_work_287 rfl ?_
                refine wp_iload (n := 290) K dX12_work_288 rfl rfl ?_
                refine wp_bipush (n := 292) K dX12_work_290 rfl rfl ?_
                refine wp_icmp_ne (n := 295) K dX12_work_292 rfl (tgt := 325) (by decide) ⟨by omega, by omega⟩ ⟨by omega, by omega⟩ (fun c292 => ?_) (fun c292 => ?_)
                · rw [if_neg c292] at fin1
                  refine wp_aload_n (n := 326) K dX12_work_325 rfl rfl ?_
                  refine wp_getF (n := 329) K dX12_work_326 rfl fl_X12_39 rfl (liS rfl) rfl rfl ?_
                  refine wp_iload (n := 331) K dX12_work_329 rfl rfl ?_
                  refine wp_iconst (n := 332) K dX12_work_331 rfl ?_
                  refine wp_isub (n := 333) K dX12_work_332 rfl ?_
                  refine wp_zald (n := 334) K dX12_work_333 rfl rfl (liS rfl) ⟨by omega, by omega, by omega⟩ ?_
                  try simp only [up_same, up_up, up_ne, ne_eq, Nat.reduceEqDiff, not_false_eq_true, Int.reduceToNat, Int.toNat_natCast]
                  rw [j1, r2]
                  refine wp_if_ne (n := 337) K dX12_work_334 rfl (tgt := 347) (by decide) ⟨by omega, by omega⟩ (fun c334 => ?_) (fun c334 => ?_)
                  · refine wp_iconst (n := 348) K dX12_work_347 rfl ?_
                    refine wp_goto K dX12_work_348 (tgt := 352) (by decide) ?_
                    exact fin1 1 (Or.inr rfl) (by rw [if_pos (Or.inl c334)])
                  · refine wp_aload_n (n := 338) K dX12_work_337 rfl rfl ?_
                    refine wp_getF (n := 341) K dX12_work_338 rfl fl_X12_39 rfl (liS rfl) rfl rfl ?_
                    refine wp_iload (n := 343) K dX12_work_341 rfl rfl ?_
                    refine wp_zald (n := 344) K dX12_work_343 rfl rfl (liS rfl) ⟨by omega, by omega, by omega⟩ ?_
                    try simp only [up_same, up_up, up_ne, ne_eq, Nat.reduceEqDiff, not_false_eq_true, Int.reduceToNat, Int.toNat_natCast]
                    rw [j2, r1]
                    refine wp_if_eq (n := 347) K dX12_work_344 rfl (tgt := 351) (by decide) ⟨by omega, by omega⟩ (fun c344 => ?_) (fun c344 => ?_)
                    · refine wp_iconst (n := 352) K dX12_work_351 rfl ?_
                      exact fin1 0 (Or.inl rfl) (by rw [if_neg (by omega)])
                    · refine wp_iconst (n := 348) K dX12_work_347 rfl ?_
                      refine wp_goto K dX12_work_348 (tgt := 352) (by decide) ?_
                      exact fin1 1 (Or.inr rfl) (by rw [if_pos (Or.inr c344)])
                · rw [if_pos c292] at fin1
                  refine wp_aload_n (n := 296) K dX12_work_295 rfl rfl ?_
                  refine wp_getF (n := 299) K dX12_work_296 rfl fl_X12_39 rfl (liS rfl) rfl rfl ?_
                  refine wp_iload (n := 301) K dX12_work_299 rfl rfl ?_
                  refine wp_iconst (n := 302) K dX12_work_301 rfl ?_
                  refine wp_isub (n := 303) K dX12_work_302 rfl ?_
                  refine wp_zald (n := 304) K dX12_work_303 rfl rfl (liS rfl) ⟨by omega, by omega, by omega⟩ ?_
                  try simp only [up_same, up_up, up_ne, ne_eq, Nat.reduceEqDiff, not_false_eq_true, Int.reduceToNat, Int.toNat_natCast]
                  rw [j1, r2]
                  refine wp_if_eq (n := 307) K dX12_work_304 rfl (tgt := 321) (by decide) ⟨by omega, by omega⟩ (fun c304 => ?_) (fun c304 => ?_)
                  · refine wp_iconst (n := 322) K dX12_work_321 rfl ?_
                    refine wp_goto K dX12_work_322 (tgt := 352) (by decide) ?_
                    exact fin1 0 (Or.inl rfl) (by rw [if_neg (by omega)])
                  · refine wp_aload_n (n := 308) K dX12_work_307 rfl rfl ?_
                    refine wp_getF (n := 311) K dX12_work_308 rfl fl_X12_39 rfl (liS rfl) rfl rfl ?_
                    refine wp_iload (n := 313) K dX12_work_311 rfl rfl ?_
                    refine wp_zald (n := 314) K dX12_work_313 rfl rfl (liS rfl) ⟨by omega, by omega, by omega⟩ ?_
                    try simp only [up_same, up_up, up_ne, ne_eq, Nat.reduceEqDiff, not_false_eq_true, Int.reduceToNat, Int.toNat_natCast]
                    rw [j2, r1]
                    refine wp_if_eq (n := 317) K dX12_work_314 rfl (tgt := 321) (by decide) ⟨by omega, by omega⟩ (fun c314 => ?_) (fun c314 => ?_)
                    · refine wp_iconst (n := 322) K dX12_work_321 rfl ?_
                      refine wp_goto K dX12_work_322 (tgt := 352) (by decide) ?_
                      exact fin1 0 (Or.inl rfl) (by rw [if_neg (by omega)])
                    · refine wp_iconst (n := 318) K dX12_work_317 rfl ?_
                      refine wp_goto K dX12_work_318 (tgt := 352) (by decide) ?_
                      exact fin1 1 (Or.inr rfl) (by rw [if_pos ⟨c304, c314⟩])
              · rw [if_pos (by omega)] at ih
                have t1 := bt (m - 1) (by omega)
                have r1 := rt (m - 1) (by omega)
                have j1 : ((m : Int) - 1).toNat = m - 1 := by omega
                have fin1 : ∀ v : Int, (v = 0 ∨ v = 1) → v = 1 - T (m - 1) → Wp E1 X 273 [.ref 77, .int (z (k : Int)), .int (z ((680 * t + 1 + 3 * k : Nat) : Int)), .int (z ((680 * t + 75 : Nat) : Int)), .int (z (n : Int)), .int (z (m : Int)), .int (z ((fr + i : Nat) : Int)), .int (z o), .int (z w)] [.int (z v), .int (z ((m : Int) - 1)), .ref 85] S M1 := by
                  intro v hv hT
                  refine wp_zast (n := 274) K dX12_work_273 rfl rfl (liS rfl) (fun _ => rfl) ⟨by omega, by omega, by omega⟩ hv ?_
                  try simp only [up_same, up_up, up_ne, ne_eq, Nat.reduceEqDiff, not_false_eq_true, Int.reduceToNat, Int.toNat_natCast]
                  refine wp_goto K dX12_work_274 (tgt := 353) (by decide) ?_
                  refine wp_iinc (n := 356) K dX12_work_353 rfl rfl (by decide) ?_
                  refine wp_goto K dX12_work_356 (tgt := 47) (by decide) ?_
                  rw [j1, show ((fr + i : Nat) : Int) + 1 = ((fr + (i + 1) : Nat) : Int) by omega, hT]
                  exact ih _ _ _ (keepT _) ⟨rv, upA (fun j hj _ => rt j hj)⟩
                refine wp_aload_n (n := 249) K dX12_work_248 rfl rfl ?_
                refine wp_getF (n := 252) K dX12_work_249 rfl fl_X12_39 rfl (liS rfl) rfl rfl ?_
                refine wp_iload (n := 254) K dX12_work_252 rfl rfl ?_
                refine wp_iconst (n := 255) K dX12_work_254 rfl ?_
                refine wp_isub (n := 256) K dX12_work_255 rfl ?_
                refine wp_aload_n (n := 257) K dX12_work_256 rfl rfl ?_
                refine wp_getF (n := 260) K dX12_work_257 rfl fl_X12_39 rfl (liS rfl) rfl rfl ?_
                refine wp_iload (n := 262) K dX12_work_260 rfl rfl ?_
                refine wp_iconst (n := 263) K dX12_work_262 rfl ?_
                refine wp_isub (n := 264) K dX12_work_263 rfl ?_
                refine wp_zald (n := 265) K dX12_work_264 rfl rfl (liS rfl) ⟨by omega, by omega, by omega⟩ ?_
                try simp only [up_same, up_up, up_ne, ne_eq, Nat.reduceEqDiff, not_false_eq_true, Int.reduceToNat, Int.toNat_natCast]
                rw [j1, r1]
                refine wp_if_ne (n := 268) K dX12_work_265 rfl (tgt := 272) (by decide) ⟨by omega, by omega⟩ (fun c265 => ?_) (fun c265 => ?_)
                · refine wp_iconst (n := 273) K dX12_work_272 rfl ?_
                  exact fin1 0 (Or.inl rfl) (by omega)
                · refine wp_iconst (n := 269) K dX12_work_268 rfl ?_
                  refine wp_goto K dX12_work_269 (tgt := 273) (by decide) ?_
                  exact fin1 1 (Or.inr rfl) (by omega)
            · rw [if_pos (by omega)] at ih
              have b1 := bv (n - 1) (by omega)
              have b2 := bv (n - 2) (by omega)
              have r1 := rv (n - 1) (by omega)
              have r2 := rv (n - 2) (by omega)
              have j1 : ((n : Int) + -2).toNat = n - 2 := by omega
              have j2 : ((n : Int) + -2 + 1).toNat = n - 1 := by omega
              refine wp_iinc (n := 207) K dX12_work_204 rfl rfl (by decide) ?_
              refine wp_aload_n (n := 208) K dX12_work_207 rfl rfl ?_
              refine wp_getF (n := 211) K dX12_work_208 rfl fl_X12_39 rfl (liS rfl) rfl rfl ?_
              refine wp_iload (n := 213) K dX12_work_211 rfl rfl ?_
              refine wp_iload (n := 215) K dX12_work_213 rfl rfl ?_
              refine wp_aload_n (n := 216) K dX12_work_215 rfl rfl ?_
              refine wp_getF (n := 219) K dX12_work_216 rfl fl_X12_35 rfl (liS rfl) rfl rfl ?_
              refine wp_iload (n := 221) K dX12_work_219 rfl rfl ?_
              refine wp_lald (n := 222) K dX12_work_221 rfl rfl (liS rfl) ⟨by omega, by omega, by omega⟩ ?_
              try simp only [up_same, up_up, up_ne, ne_eq, Nat.reduceEqDiff, not_false_eq_true, Int.reduceToNat, Int.toNat_natCast]
              refine wp_aload_n (n := 223) K dX12_work_222 rfl rfl ?_
              refine wp_getF (n := 226) K dX12_work_223 rfl fl_X12_35 rfl (liS rfl) rfl rfl ?_
              refine wp_iload (n := 228) K dX12_work_226 rfl rfl ?_
              refine wp_iconst (n := 229) K dX12_work_228 rfl ?_
              refine wp_iadd (n := 230) K dX12_work_229 rfl ?_
              refine wp_lald (n := 231) K dX12_work_230 rfl rfl (liS rfl) ⟨by omega, by omega, by omega⟩ ?_
              try simp only [up_same, up_up, up_ne, ne_eq, Nat.reduceEqDiff, not_false_eq_true, Int.reduceToNat, Int.toNat_natCast]
              rw [j1, j2, r1, r2]
              refine wp_invS_i (n := 234) K dX12_work_231 rfl cf_X12_242 (m_isAsked _ _ _ (by omega) b2 b1 _ _) rfl rfl (by decide) ⟨Nat.le_refl _, Nat.le_refl _⟩ (Nat.le_of_ble_eq_true rfl) ?_
              refine wp_zast (n := 235) K dX12_work_234 rfl rfl (liS rfl) (fun _ => rfl) ⟨by omega, by omega, by omega⟩ (bI_01 _) ?_
              try simp only [up_same, up_up, up_ne, ne_eq, Nat.reduceEqDiff, not_false_eq_true, Int.reduceToNat, Int.toNat_natCast]
              refine wp_iinc (n := 238) K dX12_work_235 rfl rfl (by decide) ?_
              refine wp_goto K dX12_work_238 (tgt := 353) (by decide) ?_
              refine wp_iinc (n := 356) K dX12_work_353 rfl rfl (by decide) ?_
              refine wp_goto K dX12_work_356 (tgt := 47) (by decide) ?_
              rw [show (n : Int) + -2 = ((n - 2 : Nat) : Int) by omega, show (m : Int) + 1 = ((m + 1 : Nat) : Int) by omega, show ((fr + i : Nat) : Int) + 1 = ((fr + (i + 1) : Nat) : Int) by omega]
              exact ih _ _ _ (keepT _) ⟨fun j hj => rv j (by dsimp only at hj; omega), upA (fun j hj hne => rt j (by dsimp only at hj; omega))⟩
          · rw [if_pos (by omega)] at ih
            have b1 := bv (n - 1) (by omega)
            have b2 := bv (n - 2) (by omega)
            have r1 := rv (n - 1) (by omega)
            have r2 := rv (n - 2) (by omega)
            have j1 : ((n : Int) + -1 - 1).toNat = n - 2 := by omega
            have j2 : ((n : Int) + -1).toNat = n - 1 := by omega
            refine wp_iinc (n := 164) K dX12_work_161 rfl rfl (by decide) ?_
            refine wp_aload_n (n := 165) K dX12_work_164 rfl rfl ?_
            refine wp_getF (n := 168) K dX12_work_165 rfl fl_X12_35 rfl (liS rfl) rfl rfl ?_
            refine wp_iload (n := 170) K dX12_work_168 rfl rfl ?_
            refine wp_iconst (n := 171) K dX12_work_170 rfl ?_
            refine wp_isub (n := 172) K dX12_work_171 rfl ?_
            refine wp_iload (n := 174) K dX12_work_172 rfl rfl ?_
            refine wp_aload_n (n := 175) K dX12_work_174 rfl rfl ?_
            refine wp_getF (n := 178) K dX12_work_175 rfl fl_X12_35 rfl (liS rfl) rfl rfl ?_
            refine wp_iload (n := 180) K dX12_work_178 rfl rfl ?_
            refine wp_iconst (n := 181) K dX12_work_180 rfl ?_
            refine wp_isub (n := 182) K dX12_work_181 rfl ?_
            refine wp_lald (n := 183) K dX12_work_182 rfl rfl (liS rfl) ⟨by omega, by omega, by omega⟩ ?_
            try simp only [up_same, up_up, up_ne, ne_eq, Nat.reduceEqDiff, not_false_eq_true, Int.reduceToNat, Int.toNat_natCast]
            refine wp_aload_n (n := 184) K dX12_work_183 rfl rfl ?_
            refine wp_getF (n := 187) K dX12_work_184 rfl fl_X12_35 rfl (liS rfl) rfl rfl ?_
            refine wp_iload (n := 189) K dX12_work_187 rfl rfl ?_
            refine wp_lald (n := 190) K dX12_work_189 rfl rfl (liS rfl) ⟨by omega, by omega, by omega⟩ ?_
            try simp only [up_same, up_up, up_ne, ne_eq, Nat.reduceEqDiff, not_false_eq_true, Int.reduceToNat, Int.toNat_natCast]
            rw [j1, j2, r1, r2]
            refine wp_invS_l (n := 193) K dX12_work_190 rfl cf_X12_238 (m_two _ _ _ (by omega) b2 b1 _ _) rfl rfl (by decide) ⟨Nat.le_refl _, Nat.le_refl _⟩ (Nat.le_of_ble_eq_true rfl) ?_
            refine wp_last (n := 194) K dX12_work_193 rfl rfl (liS rfl) (fun _ => rfl) ⟨by omega, by omega, by omega⟩ ?_
            try simp only [up_same, up_up, up_ne, ne_eq, Nat.reduceEqDiff, not_false_eq_true, Int.reduceToNat, Int.toNat_natCast]
            refine wp_goto K dX12_work_194 (tgt := 353) (by decide) ?_
            refine wp_iinc (n := 356) K dX12_work_353 rfl rfl (by decide) ?_
            refine wp_goto K dX12_work_356 (tgt := 47) (by decide) ?_
            rw [j1, show (n : Int) + -1 = ((n - 1 : Nat) : Int) by omega, show ((fr + i : Nat) : Int) + 1 = ((fr + (i + 1) : Nat) : Int) by omega]
            exact ih _ _ _ (keepM _) ⟨upA (fun j hj hne => rv j (by dsimp only at hj; omega)), rt⟩
        · rw [if_pos (by omega)] at ih
          have r1 := rv (n - 1) (by omega)
          have j1 : ((n : Int) - 1).toNat = n - 1 := by omega
          refine wp_aload_n (n := 133) K dX12_work_132 rfl rfl ?_
          refine wp_getF (n := 136) K dX12_work_133 rfl fl_X12_35 rfl (liS rfl) rfl rfl ?_
          refine wp_iload (n := 138) K dX12_work_136 rfl rfl ?_
          refine wp_iconst (n := 139) K dX12_work_138 rfl ?_
          refine wp_isub (n := 140) K dX12_work_139 rfl ?_
          refine wp_aload_n (n := 141) K dX12_work_140 rfl rfl ?_
          refine wp_getF (n := 144) K dX12_work_141 rfl fl_X12_35 rfl (liS rfl) rfl rfl ?_
          refine wp_iload (n := 146) K dX12_work_144 rfl rfl ?_
          refine wp_iconst (n := 147) K dX12_work_146 rfl ?_
          refine wp_isub (n := 148) K dX12_work_147 rfl ?_
          refine wp_lald (n := 149) K dX12_work_148 rfl rfl (liS rfl) ⟨by omega, by omega, by omega⟩ ?_
          try simp only [up_same, up_up, up_ne, ne_eq, Nat.reduceEqDiff, not_false_eq_true, Int.reduceToNat, Int.toNat_natCast]
          rw [j1, r1]
          refine wp_lneg (n := 150) K dX12_work_149 rfl ?_
          refine wp_last (n := 151) K dX12_work_150 rfl rfl (liS rfl) (fun _ => rfl) ⟨by omega, by omega, by omega⟩ ?_
          try simp only [up_same, up_up, up_ne, ne_eq, Nat.reduceEqDiff, not_false_eq_true, Int.reduceToNat, Int.toNat_natCast]
          refine wp_goto K dX12_work_151 (tgt := 353) (by decide) ?_
          refine wp_iinc (n := 356) K dX12_work_353 rfl rfl (by decide) ?_
          refine wp_goto K dX12_work_356 (tgt := 47) (by decide) ?_
          rw [j1, show ((fr + i : Nat) : Int) + 1 = ((fr + (i + 1) : Nat) : Int) by omega]
          exact ih _ _ _ (keepM _) ⟨upA (fun j hj hne => rv j hj), rt⟩
      · rw [if_pos (by omega)] at ih
        refine wp_aload_n (n := 95) K dX12_work_94 rfl rfl ?_
        refine wp_getF (n := 98) K dX12_work_95 rfl fl_X12_35 rfl (liS rfl) rfl rfl ?_
        refine wp_iload (n := 100) K dX12_work_98 rfl rfl ?_
        refine wp_iload (n := 102) K dX12_work_100 rfl rfl ?_
        refine wp_if_ne (n := 105) K dX12_work_102 rfl (tgt := 111) (by decide) ⟨by omega, by omega⟩ (fun c102 => ?_) (fun c102 => ?_)
        · rw [if_neg (by omega)] at ih
          have hw8 := hnm w.toNat (by omega)
          refine wp_aload_n (n := 112) K dX12_work_111 rfl rfl ?_
          refine wp_getF (n := 115) K dX12_work_112 rfl fl_X12_32 rfl (liS rfl) rfl rfl ?_
          refine wp_iload (n := 117) K dX12_work_115 rfl rfl ?_
          refine wp_iald (n := 118) K dX12_work_117 rfl rfl (liS rfl) ⟨by omega, by omega, by omega⟩ ?_
          try simp only [up_same, up_up, up_ne, ne_eq, Nat.reduceEqDiff, not_false_eq_true, Int.reduceToNat, Int.toNat_natCast]
          rw [e83]
          refine wp_i2l (n := 119) K dX12_work_118 rfl ⟨by omega, by omega⟩ ?_
          refine wp_last (n := 120) K dX12_work_119 rfl rfl (liS rfl) (fun _ => rfl) ⟨by omega, by omega, by omega⟩ ?_
          try simp only [up_same, up_up, up_ne, ne_eq, Nat.reduceEqDiff, not_false_eq_true, Int.reduceToNat, Int.toNat_natCast]
          refine wp_iinc (n := 123) K dX12_work_120 rfl rfl (by decide) ?_
          refine wp_goto K dX12_work_123 (tgt := 353) (by decide) ?_
          refine wp_iinc (n := 356) K dX12_work_353 rfl rfl (by decide) ?_
          refine wp_goto K dX12_work_356 (tgt := 47) (by decide) ?_
          rw [show (n : Int) + 1 = ((n + 1 : Nat) : Int) by omega, show ((fr + i : Nat) : Int) + 1 = ((fr + (i + 1) : Nat) : Int) by omega]
          exact ih _ _ _ (keepM _) ⟨upA (fun j hj hne => rv j (by dsimp only at hj; omega)), rt⟩
        · rw [if_pos (by omega)] at ih
          refine wp_iload (n := 107) K dX12_work_105 rfl rfl ?_
          refine wp_i2l (n := 108) K dX12_work_107 rfl ⟨by omega, by omega⟩ ?_
          refine wp_goto K dX12_work_108 (tgt := 119) (by decide) ?_
          refine wp_last (n := 120) K dX12_work_119 rfl rfl (liS rfl) (fun _ => rfl) ⟨by omega, by omega, by omega⟩ ?_
          try simp only [up_same, up_up, up_ne, ne_eq, Nat.reduceEqDiff, not_false_eq_true, Int.reduceToNat, Int.toNat_natCast]
          refine wp_iinc (n := 123) K dX12_work_120 rfl rfl (by decide) ?_
          refine wp_goto K dX12_work_123 (tgt := 353) (by decide) ?_
          refine wp_iinc (n := 356) K dX12_work_353 rfl rfl (by decide) ?_
          refine wp_goto K dX12_work_356 (tgt := 47) (by decide) ?_
          rw [show (n : Int) + 1 = ((n + 1 : Nat) : Int) by omega, show ((fr + i : Nat) : Int) + 1 = ((fr + (i + 1) : Nat) : Int) by omega]
          exact ih _ _ _ (keepM _) ⟨upA (fun j hj hne => rv j (by dsimp only at hj; omega)), rt⟩
  refine main (to - fr) 0 (by omega) M mkV mkV (fun _ _ => rfl) ⟨fun j hj => absurd hj (Nat.not_lt_zero _), fun j hj => absurd hj (Nat.not_lt_zero _)⟩
