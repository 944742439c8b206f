/-- the rows of TOKENS, up to the end -/
def SPL (M : MT) (b : Nat → Int) (n T : Nat) : Prop := n ≤ 300 ∧ T ≤ n ∧ Rd b n T ∧ KT b n T = 41 ∧ M 55 6 = ((T + 1 : Nat) : Int) ∧ ∀ j, j ≤ T → M 57 j = (KT b n j : Int) ∧ M 58 j = (BT b n j : Int) ∧ M 59 j = VT b n j
theorem KT_41 {b : Nat → Int} {n t : Nat} (hok : okTp b n) : (KT b n t = 41 ↔ BT b n t = n) := by
  have hr := spn_r b (q := isBl) isBl_m (PT_le b n t)
  unfold KT BT tokAt
  generalize spn isBl b n (PT b n t) = s at *
  constructor
  · intro h
    rcases Nat.lt_or_ge s n with q | q
    · have h0 : 0 ≤ bA b n s := by unfold bA; rw [if_pos q]; exact (hok.2 s q).1
      exfalso
      cases hd : isDig (bA b n s) with
      | true => rw [tokK_d h0 hd] at h; cases h
      | false =>
        cases hl : isLet (bA b n s) with
        | true =>
          rw [tokK_l h0 hl] at h
          have h2 : wdK (letters b s (spn isLet b n s)) = 41 := h
          unfold wdK at h2
          split at h2
          · rename_i i hi
            have := (List.findIdx?_eq_some_iff_getElem.mp hi).1
            have : i < 18 := this
            omega
          · cases h2
        | false =>
          rw [tokK_m h0 hd hl] at h
          have h2 : (mkF2 b n s).1 = 41 := h
          unfold mkF2 at h2
          have := sgK_r (bA b n s)
          split at h2
          · dsimp only at h2; split at h2 <;> cases h2
          · dsimp only at h2; omega
    · omega
  · intro h
    unfold tokK
    dsimp only
    rw [bA_neg (by omega), if_pos (by decide)]

theorem c_split (n : Nat) (hn : n ≤ 300) (S : ST) (M : MT) (b : Nat → Int) (h : TB M b n) (hok : okTp b n) : Ct E1 yX9_split cX9_split 2 none rm_X9_split [.ref 55] S M (Qn [55, 57, 58, 59] S M (fun M1 => TB M1 b n ∧ M1 55 7 = 0 ∧ ∃ T, SPL M1 b n T)) := by
  refine Ct.mk [.ref 55, mkV] (by decide) rfl (Nat.le_of_ble_eq_true rfl) (fun X K => ?_)
  refine wp_aload_n (n := 1) K dX9_split_0 rfl rfl ?_
  refine wp_iconst (n := 2) K dX9_split_1 rfl ?_
  refine wp_putI (n := 5) K dX9_split_2 rfl fl_X9_29 rfl (liS rfl) (Or.inl rfl) rfl rfl ?_
  try simp only [up_same, up_up, up_ne, ne_eq, Nat.reduceEqDiff, not_false_eq_true, Int.reduceToNat, Int.toNat_natCast]
  refine wp_aload_n (n := 6) K dX9_split_5 rfl rfl ?_
  refine wp_iconst (n := 7) K dX9_split_6 rfl ?_
  refine wp_putI (n := 10) K dX9_split_7 rfl fl_X9_32 rfl (liS rfl) (Or.inl rfl) rfl rfl ?_
  try simp only [up_same, up_up, up_ne, ne_eq, Nat.reduceEqDiff, not_false_eq_true, Int.reduceToNat, Int.toNat_natCast]
  refine wp_aload_n (n := 11) K dX9_split_10 rfl rfl ?_
  refine wp_iconst (n := 12) K dX9_split_11 rfl ?_
  refine wp_putI (n := 15) K dX9_split_12 rfl fl_X9_35 rfl (liS rfl) (Or.inl rfl) rfl rfl ?_
  try simp only [up_same, up_up, up_ne, ne_eq, Nat.reduceEqDiff, not_false_eq_true, Int.reduceToNat, Int.toNat_natCast]
  have hT0 : TB (up M 55 (up (up (up (M 55) 5 0) 6 0) 7 0)) b n := h.mem (by simp [up]) (up_ne _ _ (by decide))
  have h50 : (up M 55 (up (up (up (M 55) 5 0) 6 0) 7 0)) 55 5 = ((0 : Nat) : Int) := by simp [up]
  refine wp_aload_n (n := 16) K dX9_split_15 rfl rfl ?_
  refine wp_invV_n (n := 19) K dX9_split_16 rfl cf_X9_38 (c_skipBlanks 0 n (by omega) hn _ _ b hT0 h50 hok) rfl rfl rfl (liS rfl) rfl (by decide) ⟨Nat.le_refl _, Nat.le_refl _⟩ (Nat.le_of_ble_eq_true rfl) ?_
  have key : ∀ d t, t + d = n + 1 → Rd b n t → ∀ (B : MT) (w1 : Value), (∀ a, a ∉ [55, 57, 58, 59] → B a = M a) → TB B b n → B 55 5 = (BT b n t : Int) → B 55 6 = (t : Int) → B 55 7 = 0 → (∀ j, j < t → B 57 j = (KT b n j : Int) ∧ B 58 j = (BT b n j : Int) ∧ B 59 j = VT b n j) → Wp E1 X 19 [.ref 55, w1] [] S B := by
    intro d
    induction d with
    | zero => intro t ht hrd; have := hrd.ln; omega
    | succ d ih =>
      intro t ht hrd B w1 hB hTB h5 h6 h7 hrow
      have hbt := spn_r b (q := isBl) isBl_m (PT_le b n t)
      have hbt' : BT b n t ≤ n := hbt.2
      have hle := hrd.le
      have hle2 : PT b n t ≤ BT b n t := hbt.1
      have h4 := hTB.1
      have k100 : BT b n t = n → Wp E1 X 100 [.ref 55, w1] [] S B := fun he => by
        have hk := (KT_41 hok).mpr he
        have hv : VT b n t = 0 := by
          have e : VT b n t = (tokK b n (BT b n t)).2.1 := rfl
          rw [e, he]; unfold tokK; dsimp only; rw [bA_neg (Nat.le_refl _), if_pos (by decide)]
        refine wp_aload_n (n := 101) K dX9_split_100 rfl rfl ?_
        refine wp_getF (n := 104) K dX9_split_101 rfl fl_X9_15 rfl (liS rfl) rfl rfl ?_
        refine wp_aload_n (n := 105) K dX9_split_104 rfl rfl ?_
        refine wp_getI (n := 108) K dX9_split_105 rfl fl_X9_32 rfl (liS rfl) rfl ?_
        try simp only [up_same, up_up, up_ne, ne_eq, Nat.reduceEqDiff, not_false_eq_true, Int.reduceToNat, Int.toNat_natCast]
        refine wp_bipush (n := 110) K dX9_split_108 rfl rfl ?_
        refine wp_iast (n := 111) K dX9_split_110 rfl rfl (liS rfl) (fun _ => rfl) ⟨by omega, by omega, by omega⟩ ?_
        try simp only [up_same, up_up, up_ne, ne_eq, Nat.reduceEqDiff, not_false_eq_true, Int.reduceToNat, Int.toNat_natCast]
        refine wp_aload_n (n := 112) K dX9_split_111 rfl rfl ?_
        refine wp_getF (n := 115) K dX9_split_112 rfl fl_X9_19 rfl (liS rfl) rfl rfl ?_
        refine wp_aload_n (n := 116) K dX9_split_115 rfl rfl ?_
        refine wp_getI (n := 119) K dX9_split_116 rfl fl_X9_32 rfl (liS rfl) rfl ?_
        try simp only [up_same, up_up, up_ne, ne_eq, Nat.reduceEqDiff, not_false_eq_true, Int.reduceToNat, Int.toNat_natCast]
        refine wp_aload_n (n := 120) K dX9_split_119 rfl rfl ?_
        refine wp_getI (n := 123) K dX9_split_120 rfl fl_X9_25 rfl (liS rfl) rfl ?_
        try simp only [up_same, up_up, up_ne, ne_eq, Nat.reduceEqDiff, not_false_eq_true, Int.reduceToNat, Int.toNat_natCast]
        refine wp_iast (n := 124) K dX9_split_123 rfl rfl (liS rfl) (fun _ => rfl) ⟨by omega, by omega, by omega⟩ ?_
        try simp only [up_same, up_up, up_ne, ne_eq, Nat.reduceEqDiff, not_false_eq_true, Int.reduceToNat, Int.toNat_natCast]
        refine wp_aload_n (n := 125) K dX9_split_124 rfl rfl ?_
        refine wp_getF (n := 128) K dX9_split_125 rfl fl_X9_22 rfl (liS rfl) rfl rfl ?_
        refine wp_aload_n (n := 129) K dX9_split_128 rfl rfl ?_
        refine wp_getI (n := 132) K dX9_split_129 rfl fl_X9_32 rfl (liS rfl) rfl ?_
        try simp only [up_same, up_up, up_ne, ne_eq, Nat.reduceEqDiff, not_false_eq_true, Int.reduceToNat, Int.toNat_natCast]
        refine wp_iconst (n := 133) K dX9_split_132 rfl ?_
        refine wp_iast (n := 134) K dX9_split_133 rfl rfl (liS rfl) (fun _ => rfl) ⟨by omega, by omega, by omega⟩ ?_
        try simp only [up_same, up_up, up_ne, ne_eq, Nat.reduceEqDiff, not_false_eq_true, Int.reduceToNat, Int.toNat_natCast]
        refine wp_aload_n (n := 135) K dX9_split_134 rfl rfl ?_
        refine wp_dup (n := 136) K dX9_split_135 rfl rfl ?_
        refine wp_getI (n := 139) K dX9_split_136 rfl fl_X9_32 rfl (liS rfl) rfl ?_
        try simp only [up_same, up_up, up_ne, ne_eq, Nat.reduceEqDiff, not_false_eq_true, Int.reduceToNat, Int.toNat_natCast]
        refine wp_iconst (n := 140) K dX9_split_139 rfl ?_
        refine wp_iadd (n := 141) K dX9_split_140 rfl ?_
        refine wp_putI (n := 144) K dX9_split_141 rfl fl_X9_32 rfl (liS rfl) (Or.inl rfl) rfl rfl ?_
        try simp only [up_same, up_up, up_ne, ne_eq, Nat.reduceEqDiff, not_false_eq_true, Int.reduceToNat, Int.toNat_natCast]
        refine ret_qn K dX9_split_144 rfl ?_ ?_ ⟨Nat.le_refl _, Nat.le_refl _⟩
        · intro a ha
          rw [← hB a ha]
          simp only [List.mem_cons, List.not_mem_nil, or_false, not_or] at ha
          simp [up, ha]
        · refine ⟨hTB.mem (by simp [up]) (by simp [up]), by simp [up]; exact h7, t, hn, by omega, hrd, hk, by simp [up, h6], fun j hj => ?_⟩
          by_cases e : j = t
          · subst e
            simp [up, h6, h4, hk, he, hv]
          · simp [up, h6, e]
            exact hrow j (by omega)
      refine wp_aload_n (n := 20) K dX9_split_19 rfl rfl ?_
      refine wp_getI (n := 23) K dX9_split_20 rfl fl_X9_29 rfl (liS rfl) rfl ?_
      try simp only [up_same, up_up, up_ne, ne_eq, Nat.reduceEqDiff, not_false_eq_true, Int.reduceToNat, Int.toNat_natCast]
      refine wp_aload_n (n := 24) K dX9_split_23 rfl rfl ?_
      refine wp_getI (n := 27) K dX9_split_24 rfl fl_X9_25 rfl (liS rfl) rfl ?_
      try simp only [up_same, up_up, up_ne, ne_eq, Nat.reduceEqDiff, not_false_eq_true, Int.reduceToNat, Int.toNat_natCast]
      refine wp_icmp_ge (n := 30) K dX9_split_27 rfl (tgt := 100) (by decide) ⟨by omega, by omega⟩ ⟨by omega, by omega⟩ (fun c27 => ?_) (fun c27 => ?_)
      · exact k100 (by omega)
      · refine wp_aload_n (n := 31) K dX9_split_30 rfl rfl ?_
        refine wp_getI (n := 34) K dX9_split_31 rfl fl_X9_32 rfl (liS rfl) rfl ?_
        try simp only [up_same, up_up, up_ne, ne_eq, Nat.reduceEqDiff, not_false_eq_true, Int.reduceToNat, Int.toNat_natCast]
        refine wp_sipush (n := 37) K dX9_split_34 rfl rfl ?_
        refine wp_icmp_ge (n := 40) K dX9_split_37 rfl (tgt := 100) (by decide) ⟨by omega, by omega⟩ ⟨by omega, by omega⟩ (fun c37 => ?_) (fun c37 => ?_)
        · omega
        · have hlt : BT b n t < n := by omega
          have hk41 : KT b n t ≠ 41 := fun q => by have := (KT_41 hok).mp q; omega
          refine wp_aload_n (n := 41) K dX9_split_40 rfl rfl ?_
          refine wp_getI (n := 44) K dX9_split_41 rfl fl_X9_29 rfl (liS rfl) rfl ?_
          try simp only [up_same, up_up, up_ne, ne_eq, Nat.reduceEqDiff, not_false_eq_true, Int.reduceToNat, Int.toNat_natCast]
          refine wp_istore_n (n := 45) K dX9_split_44 rfl (by decide) ?_
          refine wp_aload_n (n := 46) K dX9_split_45 rfl rfl ?_
          refine wp_getF (n := 49) K dX9_split_46 rfl fl_X9_22 rfl (liS rfl) rfl rfl ?_
          refine wp_aload_n (n := 50) K dX9_split_49 rfl rfl ?_
          refine wp_getI (n := 53) K dX9_split_50 rfl fl_X9_32 rfl (liS rfl) rfl ?_
          try simp only [up_same, up_up, up_ne, ne_eq, Nat.reduceEqDiff, not_false_eq_true, Int.reduceToNat, Int.toNat_natCast]
          refine wp_iconst (n := 54) K dX9_split_53 rfl ?_
          refine wp_iast (n := 55) K dX9_split_54 rfl rfl (liS rfl) (fun _ => rfl) ⟨by omega, by omega, by omega⟩ ?_
          try simp only [up_same, up_up, up_ne, ne_eq, Nat.reduceEqDiff, not_false_eq_true, Int.reduceToNat, Int.toNat_natCast]
          refine wp_aload_n (n := 56) K dX9_split_55 rfl rfl ?_
          refine wp_getF (n := 59) K dX9_split_56 rfl fl_X9_15 rfl (liS rfl) rfl rfl ?_
          refine wp_aload_n (n := 60) K dX9_split_59 rfl rfl ?_
          refine wp_getI (n := 63) K dX9_split_60 rfl fl_X9_32 rfl (liS rfl) rfl ?_
          try simp only [up_same, up_up, up_ne, ne_eq, Nat.reduceEqDiff, not_false_eq_true, Int.reduceToNat, Int.toNat_natCast]
          refine wp_aload_n (n := 64) K dX9_split_63 rfl rfl ?_
          refine wp_aload_n (n := 65) K dX9_split_64 rfl rfl ?_
          refine wp_iload_n (n := 66) K dX9_split_65 rfl rfl ?_
          rw [h5]
          simp only [h6, Int.toNat_natCast]
          have hTB1 : TB (up B 59 (up (B 59) t 0)) b n := hTB.mem (by rw [up_ne _ _ (by decide)]) (up_ne _ _ (by decide))
          refine wp_invV_i (n := 69) K dX9_split_66 rfl cf_X9_41 (c_byteAt (BT b n t) n (by omega) hn _ _ b hTB1) rfl rfl rfl (liS rfl) rfl (by decide) ⟨Nat.le_refl _, Nat.le_refl _⟩ (Nat.le_of_ble_eq_true rfl) ?_
          refine wp_invV_qi (n := 72) K dX9_split_69 rfl cf_X9_45 (c_takeToken (BT b n t) n t hlt hn (by omega) _ _ b hTB1 (by rw [up_ne _ _ (by decide)]; exact h5) (by rw [up_ne _ _ (by decide)]; exact h6) (by rw [up_same, up_same]) hok) rfl rfl rfl (liS rfl) rfl (by decide) ⟨Nat.le_refl _, Nat.le_refl _⟩ (Nat.le_of_ble_eq_true rfl) (fun A1 hA1 gA1 => ?_)
          obtain ⟨g1, g2⟩ := gA1
          rw [up_ne _ _ (by decide)] at g1
          rw [up_same, up_up] at g2
          have hA55_6 : A1 55 6 = (t : Int) := by rw [g1, up_ne _ _ (by decide)]; exact h6
          refine wp_iast (n := 73) K dX9_split_72 rfl rfl (liS rfl) (fun _ => rfl) ⟨by omega, by omega, by omega⟩ ?_
          try simp only [up_same, up_up, up_ne, ne_eq, Nat.reduceEqDiff, not_false_eq_true, Int.reduceToNat, Int.toNat_natCast]
          refine wp_aload_n (n := 74) K dX9_split_73 rfl rfl ?_
          refine wp_getF (n := 77) K dX9_split_74 rfl fl_X9_19 rfl (liS rfl) rfl rfl ?_
          refine wp_aload_n (n := 78) K dX9_split_77 rfl rfl ?_
          refine wp_getI (n := 81) K dX9_split_78 rfl fl_X9_32 rfl (liS rfl) rfl ?_
          try simp only [up_same, up_up, up_ne, ne_eq, Nat.reduceEqDiff, not_false_eq_true, Int.reduceToNat, Int.toNat_natCast]
          refine wp_iload_n (n := 82) K dX9_split_81 rfl rfl ?_
          refine wp_iast (n := 83) K dX9_split_82 rfl rfl (liS rfl) (fun _ => rfl) ⟨by omega, by omega, by omega⟩ ?_
          try simp only [up_same, up_up, up_ne, ne_eq, Nat.reduceEqDiff, not_false_eq_true, Int.reduceToNat, Int.toNat_natCast]
          refine wp_aload_n (n := 84) K dX9_split_83 rfl rfl ?_
          refine wp_dup (n := 85) K dX9_split_84 rfl rfl ?_
          refine wp_getI (n := 88) K dX9_split_85 rfl fl_X9_32 rfl (liS rfl) rfl ?_
          try simp only [up_same, up_up, up_ne, ne_eq, Nat.reduceEqDiff, not_false_eq_true, Int.reduceToNat, Int.toNat_natCast]
          refine wp_iconst (n := 89) K dX9_split_88 rfl ?_
          refine wp_iadd (n := 90) K dX9_split_89 rfl ?_
          refine wp_putI (n := 93) K dX9_split_90 rfl fl_X9_32 rfl (liS rfl) (Or.inl rfl) rfl rfl ?_
          try simp only [up_same, up_up, up_ne, ne_eq, Nat.reduceEqDiff, not_false_eq_true, Int.reduceToNat, Int.toNat_natCast]
          simp only [hA55_6, h6, Int.toNat_natCast]
          have hA57 : A1 57 = B 57 := by rw [hA1 _ (by decide), up_ne _ _ (by decide)]
          have hA58 : A1 58 = B 58 := by rw [hA1 _ (by decide), up_ne _ _ (by decide)]
          have hA56 : A1 56 = B 56 := by rw [hA1 _ (by decide), up_ne _ _ (by decide)]
          generalize hB2 : up (up (up A1 57 _) 58 _) 55 _ = B2
          have e55 : B2 55 = up (A1 55) 6 ((t : Int) + 1) := by rw [← hB2]; simp [up]
          have e56 : B2 56 = B 56 := by rw [← hB2]; simp [up]; exact hA56
          have e57 : B2 57 = up (B 57) t (KT b n t : Int) := by rw [← hB2, ← hA57]; simp [up]; rfl
          have e58 : B2 58 = up (B 58) t (BT b n t : Int) := by rw [← hB2, ← hA58]; simp [up]
          have e59 : B2 59 = up (B 59) t (VT b n t) := by rw [← hB2]; simp [up]; rw [g2]; rfl
          have ept : ((tokK b n (BT b n t)).2.2 : Int) = (PT b n (t + 1) : Int) := rfl
          have hTB2 : TB B2 b n := hTB.mem (by rw [e55, up_ne _ _ (by decide), g1, up_ne _ _ (by decide)]) e56
          have h52 : B2 55 5 = (PT b n (t + 1) : Int) := by rw [e55, up_ne _ _ (by decide), g1, up_same, ept]
          refine wp_aload_n (n := 94) K dX9_split_93 rfl rfl ?_
          refine wp_invV_n (n := 97) K dX9_split_94 rfl cf_X9_38 (c_skipBlanks (PT b n (t + 1)) n (PT_le b n (t + 1)) hn _ _ b hTB2 h52 hok) rfl rfl rfl (liS rfl) rfl (by decide) ⟨Nat.le_refl _, Nat.le_refl _⟩ (Nat.le_of_ble_eq_true rfl) ?_
          refine wp_goto K dX9_split_97 (tgt := 19) (by decide) ?_
          refine ih (t + 1) (by omega) (hrd.nx hk41) _ _ (fun a ha => ?_) (hTB2.at 5 _ (by decide)) (by rw [up_same, up_same]; rfl) (by rw [up_same, up_ne _ _ (by decide), e55, up_same]; omega) (by rw [up_same, up_ne _ _ (by decide), e55, up_ne _ _ (by decide), g1, up_ne _ _ (by decide)]; exact h7) (fun j hj => ?_)
          · rw [← hB a ha]
            simp only [List.mem_cons, List.not_mem_nil, or_false, not_or] at ha
            rw [up_ne _ _ (by simp [ha]), ← hB2]
            simp [up, ha]
            rw [hA1 a (by simp [ha]), up_ne _ _ (by simp [ha])]
          · rw [up_ne _ _ (by decide), up_ne _ _ (by decide), up_ne _ _ (by decide), e57, e58, e59]
            by_cases e : j = t
            · subst e; rw [up_same, up_same, up_same]; exact ⟨rfl, rfl, rfl⟩
            · rw [up_ne _ _ e, up_ne _ _ e, up_ne _ _ e]; exact hrow j (by omega)
  refine key (n + 1) 0 (by omega) (fun j hj => by omega) _ _ (fun a ha => ?_) ?_ ?_ ?_ ?_ (fun j hj => by omega)
  · simp only [List.mem_cons, List.not_mem_nil, or_false, not_or] at ha
    simp [up, ha]
  · exact hT0.at 5 _ (by decide)
  · rw [up_same, up_same]; rfl
  · simp [up]
  · simp [up]
/-- the reader stands at TOKEN t -/
def TSA (M : MT) (b : Nat → Int) (n T t : Nat) : Prop := SPL M b n T ∧ t ≤ T ∧ M 55 7 = (t : Int)
theorem TSA.mem {M M' : MT} {b : Nat → Int} {n T t : Nat} (h : TSA M b n T t) (e : ∀ a, 55 ≤ a → a ≤ 59 → M' a = M a) : TSA M' b n T t := by
  unfold TSA SPL
  rw [e 55 (by decide) (by decide), e 57 (by decide) (by decide), e 58 (by decide) (by decide), e 59 (by decide) (by decide)]
  exact h

theorem c_kind (n T t : Nat) (S : ST) (M : MT) (b : Nat → Int) (h : TSA M b n T t) : Ct E1 yX9_kind cX9_kind 1 (some .int) rm_X9_kind [.ref 55] S M (Pi (KT b n t : Int) S M) := by
  obtain ⟨⟨h1, h2, h3, h4, h5, h6⟩, h7, h8⟩ := h
  refine Ct.mk [.ref 55] (by decide) rfl (Nat.le_of_ble_eq_true rfl) (fun X K => ?_)
  refine wp_aload_n (n := 1) K dX9_kind_0 rfl rfl ?_
  refine wp_getF (n := 4) K dX9_kind_1 rfl fl_X9_15 rfl (liS rfl) rfl rfl ?_
  refine wp_aload_n (n := 5) K dX9_kind_4 rfl rfl ?_
  refine wp_getI (n := 8) K dX9_kind_5 rfl fl_X9_35 rfl (liS rfl) rfl ?_
  try simp only [up_same, up_up, Int.reduceToNat, Int.toNat_natCast]
  refine wp_iald (n := 9) K dX9_kind_8 rfl rfl (liS rfl) ⟨by omega, by omega, by omega⟩ ?_
  try simp only [up_same, up_up, Int.reduceToNat, Int.toNat_natCast]
  refine ret_i K dX9_kind_9 ?_ rfl ?_ ⟨Nat.le_refl _, Nat.le_refl _⟩
  · rw [h8, Int.toNat_natCast]; exact (h6 t h7).1
  · rfl

theorem c_start (n T t : Nat) (S : ST) (M : MT) (b : Nat → Int) (h : TSA M b n T t) : Ct E1 yX9_start cX9_start 1 (some .int) rm_X9_start [.ref 55] S M (Pi (BT b n t : Int) S M) := by
  obtain ⟨⟨h1, h2, h3, h4, h5, h6⟩, h7, h8⟩ := h
  refine Ct.mk [.ref 55] (by decide) rfl (Nat.le_of_ble_eq_true rfl) (fun X K => ?_)
  refine wp_aload_n (n := 1) K dX9_start_0 rfl rfl ?_
  refine wp_getF (n := 4) K dX9_start_1 rfl fl_X9_19 rfl (liS rfl) rfl rfl ?_
  refine wp_aload_n (n := 5) K dX9_start_4 rfl rfl ?_
  refine wp_getI (n := 8) K dX9_start_5 rfl fl_X9_35 rfl (liS rfl) rfl ?_
  try simp only [up_same, up_up, Int.reduceToNat, Int.toNat_natCast]
  refine wp_iald (n := 9) K dX9_start_8 rfl rfl (liS rfl) ⟨by omega, by omega, by omega⟩ ?_
  try simp only [up_same, up_up, Int.reduceToNat, Int.toNat_natCast]
  refine ret_i K dX9_start_9 ?_ rfl ?_ ⟨Nat.le_refl _, Nat.le_refl _⟩
  · rw [h8, Int.toNat_natCast]; exact (h6 t h7).2.1
  · rfl

theorem c_number (n T t : Nat) (S : ST) (M : MT) (b : Nat → Int) (h : TSA M b n T t) : Ct E1 yX9_number cX9_number 1 (some .int) rm_X9_number [.ref 55] S M (Pi (VT b n t) S M) := by
  obtain ⟨⟨h1, h2, h3, h4, h5, h6⟩, h7, h8⟩ := h
  refine Ct.mk [.ref 55] (by decide) rfl (Nat.le_of_ble_eq_true rfl) (fun X K => ?_)
  refine wp_aload_n (n := 1) K dX9_number_0 rfl rfl ?_
  refine wp_getF (n := 4) K dX9_number_1 rfl fl_X9_22 rfl (liS rfl) rfl rfl ?_
  refine wp_aload_n (n := 5) K dX9_number_4 rfl rfl ?_
  refine wp_getI (n := 8) K dX9_number_5 rfl fl_X9_35 rfl (liS rfl) rfl ?_
  try simp only [up_same, up_up, Int.reduceToNat, Int.toNat_natCast]
  refine wp_iald (n := 9) K dX9_number_8 rfl rfl (liS rfl) ⟨by omega, by omega, by omega⟩ ?_
  try simp only [up_same, up_up, Int.reduceToNat, Int.toNat_natCast]
  refine ret_i K dX9_number_9 ?_ rfl ?_ ⟨Nat.le_refl _, Nat.le_refl _⟩
  · rw [h8, Int.toNat_natCast]; exact (h6 t h7).2.2
  · rfl

theorem c_advance (n T t : Nat) (S : ST) (M : MT) (b : Nat → Int) (h : TSA M b n T t) (hk : KT b n t ≠ 41) : Ct E1 yX9_advance cX9_advance 1 none rm_X9_advance [.ref 55] S M (Qn [55] S M (fun M1 => TSA M1 b n T (t + 1) ∧ M1 55 4 = M 55 4)) := by
  obtain ⟨⟨h1, h2, h3, h4, h5, h6⟩, h7, h8⟩ := id h
  have hlt : t < T := by
    rcases Nat.lt_or_eq_of_le h7 with q | q
    · exact q
    · rw [q] at hk; exact absurd h4 hk
  refine Ct.mk [.ref 55] (by decide) rfl (Nat.le_of_ble_eq_true rfl) (fun X K => ?_)
  refine wp_aload_n (n := 1) K dX9_advance_0 rfl rfl ?_
  refine wp_getI (n := 4) K dX9_advance_1 rfl fl_X9_35 rfl (liS rfl) rfl ?_
  try simp only [up_same, up_up, up_ne, ne_eq, Nat.reduceEqDiff, not_false_eq_true, Int.reduceToNat, Int.toNat_natCast]
  refine wp_aload_n (n := 5) K dX9_advance_4 rfl rfl ?_
  refine wp_getI (n := 8) K dX9_advance_5 rfl fl_X9_32 rfl (liS rfl) rfl ?_
  try simp only [up_same, up_up, up_ne, ne_eq, Nat.reduceEqDiff, not_false_eq_true, Int.reduceToNat, Int.toNat_natCast]
  refine wp_iconst (n := 9) K dX9_advance_8 rfl ?_
  refine wp_isub (n := 10) K dX9_advance_9 rfl ?_
  refine wp_icmp_ge (n := 13) K dX9_advance_10 rfl (tgt := 23) (by decide) ⟨by omega, by omega⟩ ⟨by omega, by omega⟩ (fun c10 => ?_) (fun c10 => ?_)
  · omega
  · refine wp_aload_n (n := 14) K dX9_advance_13 rfl rfl ?_
    refine wp_dup (n := 15) K dX9_advance_14 rfl rfl ?_
    refine wp_getI (n := 18) K dX9_advance_15 rfl fl_X9_35 rfl (liS rfl) rfl ?_
    try simp only [up_same, up_up, up_ne, ne_eq, Nat.reduceEqDiff, not_false_eq_true, Int.reduceToNat, Int.toNat_natCast]
    refine wp_iconst (n := 19) K dX9_advance_18 rfl ?_
    refine wp_iadd (n := 20) K dX9_advance_19 rfl ?_
    refine wp_putI (n := 23) K dX9_advance_20 rfl fl_X9_35 rfl (liS rfl) (Or.inl rfl) rfl rfl ?_
    try simp only [up_same, up_up, up_ne, ne_eq, Nat.reduceEqDiff, not_false_eq_true, Int.reduceToNat, Int.toNat_natCast]
    refine ret_qn K dX9_advance_23 rfl ?_ ?_ ⟨Nat.le_refl _, Nat.le_refl _⟩
    · (intro a ha; simp only [List.mem_cons, List.not_mem_nil, or_false, not_or] at ha; simp [up, ha])
    · refine ⟨⟨⟨h1, h2, h3, h4, ?_, ?_⟩, by omega, ?_⟩, ?_⟩
      · simp [up]; exact h5
      · simp [up]; exact h6
      · simp [up, h8]
      · simp [up]
