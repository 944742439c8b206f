/-! the reader's pile and code, as lists: the last first -/
def LST (M : MT) (w cc : List Int) (op : Nat) : Prop := M 60 8 = (w.length : Int) ∧ PR (M 63) w ∧ M 60 7 = (cc.length : Int) ∧ PR (M 62) cc ∧ M 60 12 = (op : Int)
def isO (k : Int) : Nat := if k = 28 ∨ k = 17 ∨ k = 33 then 1 else 0
def clo (k : Int) : Int := if k = 28 then 0 else if k = 15 then 1 else if k = 16 then 2 else if k = 17 then 3 else if k = 24 ∨ k = 25 then 5 else if k = 26 ∨ k = 27 then 6 else if k = 33 then 7 else 4
/-- what else of the reader stays -/
def RK (M M1 : MT) : Prop := ∀ j, j ≠ 7 → j ≠ 8 → j ≠ 12 → M1 60 j = M 60 j
theorem RK.refl (M : MT) : RK M M := fun _ _ _ _ => rfl
theorem RK.trans {M M1 M2 : MT} (h : RK M M1) (h' : RK M1 M2) : RK M M2 := fun j a b c => (h' j a b c).trans (h j a b c)

theorem c_putOff (k : Int) (w cc : List Int) (op : Nat) (hw : w.length < 40) (S : ST) (M : MT) (h : LST M w cc op) : Ct E1 yX4_putOff cX4_putOff 2 none rm_X4_putOff [.ref 60, .int (z k)] S M (Qn [60, 63] S M (fun M1 => LST M1 (k :: w) cc op ∧ RK M M1)) := by
  obtain ⟨h1, h2, h3, h4, h5⟩ := h
  refine Ct.mk [.ref 60, .int (z k)] (by decide) rfl (Nat.le_of_ble_eq_true rfl) (fun X K => ?_)
  refine wp_aload_n (n := 1) K dX4_putOff_0 rfl rfl ?_
  refine wp_getI (n := 4) K dX4_putOff_1 rfl fl_X4_42 rfl (liS rfl) rfl ?_
  try simp only [up_same, up_up, up_ne, ne_eq, Nat.reduceEqDiff, not_false_eq_true, Int.reduceToNat, Int.toNat_natCast]
  refine wp_bipush (n := 6) K dX4_putOff_4 rfl rfl ?_
  refine wp_icmp_ge (n := 9) K dX4_putOff_6 rfl (tgt := 29) (by decide) ⟨by omega, by omega⟩ ⟨by omega, by omega⟩ (fun c6 => ?_) (fun c6 => ?_)
  · omega
  · refine wp_aload_n (n := 10) K dX4_putOff_9 rfl rfl ?_
    refine wp_getF (n := 13) K dX4_putOff_10 rfl fl_X4_20 rfl (liS rfl) rfl rfl ?_
    refine wp_aload_n (n := 14) K dX4_putOff_13 rfl rfl ?_
    refine wp_getI (n := 17) K dX4_putOff_14 rfl fl_X4_42 rfl (liS rfl) rfl ?_
    try simp only [up_same, up_up, up_ne, ne_eq, Nat.reduceEqDiff, not_false_eq_true, Int.reduceToNat, Int.toNat_natCast]
    refine wp_iload_n (n := 18) K dX4_putOff_17 rfl rfl ?_
    refine wp_iast (n := 19) K dX4_putOff_18 rfl rfl (liS rfl) (fun _ => rfl) ⟨by omega, by omega, by omega⟩ ?_
    try simp only [up_same, up_up, up_ne, ne_eq, Nat.reduceEqDiff, not_false_eq_true, Int.reduceToNat, Int.toNat_natCast]
    refine wp_aload_n (n := 20) K dX4_putOff_19 rfl rfl ?_
    refine wp_dup (n := 21) K dX4_putOff_20 rfl rfl ?_
    refine wp_getI (n := 24) K dX4_putOff_21 rfl fl_X4_42 rfl (liS rfl) rfl ?_
    try simp only [up_same, up_up, up_ne, ne_eq, Nat.reduceEqDiff, not_false_eq_true, Int.reduceToNat, Int.toNat_natCast]
    refine wp_iconst (n := 25) K dX4_putOff_24 rfl ?_
    refine wp_iadd (n := 26) K dX4_putOff_25 rfl ?_
    refine wp_putI (n := 29) K dX4_putOff_26 rfl fl_X4_42 rfl (liS rfl) (Or.inl rfl) rfl rfl ?_
    try simp only [up_same, up_up, up_ne, ne_eq, Nat.reduceEqDiff, not_false_eq_true, Int.reduceToNat, Int.toNat_natCast]
    refine ret_qn K dX4_putOff_29 rfl ?_ ?_ ⟨Nat.le_refl _, Nat.le_refl _⟩
    · (intro a ha; simp only [List.mem_cons, List.not_mem_nil, or_false, not_or] at ha; simp [up, ha])
    · refine ⟨⟨by simp [up, h1], ⟨by simp [up, h1], ?_⟩, by simp [up, h3], by simp [up]; exact h4, by simp [up, h5]⟩, fun j a b c => by simp [up, b]⟩
      refine h2.of (fun j hj => ?_)
      simp [up, h1, show ¬ j = w.length by omega]

theorem c_endWait (k : Int) (w cc : List Int) (op : Nat) (hw : w.length < 40) (hk : InR k) (ho : isO k ≤ op) (hop : op ≤ 100) (S : ST) (M : MT) (h : LST M (k :: w) cc op) : Ct E1 yX4_endWait cX4_endWait 2 none rm_X4_endWait [.ref 60] S M (Qn [60] S M (fun M1 => LST M1 w cc (op - isO k) ∧ RK M M1)) := by
  obtain ⟨h1, ⟨h2, h2'⟩, h3, h4, h5⟩ := h
  have hl : ((k :: w).length : Int) = (w.length : Int) + 1 := by simp
  rw [hl] at h1
  have e : (M 60 8 - 1).toNat = w.length := by omega
  refine Ct.mk [.ref 60, mkV] (by decide) rfl (Nat.le_of_ble_eq_true rfl) (fun X K => ?_)
  have k45 : isO k = 1 → Wp E1 X 45 [.ref 60, .int (z k)] [] S (up M 60 (up (M 60) 8 (M 60 8 - 1))) := fun hq => by
    refine wp_aload_n (n := 46) K dX4_endWait_45 rfl rfl ?_
    refine wp_dup (n := 47) K dX4_endWait_46 rfl rfl ?_
    refine wp_getI (n := 50) K dX4_endWait_47 rfl fl_X4_54 rfl (liS rfl) rfl ?_
    try simp only [up_same, up_up, up_ne, ne_eq, Nat.reduceEqDiff, not_false_eq_true, Int.reduceToNat, Int.toNat_natCast]
    refine wp_iconst (n := 51) K dX4_endWait_50 rfl ?_
    refine wp_isub (n := 52) K dX4_endWait_51 rfl ?_
    refine wp_putI (n := 55) K dX4_endWait_52 rfl fl_X4_54 rfl (liS rfl) (Or.inl rfl) rfl rfl ?_
    try simp only [up_same, up_up, up_ne, ne_eq, Nat.reduceEqDiff, not_false_eq_true, Int.reduceToNat, Int.toNat_natCast]
    refine ret_qn K dX4_endWait_55 rfl ?_ ?_ ⟨Nat.le_refl _, Nat.le_refl _⟩
    · (intro a ha; simp only [List.mem_cons, List.not_mem_nil, or_false, not_or] at ha; simp [up, ha])
    · refine ⟨⟨by simp [up, h1], by simp [up]; exact h2', by simp [up, h3], by simp [up]; exact h4, by simp [up, h5]; omega⟩, fun j a b c => by simp [up, b, c]⟩
  refine wp_aload_n (n := 1) K dX4_endWait_0 rfl rfl ?_
  refine wp_getI (n := 4) K dX4_endWait_1 rfl fl_X4_42 rfl (liS rfl) rfl ?_
  try simp only [up_same, up_up, up_ne, ne_eq, Nat.reduceEqDiff, not_false_eq_true, Int.reduceToNat, Int.toNat_natCast]
  refine wp_if_le (n := 7) K dX4_endWait_4 rfl (tgt := 55) (by decide) ⟨by omega, by omega⟩ (fun c4 => ?_) (fun c4 => ?_)
  · omega
  · refine wp_aload_n (n := 8) K dX4_endWait_7 rfl rfl ?_
    refine wp_dup (n := 9) K dX4_endWait_8 rfl rfl ?_
    refine wp_getI (n := 12) K dX4_endWait_9 rfl fl_X4_42 rfl (liS rfl) rfl ?_
    try simp only [up_same, up_up, up_ne, ne_eq, Nat.reduceEqDiff, not_false_eq_true, Int.reduceToNat, Int.toNat_natCast]
    refine wp_iconst (n := 13) K dX4_endWait_12 rfl ?_
    refine wp_isub (n := 14) K dX4_endWait_13 rfl ?_
    refine wp_putI (n := 17) K dX4_endWait_14 rfl fl_X4_42 rfl (liS rfl) (Or.inl rfl) rfl rfl ?_
    try simp only [up_same, up_up, up_ne, ne_eq, Nat.reduceEqDiff, not_false_eq_true, Int.reduceToNat, Int.toNat_natCast]
    refine wp_aload_n (n := 18) K dX4_endWait_17 rfl rfl ?_
    refine wp_getF (n := 21) K dX4_endWait_18 rfl fl_X4_20 rfl (liS rfl) rfl rfl ?_
    refine wp_aload_n (n := 22) K dX4_endWait_21 rfl rfl ?_
    refine wp_getI (n := 25) K dX4_endWait_22 rfl fl_X4_42 rfl (liS rfl) rfl ?_
    try simp only [up_same, up_up, up_ne, ne_eq, Nat.reduceEqDiff, not_false_eq_true, Int.reduceToNat, Int.toNat_natCast]
    refine wp_iald (n := 26) K dX4_endWait_25 rfl rfl (liS rfl) ⟨by omega, by omega, by omega⟩ ?_
    try simp only [up_same, up_up, up_ne, ne_eq, Nat.reduceEqDiff, not_false_eq_true, Int.reduceToNat, Int.toNat_natCast]
    rw [e, h2]
    refine wp_istore_n (n := 27) K dX4_endWait_26 rfl (by decide) ?_
    refine wp_iload_n (n := 28) K dX4_endWait_27 rfl rfl ?_
    refine wp_bipush (n := 30) K dX4_endWait_28 rfl rfl ?_
    refine wp_icmp_eq (n := 33) K dX4_endWait_30 rfl (tgt := 45) (by decide) hk ⟨by omega, by omega⟩ (fun c30 => ?_) (fun c30 => ?_)
    · exact k45 (by unfold isO; rw [if_pos (Or.inl c30)])
    · refine wp_iload_n (n := 34) K dX4_endWait_33 rfl rfl ?_
      refine wp_bipush (n := 36) K dX4_endWait_34 rfl rfl ?_
      refine wp_icmp_eq (n := 39) K dX4_endWait_36 rfl (tgt := 45) (by decide) hk ⟨by omega, by omega⟩ (fun c36 => ?_) (fun c36 => ?_)
      · exact k45 (by unfold isO; rw [if_pos (Or.inr (Or.inl c36))])
      · refine wp_iload_n (n := 40) K dX4_endWait_39 rfl rfl ?_
        refine wp_bipush (n := 42) K dX4_endWait_40 rfl rfl ?_
        refine wp_icmp_ne (n := 45) K dX4_endWait_42 rfl (tgt := 55) (by decide) hk ⟨by omega, by omega⟩ (fun c42 => ?_) (fun c42 => ?_)
        · have hz : isO k = 0 := by unfold isO; rw [if_neg (by omega)]
          refine ret_qn K dX4_endWait_55 rfl ?_ ?_ ⟨Nat.le_refl _, Nat.le_refl _⟩
          · (intro a ha; simp only [List.mem_cons, List.not_mem_nil, or_false, not_or] at ha; simp [up, ha])
          · refine ⟨⟨by simp [up, h1], by simp [up]; exact h2', by simp [up, h3], by simp [up]; exact h4, by simp [up, h5, hz]⟩, fun j a b c => by simp [up, b]⟩
        · exact k45 (by unfold isO; rw [if_pos (Or.inr (Or.inr c42))])

theorem c_addCode (v : Int) (w cc : List Int) (op : Nat) (hc : cc.length < 300) (S : ST) (M : MT) (h : LST M w cc op) : Ct E1 yX4_addCode cX4_addCode 2 none rm_X4_addCode [.ref 60, .int (z v)] S M (Qn [60, 62] S M (fun M1 => LST M1 w (v :: cc) op ∧ RK M M1)) := by
  obtain ⟨h1, h2, h3, h4, h5⟩ := h
  refine Ct.mk [.ref 60, .int (z v)] (by decide) rfl (Nat.le_of_ble_eq_true rfl) (fun X K => ?_)
  refine wp_aload_n (n := 1) K dX4_addCode_0 rfl rfl ?_
  refine wp_getI (n := 4) K dX4_addCode_1 rfl fl_X4_39 rfl (liS rfl) rfl ?_
  try simp only [up_same, up_up, up_ne, ne_eq, Nat.reduceEqDiff, not_false_eq_true, Int.reduceToNat, Int.toNat_natCast]
  refine wp_sipush (n := 7) K dX4_addCode_4 rfl rfl ?_
  refine wp_icmp_ge (n := 10) K dX4_addCode_7 rfl (tgt := 30) (by decide) ⟨by omega, by omega⟩ ⟨by omega, by omega⟩ (fun c7 => ?_) (fun c7 => ?_)
  · omega
  · refine wp_aload_n (n := 11) K dX4_addCode_10 rfl rfl ?_
    refine wp_getF (n := 14) K dX4_addCode_11 rfl fl_X4_17 rfl (liS rfl) rfl rfl ?_
    refine wp_aload_n (n := 15) K dX4_addCode_14 rfl rfl ?_
    refine wp_getI (n := 18) K dX4_addCode_15 rfl fl_X4_39 rfl (liS rfl) rfl ?_
    try simp only [up_same, up_up, up_ne, ne_eq, Nat.reduceEqDiff, not_false_eq_true, Int.reduceToNat, Int.toNat_natCast]
    refine wp_iload_n (n := 19) K dX4_addCode_18 rfl rfl ?_
    refine wp_iast (n := 20) K dX4_addCode_19 rfl rfl (liS rfl) (fun _ => rfl) ⟨by omega, by omega, by omega⟩ ?_
    try simp only [up_same, up_up, up_ne, ne_eq, Nat.reduceEqDiff, not_false_eq_true, Int.reduceToNat, Int.toNat_natCast]
    refine wp_aload_n (n := 21) K dX4_addCode_20 rfl rfl ?_
    refine wp_dup (n := 22) K dX4_addCode_21 rfl rfl ?_
    refine wp_getI (n := 25) K dX4_addCode_22 rfl fl_X4_39 rfl (liS rfl) rfl ?_
    try simp only [up_same, up_up, up_ne, ne_eq, Nat.reduceEqDiff, not_false_eq_true, Int.reduceToNat, Int.toNat_natCast]
    refine wp_iconst (n := 26) K dX4_addCode_25 rfl ?_
    refine wp_iadd (n := 27) K dX4_addCode_26 rfl ?_
    refine wp_putI (n := 30) K dX4_addCode_27 rfl fl_X4_39 rfl (liS rfl) (Or.inl rfl) rfl rfl ?_
    try simp only [up_same, up_up, up_ne, ne_eq, Nat.reduceEqDiff, not_false_eq_true, Int.reduceToNat, Int.toNat_natCast]
    refine ret_qn K dX4_addCode_30 rfl ?_ ?_ ⟨Nat.le_refl _, Nat.le_refl _⟩
    · (intro a ha; simp only [List.mem_cons, List.not_mem_nil, or_false, not_or] at ha; simp [up, ha])
    · refine ⟨⟨by simp [up, h1], by simp [up]; exact h2, by simp [up, h3], ⟨by simp [up, h3], ?_⟩, by simp [up, h5]⟩, fun j a b c => by simp [up, a]⟩
      refine h4.of (fun j hj => ?_)
      simp [up, h3, show ¬ j = cc.length by omega]

theorem c_closeness (k : Int) (hk : InR k) (S : ST) (M : MT) : Ct E1 yX4_closeness cX4_closeness 2 (some .int) rm_X4_closeness [.ref 60, .int (z k)] S M (Pi (clo k) S M) := by
  refine Ct.mk [.ref 60, .int (z k)] (by decide) rfl (Nat.le_of_ble_eq_true rfl) (fun X K => ?_)
  refine wp_iload_n (n := 1) K dX4_closeness_0 rfl rfl ?_
  by_cases q : 15 ≤ k ∧ k ≤ 33
  · rcases (show k = 15 ∨ k = 16 ∨ k = 17 ∨ k = 24 ∨ k = 25 ∨ k = 26 ∨ k = 27 ∨ k = 28 ∨ k = 33 ∨ (k = 18 ∨ k = 19 ∨ k = 20 ∨ k = 21 ∨ k = 22 ∨ k = 23 ∨ k = 29 ∨ k = 30 ∨ k = 31 ∨ k = 32) by omega) with rfl | rfl | rfl | rfl | rfl | rfl | rfl | rfl | rfl | q2
    · refine wp_tswIn K dX4_closeness_1 (tgt := 94) hk (by decide) (by decide) (off := 93) rfl (by decide) ?_
      refine wp_iconst (n := 95) K dX4_closeness_94 rfl ?_
      refine ret_i K dX4_closeness_95 ?_ rfl ?_ ⟨Nat.le_refl _, Nat.le_refl _⟩
      all_goals rfl
    · refine wp_tswIn K dX4_closeness_1 (tgt := 96) hk (by decide) (by decide) (off := 95) rfl (by decide) ?_
      refine wp_iconst (n := 97) K dX4_closeness_96 rfl ?_
      refine ret_i K dX4_closeness_97 ?_ rfl ?_ ⟨Nat.le_refl _, Nat.le_refl _⟩
      all_goals rfl
    · refine wp_tswIn K dX4_closeness_1 (tgt := 98) hk (by decide) (by decide) (off := 97) rfl (by decide) ?_
      refine wp_iconst (n := 99) K dX4_closeness_98 rfl ?_
      refine ret_i K dX4_closeness_99 ?_ rfl ?_ ⟨Nat.le_refl _, Nat.le_refl _⟩
      all_goals rfl
    · refine wp_tswIn K dX4_closeness_1 (tgt := 100) hk (by decide) (by decide) (off := 99) rfl (by decide) ?_
      refine wp_iconst (n := 101) K dX4_closeness_100 rfl ?_
      refine ret_i K dX4_closeness_101 ?_ rfl ?_ ⟨Nat.le_refl _, Nat.le_refl _⟩
      all_goals rfl
    · refine wp_tswIn K dX4_closeness_1 (tgt := 100) hk (by decide) (by decide) (off := 99) rfl (by decide) ?_
      refine wp_iconst (n := 101) K dX4_closeness_100 rfl ?_
      refine ret_i K dX4_closeness_101 ?_ rfl ?_ ⟨Nat.le_refl _, Nat.le_refl _⟩
      all_goals rfl
    · refine wp_tswIn K dX4_closeness_1 (tgt := 102) hk (by decide) (by decide) (off := 101) rfl (by decide) ?_
      refine wp_bipush (n := 104) K dX4_closeness_102 rfl rfl ?_
      refine ret_i K dX4_closeness_104 ?_ rfl ?_ ⟨Nat.le_refl _, Nat.le_refl _⟩
      all_goals rfl
    · refine wp_tswIn K dX4_closeness_1 (tgt := 102) hk (by decide) (by decide) (off := 101) rfl (by decide) ?_
      refine wp_bipush (n := 104) K dX4_closeness_102 rfl rfl ?_
      refine ret_i K dX4_closeness_104 ?_ rfl ?_ ⟨Nat.le_refl _, Nat.le_refl _⟩
      all_goals rfl
    · refine wp_tswIn K dX4_closeness_1 (tgt := 92) hk (by decide) (by decide) (off := 91) rfl (by decide) ?_
      refine wp_iconst (n := 93) K dX4_closeness_92 rfl ?_
      refine ret_i K dX4_closeness_93 ?_ rfl ?_ ⟨Nat.le_refl _, Nat.le_refl _⟩
      all_goals rfl
    · refine wp_tswIn K dX4_closeness_1 (tgt := 105) hk (by decide) (by decide) (off := 104) rfl (by decide) ?_
      refine wp_bipush (n := 107) K dX4_closeness_105 rfl rfl ?_
      refine ret_i K dX4_closeness_107 ?_ rfl ?_ ⟨Nat.le_refl _, Nat.le_refl _⟩
      all_goals rfl
    · refine wp_tswIn K dX4_closeness_1 (tgt := 108) hk q.1 q.2 (off := 107) ?_ (by decide) ?_
      · rcases q2 with rfl | rfl | rfl | rfl | rfl | rfl | rfl | rfl | rfl | rfl <;> rfl
      · have e : clo k = 4 := by unfold clo; rw [if_neg (by omega), if_neg (by omega), if_neg (by omega), if_neg (by omega), if_neg (by omega), if_neg (by omega), if_neg (by omega)]
        rw [e] at K
        refine wp_iconst (n := 109) K dX4_closeness_108 rfl ?_
        refine ret_i K dX4_closeness_109 ?_ rfl ?_ ⟨Nat.le_refl _, Nat.le_refl _⟩
        all_goals rfl
  · have e : clo k = 4 := by unfold clo; rw [if_neg (by omega), if_neg (by omega), if_neg (by omega), if_neg (by omega), if_neg (by omega), if_neg (by omega), if_neg (by omega)]
    rw [e] at K
    refine wp_tswOut K dX4_closeness_1 (tgt := 108) hk (by omega) (by decide) ?_
    refine wp_iconst (n := 109) K dX4_closeness_108 rfl ?_
    refine ret_i K dX4_closeness_109 ?_ rfl ?_ ⟨Nat.le_refl _, Nat.le_refl _⟩
    all_goals rfl
/-- what waits is done, as far as it binds -/
def stC (least : Int) : List Int → List Int → Nat → List Int × List Int × Nat
  | [], cc, op => ([], cc, op)
  | x :: w, cc, op => if least ≤ clo x then stC least w ((10000 + x) :: cc) (op - isO x) else (x :: w, cc, op)
def opW : List Int → Nat
  | [] => 0
  | x :: w => opW w + isO x
theorem clo_r (k : Int) : 0 ≤ clo k ∧ clo k ≤ 7 := by unfold clo; (repeat' split) <;> omega

theorem c_settle (k : Int) (hk : InR k) (w cc : List Int) (op : Nat) (hw : w.length ≤ 40) (hc : w.length + cc.length ≤ 300) (hI : okI w) (ho : opW w ≤ op) (hop : op ≤ 100) (S : ST) (M : MT) (h : LST M w cc op) : Ct E1 yX4_settle cX4_settle 4 none rm_X4_settle [.ref 60, .int (z k)] S M (Qn [60, 62] S M (fun M1 => LST M1 (stC (clo k) w cc op).1 (stC (clo k) w cc op).2.1 (stC (clo k) w cc op).2.2 ∧ RK M M1)) := by
  have hcr := clo_r k
  refine Ct.mk [.ref 60, .int (z k), mkV, mkV] (by decide) rfl (Nat.le_of_ble_eq_true rfl) (fun X K => ?_)
  refine wp_aload_n (n := 1) K dX4_settle_0 rfl rfl ?_
  refine wp_iload_n (n := 2) K dX4_settle_1 rfl rfl ?_
  refine wp_invV_i (n := 5) K dX4_settle_2 rfl cf_X4_165 (c_closeness k hk _ _) rfl rfl rfl (liS rfl) rfl (by decide) ⟨Nat.le_refl _, Nat.le_refl _⟩ (Nat.le_of_ble_eq_true rfl) ?_
  refine wp_istore_n (n := 6) K dX4_settle_5 rfl (by decide) ?_
  refine wp_aload_n (n := 7) K dX4_settle_6 rfl rfl ?_
  refine wp_getI (n := 10) K dX4_settle_7 rfl fl_X4_42 rfl (liS rfl) rfl ?_
  try simp only [up_same, up_up, up_ne, ne_eq, Nat.reduceEqDiff, not_false_eq_true, Int.reduceToNat, Int.toNat_natCast]
  refine wp_iconst (n := 11) K dX4_settle_10 rfl ?_
  refine wp_isub (n := 12) K dX4_settle_11 rfl ?_
  rw [h.1]
  refine wp_istore_n (n := 13) K dX4_settle_12 rfl (by decide) ?_
  have key : ∀ (w cc : List Int) (op : Nat), w.length ≤ 40 → w.length + cc.length ≤ 300 → okI w → opW w ≤ op → op ≤ 100 → ∀ (R : List Int × List Int × Nat), stC (clo k) w cc op = R → ∀ B : MT, (∀ a, a ∉ [60, 62] → B a = M a) → RK M B → LST B w cc op → Ok E1 X yX4_settle cX4_settle 4 none rm_X4_settle (Qn [60, 62] S M (fun M1 => LST M1 R.1 R.2.1 R.2.2 ∧ RK M M1)) S → Wp E1 X 13 [.ref 60, .int (z k), .int (z (clo k)), .int (z ((w.length : Int) - 1))] [] S B := by
    intro w
    induction w with
    | nil =>
      intro cc op h1 h2 h3 h4 h5 R hR B hB hK hL K
      refine wp_iload_n (n := 14) K dX4_settle_13 rfl rfl ?_
      refine wp_if_lt (n := 17) K dX4_settle_14 rfl (tgt := 55) (by decide) ⟨by omega, by omega⟩ (fun c14 => ?_) (fun c14 => ?_)
      · refine ret_qn K dX4_settle_55 rfl ?_ ?_ ⟨Nat.le_refl _, Nat.le_refl _⟩
        · exact hB
        · subst hR; exact ⟨hL, hK⟩
      · have : (0 : Int) ≤ 0 - 1 := c14
        omega
    | cons x w ih =>
      intro cc op h1 h2 h3 h4 h5 R hR B hB hK hL K
      have hxI : InR x := h3 x List.mem_cons_self
      have hl : ((x :: w).length : Int) - 1 = (w.length : Int) := by simp
      have hlen : (x :: w).length = w.length + 1 := rfl
      have hB63 : B 63 w.length = x := hL.2.1.1
      have hxr := clo_r x
      rw [hl]
      refine wp_iload_n (n := 14) K dX4_settle_13 rfl rfl ?_
      refine wp_if_lt (n := 17) K dX4_settle_14 rfl (tgt := 55) (by decide) ⟨by omega, by omega⟩ (fun c14 => ?_) (fun c14 => ?_)
      · omega
      · refine wp_aload_n (n := 18) K dX4_settle_17 rfl rfl ?_
        refine wp_aload_n (n := 19) K dX4_settle_18 rfl rfl ?_
        refine wp_getF (n := 22) K dX4_settle_19 rfl fl_X4_20 rfl (liS rfl) rfl rfl ?_
        refine wp_iload_n (n := 23) K dX4_settle_22 rfl rfl ?_
        refine wp_iald (n := 24) K dX4_settle_23 rfl rfl (liS rfl) ⟨by omega, by omega, by omega⟩ ?_
        try simp only [up_same, up_up, up_ne, ne_eq, Nat.reduceEqDiff, not_false_eq_true, Int.reduceToNat, Int.toNat_natCast]
        rw [hB63]
        refine wp_invV_i (n := 27) K dX4_settle_24 rfl cf_X4_165 (c_closeness x hxI _ _) rfl rfl rfl (liS rfl) rfl (by decide) ⟨Nat.le_refl _, Nat.le_refl _⟩ (Nat.le_of_ble_eq_true rfl) ?_
        refine wp_iload_n (n := 28) K dX4_settle_27 rfl rfl ?_
        refine wp_icmp_lt (n := 31) K dX4_settle_28 rfl (tgt := 55) (by decide) ⟨by omega, by omega⟩ ⟨by omega, by omega⟩ (fun c28 => ?_) (fun c28 => ?_)
        · refine ret_qn K dX4_settle_55 rfl ?_ ?_ ⟨Nat.le_refl _, Nat.le_refl _⟩
          · exact hB
          · have e : stC (clo k) (x :: w) cc op = (x :: w, cc, op) := by unfold stC; rw [if_neg (by omega)]
            rw [e] at hR; subst hR; exact ⟨hL, hK⟩
        · have e : stC (clo k) (x :: w) cc op = stC (clo k) w ((10000 + x) :: cc) (op - isO x) := by rw [stC, if_pos (by omega)]
          rw [e] at hR
          have how : opW (x :: w) = opW w + isO x := rfl
          refine wp_aload_n (n := 32) K dX4_settle_31 rfl rfl ?_
          refine wp_sipush (n := 35) K dX4_settle_32 rfl rfl ?_
          refine wp_aload_n (n := 36) K dX4_settle_35 rfl rfl ?_
          refine wp_getF (n := 39) K dX4_settle_36 rfl fl_X4_20 rfl (liS rfl) rfl rfl ?_
          refine wp_iload_n (n := 40) K dX4_settle_39 rfl rfl ?_
          refine wp_iald (n := 41) K dX4_settle_40 rfl rfl (liS rfl) ⟨by omega, by omega, by omega⟩ ?_
          try simp only [up_same, up_up, up_ne, ne_eq, Nat.reduceEqDiff, not_false_eq_true, Int.reduceToNat, Int.toNat_natCast]
          refine wp_iadd (n := 42) K dX4_settle_41 rfl ?_
          rw [hB63]
          refine wp_invV_qn (n := 45) K dX4_settle_42 rfl cf_X4_147 (c_addCode (10000 + x) (x :: w) cc op (by omega) _ _ hL) rfl rfl rfl (liS rfl) rfl (by decide) ⟨Nat.le_refl _, Nat.le_refl _⟩ (Nat.le_of_ble_eq_true rfl) (fun A1 hA1 gA1 => ?_)
          refine wp_aload_n (n := 46) K dX4_settle_45 rfl rfl ?_
          refine wp_invV_qn (n := 49) K dX4_settle_46 rfl cf_X4_159 (c_endWait x w ((10000 + x) :: cc) op (by omega) hxI (by omega) (by omega) _ _ gA1.1) rfl rfl rfl (liS rfl) rfl (by decide) ⟨Nat.le_refl _, Nat.le_refl _⟩ (Nat.le_of_ble_eq_true rfl) (fun A2 hA2 gA2 => ?_)
          refine wp_iinc (n := 52) K dX4_settle_49 rfl rfl (by decide) ?_
          refine wp_goto K dX4_settle_52 (tgt := 13) (by decide) ?_
          rw [show (w.length : Int) + -1 = (w.length : Int) - 1 by omega]
          refine ih ((10000 + x) :: cc) (op - isO x) (by omega) (by simp; omega) (fun y hy => h3 y (List.mem_cons_of_mem _ hy)) (by omega) (by omega) R hR A2 (fun a ha => ?_) (hK.trans (gA1.2.trans gA2.2)) gA2.1 K
          simp only [List.mem_cons, List.not_mem_nil, or_false, not_or] at ha
          rw [hA2 a (by simp [ha]), hA1 a (by simp [ha]), hB a (by simp [ha])]
  exact key w cc op hw hc hI ho hop _ rfl M (fun _ _ => rfl) (RK.refl M) h K
