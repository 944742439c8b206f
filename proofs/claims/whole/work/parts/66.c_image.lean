/-- four places that hold texts -/
def TI (S : ST) (M : MT) (a : Nat) : Prop := ∀ i, i < 4 → ∃ b : Nat, M a i = (b : Int) ∧ shp E1 S b = (1, 10) ∧ live E1 S b
theorem c_takeS_k (S : ST) (M : MT) (σ : Nat → Int) (h : SR 18 19 20 21 22 23 M σ) : Ct E1 yX8_takeAll cX8_takeAll 2 none rm_X8_takeAll [.ref 37, .ref 18] S M (Qn [37, 38, 39, 40, 41, 42] S M (fun M1 => SR 37 38 39 40 41 42 M1 σ)) := by
  refine Ct.mk [.ref 37, .ref 18] (by decide) rfl (Nat.le_of_ble_eq_true rfl) (fun X K => ?_)
  refine wp_aload_n (n := 1) K dX8_takeAll_0 rfl rfl ?_
  refine wp_getF (n := 4) K dX8_takeAll_1 rfl fl_X8_9 rfl (liS rfl) rfl rfl ?_
  refine wp_iconst (n := 5) K dX8_takeAll_4 rfl ?_
  refine wp_aload_n (n := 6) K dX8_takeAll_5 rfl rfl ?_
  refine wp_getF (n := 9) K dX8_takeAll_6 rfl fl_X8_9 rfl (liS rfl) rfl rfl ?_
  refine wp_iconst (n := 10) K dX8_takeAll_9 rfl ?_
  refine wp_bipush (n := 12) K dX8_takeAll_10 rfl rfl ?_
  refine wp_copy (n := 15) K dX8_takeAll_12 rfl ac_X8_51 rfl (liS rfl) rfl (liS rfl) (fun _ => rfl) ⟨by omega, by omega, by omega, by omega, by omega, by omega, by omega⟩ (by decide +kernel) ?_
  refine wp_aload_n (n := 16) K dX8_takeAll_15 rfl rfl ?_
  refine wp_getF (n := 19) K dX8_takeAll_16 rfl fl_X8_15 rfl (liS rfl) rfl rfl ?_
  refine wp_iconst (n := 20) K dX8_takeAll_19 rfl ?_
  refine wp_aload_n (n := 21) K dX8_takeAll_20 rfl rfl ?_
  refine wp_getF (n := 24) K dX8_takeAll_21 rfl fl_X8_15 rfl (liS rfl) rfl rfl ?_
  refine wp_iconst (n := 25) K dX8_takeAll_24 rfl ?_
  refine wp_bipush (n := 27) K dX8_takeAll_25 rfl rfl ?_
  refine wp_copy (n := 30) K dX8_takeAll_27 rfl ac_X8_51 rfl (liS rfl) rfl (liS rfl) (fun _ => rfl) ⟨by omega, by omega, by omega, by omega, by omega, by omega, by omega⟩ (by decide +kernel) ?_
  refine wp_aload_n (n := 31) K dX8_takeAll_30 rfl rfl ?_
  refine wp_getF (n := 34) K dX8_takeAll_31 rfl fl_X8_18 rfl (liS rfl) rfl rfl ?_
  refine wp_iconst (n := 35) K dX8_takeAll_34 rfl ?_
  refine wp_aload_n (n := 36) K dX8_takeAll_35 rfl rfl ?_
  refine wp_getF (n := 39) K dX8_takeAll_36 rfl fl_X8_18 rfl (liS rfl) rfl rfl ?_
  refine wp_iconst (n := 40) K dX8_takeAll_39 rfl ?_
  refine wp_bipush (n := 42) K dX8_takeAll_40 rfl rfl ?_
  refine wp_copy (n := 45) K dX8_takeAll_42 rfl ac_X8_51 rfl (liS rfl) rfl (liS rfl) (fun _ => rfl) ⟨by omega, by omega, by omega, by omega, by omega, by omega, by omega⟩ (by decide +kernel) ?_
  refine wp_aload_n (n := 46) K dX8_takeAll_45 rfl rfl ?_
  refine wp_getF (n := 49) K dX8_takeAll_46 rfl fl_X8_21 rfl (liS rfl) rfl rfl ?_
  refine wp_iconst (n := 50) K dX8_takeAll_49 rfl ?_
  refine wp_aload_n (n := 51) K dX8_takeAll_50 rfl rfl ?_
  refine wp_getF (n := 54) K dX8_takeAll_51 rfl fl_X8_21 rfl (liS rfl) rfl rfl ?_
  refine wp_iconst (n := 55) K dX8_takeAll_54 rfl ?_
  refine wp_bipush (n := 57) K dX8_takeAll_55 rfl rfl ?_
  refine wp_copy (n := 60) K dX8_takeAll_57 rfl ac_X8_51 rfl (liS rfl) rfl (liS rfl) (fun _ => rfl) ⟨by omega, by omega, by omega, by omega, by omega, by omega, by omega⟩ (by decide +kernel) ?_
  refine wp_aload_n (n := 61) K dX8_takeAll_60 rfl rfl ?_
  refine wp_getF (n := 64) K dX8_takeAll_61 rfl fl_X8_24 rfl (liS rfl) rfl rfl ?_
  refine wp_iconst (n := 65) K dX8_takeAll_64 rfl ?_
  refine wp_aload_n (n := 66) K dX8_takeAll_65 rfl rfl ?_
  refine wp_getF (n := 69) K dX8_takeAll_66 rfl fl_X8_24 rfl (liS rfl) rfl rfl ?_
  refine wp_iconst (n := 70) K dX8_takeAll_69 rfl ?_
  refine wp_bipush (n := 72) K dX8_takeAll_70 rfl rfl ?_
  refine wp_copy (n := 75) K dX8_takeAll_72 rfl ac_X8_51 rfl (liS rfl) rfl (liS rfl) (fun _ => rfl) ⟨by omega, by omega, by omega, by omega, by omega, by omega, by omega⟩ (by decide +kernel) ?_
  refine wp_aload_n (n := 76) K dX8_takeAll_75 rfl rfl ?_
  refine wp_aload_n (n := 77) K dX8_takeAll_76 rfl rfl ?_
  refine wp_getI (n := 80) K dX8_takeAll_77 rfl fl_X8_27 rfl (liS rfl) rfl ?_
  try simp only [up_same, up_up, up_ne, ne_eq, Nat.reduceEqDiff, not_false_eq_true, Int.reduceToNat, Int.toNat_natCast]
  refine wp_putI (n := 83) K dX8_takeAll_80 rfl fl_X8_27 rfl (liS rfl) (Or.inl rfl) rfl rfl ?_
  try simp only [up_same, up_up, up_ne, ne_eq, Nat.reduceEqDiff, not_false_eq_true, Int.reduceToNat, Int.toNat_natCast]
  refine ret_qn K dX8_takeAll_83 rfl ?_ ?_ ⟨Nat.le_refl _, Nat.le_refl _⟩
  · (intro a ha; simp only [List.mem_cons, List.not_mem_nil, or_false, not_or] at ha; simp [up, ha])
  · refine ⟨by simpa [up] using h.1, fun k hk => ?_⟩
    have := h.2 k hk
    simpa [up, cpy, hk] using this
theorem c_takeH_k (S : ST) (M : MT) (σ : Nat → Int) (h : HR 24 25 26 27 M σ) : Ct E1 yX1_takeAll cX1_takeAll 2 none rm_X1_takeAll [.ref 43, .ref 24] S M (Qn [43, 44, 45, 46] S M (fun M1 => HR 43 44 45 46 M1 σ)) := by
  refine Ct.mk [.ref 43, .ref 24] (by decide) rfl (Nat.le_of_ble_eq_true rfl) (fun X K => ?_)
  refine wp_aload_n (n := 1) K dX1_takeAll_0 rfl rfl ?_
  refine wp_getF (n := 4) K dX1_takeAll_1 rfl fl_X1_9 rfl (liS rfl) rfl rfl ?_
  refine wp_iconst (n := 5) K dX1_takeAll_4 rfl ?_
  refine wp_aload_n (n := 6) K dX1_takeAll_5 rfl rfl ?_
  refine wp_getF (n := 9) K dX1_takeAll_6 rfl fl_X1_9 rfl (liS rfl) rfl rfl ?_
  refine wp_iconst (n := 10) K dX1_takeAll_9 rfl ?_
  refine wp_bipush (n := 12) K dX1_takeAll_10 rfl rfl ?_
  refine wp_copy (n := 15) K dX1_takeAll_12 rfl ac_X1_59 rfl (liS rfl) rfl (liS rfl) (fun _ => rfl) ⟨by omega, by omega, by omega, by omega, by omega, by omega, by omega⟩ (by decide +kernel) ?_
  refine wp_aload_n (n := 16) K dX1_takeAll_15 rfl rfl ?_
  refine wp_getF (n := 19) K dX1_takeAll_16 rfl fl_X1_15 rfl (liS rfl) rfl rfl ?_
  refine wp_iconst (n := 20) K dX1_takeAll_19 rfl ?_
  refine wp_aload_n (n := 21) K dX1_takeAll_20 rfl rfl ?_
  refine wp_getF (n := 24) K dX1_takeAll_21 rfl fl_X1_15 rfl (liS rfl) rfl rfl ?_
  refine wp_iconst (n := 25) K dX1_takeAll_24 rfl ?_
  refine wp_bipush (n := 27) K dX1_takeAll_25 rfl rfl ?_
  refine wp_copy (n := 30) K dX1_takeAll_27 rfl ac_X1_59 rfl (liS rfl) rfl (liS rfl) (fun _ => rfl) ⟨by omega, by omega, by omega, by omega, by omega, by omega, by omega⟩ (by decide +kernel) ?_
  refine wp_aload_n (n := 31) K dX1_takeAll_30 rfl rfl ?_
  refine wp_getF (n := 34) K dX1_takeAll_31 rfl fl_X1_18 rfl (liS rfl) rfl rfl ?_
  refine wp_iconst (n := 35) K dX1_takeAll_34 rfl ?_
  refine wp_aload_n (n := 36) K dX1_takeAll_35 rfl rfl ?_
  refine wp_getF (n := 39) K dX1_takeAll_36 rfl fl_X1_18 rfl (liS rfl) rfl rfl ?_
  refine wp_iconst (n := 40) K dX1_takeAll_39 rfl ?_
  refine wp_bipush (n := 42) K dX1_takeAll_40 rfl rfl ?_
  refine wp_copy (n := 45) K dX1_takeAll_42 rfl ac_X1_59 rfl (liS rfl) rfl (liS rfl) (fun _ => rfl) ⟨by omega, by omega, by omega, by omega, by omega, by omega, by omega⟩ (by decide +kernel) ?_
  refine wp_aload_n (n := 46) K dX1_takeAll_45 rfl rfl ?_
  refine wp_aload_n (n := 47) K dX1_takeAll_46 rfl rfl ?_
  refine wp_getI (n := 50) K dX1_takeAll_47 rfl fl_X1_24 rfl (liS rfl) rfl ?_
  try simp only [up_same, up_up, up_ne, ne_eq, Nat.reduceEqDiff, not_false_eq_true, Int.reduceToNat, Int.toNat_natCast]
  refine wp_putI (n := 53) K dX1_takeAll_50 rfl fl_X1_24 rfl (liS rfl) (Or.inl rfl) rfl rfl ?_
  try simp only [up_same, up_up, up_ne, ne_eq, Nat.reduceEqDiff, not_false_eq_true, Int.reduceToNat, Int.toNat_natCast]
  refine ret_qn K dX1_takeAll_53 rfl ?_ ?_ ⟨Nat.le_refl _, Nat.le_refl _⟩
  · (intro a ha; simp only [List.mem_cons, List.not_mem_nil, or_false, not_or] at ha; simp [up, ha])
  · refine ⟨by simpa [up] using h.1, fun k hk => ?_⟩
    have := h.2 k hk
    simpa [up, cpy, hk] using this
theorem c_takeN_k (S : ST) (M : MT) (σ : Nat → Int) (h : NR 29 30 31 M σ) : Ct E1 yX5_takeAll cX5_takeAll 2 none rm_X5_takeAll [.ref 48, .ref 29] S M (Qn [48, 49, 50] S M (fun M1 => NR 48 49 50 M1 σ)) := by
  refine Ct.mk [.ref 48, .ref 29] (by decide) rfl (Nat.le_of_ble_eq_true rfl) (fun X K => ?_)
  refine wp_aload_n (n := 1) K dX5_takeAll_0 rfl rfl ?_
  refine wp_getF (n := 4) K dX5_takeAll_1 rfl fl_X5_9 rfl (liS rfl) rfl rfl ?_
  refine wp_iconst (n := 5) K dX5_takeAll_4 rfl ?_
  refine wp_aload_n (n := 6) K dX5_takeAll_5 rfl rfl ?_
  refine wp_getF (n := 9) K dX5_takeAll_6 rfl fl_X5_9 rfl (liS rfl) rfl rfl ?_
  refine wp_iconst (n := 10) K dX5_takeAll_9 rfl ?_
  refine wp_bipush (n := 12) K dX5_takeAll_10 rfl rfl ?_
  refine wp_copy (n := 15) K dX5_takeAll_12 rfl ac_X5_22 rfl (liS rfl) rfl (liS rfl) (fun _ => rfl) ⟨by omega, by omega, by omega, by omega, by omega, by omega, by omega⟩ (by decide +kernel) ?_
  refine wp_aload_n (n := 16) K dX5_takeAll_15 rfl rfl ?_
  refine wp_getF (n := 19) K dX5_takeAll_16 rfl fl_X5_15 rfl (liS rfl) rfl rfl ?_
  refine wp_iconst (n := 20) K dX5_takeAll_19 rfl ?_
  refine wp_aload_n (n := 21) K dX5_takeAll_20 rfl rfl ?_
  refine wp_getF (n := 24) K dX5_takeAll_21 rfl fl_X5_15 rfl (liS rfl) rfl rfl ?_
  refine wp_iconst (n := 25) K dX5_takeAll_24 rfl ?_
  refine wp_bipush (n := 27) K dX5_takeAll_25 rfl rfl ?_
  refine wp_copy (n := 30) K dX5_takeAll_27 rfl ac_X5_22 rfl (liS rfl) rfl (liS rfl) (fun _ => rfl) ⟨by omega, by omega, by omega, by omega, by omega, by omega, by omega⟩ (by decide +kernel) ?_
  refine wp_aload_n (n := 31) K dX5_takeAll_30 rfl rfl ?_
  refine wp_aload_n (n := 32) K dX5_takeAll_31 rfl rfl ?_
  refine wp_getI (n := 35) K dX5_takeAll_32 rfl fl_X5_18 rfl (liS rfl) rfl ?_
  try simp only [up_same, up_up, up_ne, ne_eq, Nat.reduceEqDiff, not_false_eq_true, Int.reduceToNat, Int.toNat_natCast]
  refine wp_putI (n := 38) K dX5_takeAll_35 rfl fl_X5_18 rfl (liS rfl) (Or.inl rfl) rfl rfl ?_
  try simp only [up_same, up_up, up_ne, ne_eq, Nat.reduceEqDiff, not_false_eq_true, Int.reduceToNat, Int.toNat_natCast]
  refine ret_qn K dX5_takeAll_38 rfl ?_ ?_ ⟨Nat.le_refl _, Nat.le_refl _⟩
  · (intro a ha; simp only [List.mem_cons, List.not_mem_nil, or_false, not_or] at ha; simp [up, ha])
  · refine ⟨by simpa [up] using h.1, fun k hk => ?_⟩
    have := h.2 k hk
    simpa [up, cpy, hk] using this
theorem c_takeG_k (S : ST) (M : MT) (σ : Nat → Int) (h : GR 32 33 M σ) (h6 : 0 ≤ σ 6 ∧ σ 6 ≤ 30) : Ct E1 yX7_takeAll cX7_takeAll 2 none rm_X7_takeAll [.ref 51, .ref 32] S M (Qn [51, 52] S M (fun M1 => GR 51 52 M1 σ)) := by
  refine Ct.mk [.ref 51, .ref 32] (by decide) rfl (Nat.le_of_ble_eq_true rfl) (fun X K => ?_)
  refine wp_aload_n (n := 1) K dX7_takeAll_0 rfl rfl ?_
  refine wp_getF (n := 4) K dX7_takeAll_1 rfl fl_X7_11 rfl (liS rfl) rfl rfl ?_
  refine wp_iconst (n := 5) K dX7_takeAll_4 rfl ?_
  refine wp_aload_n (n := 6) K dX7_takeAll_5 rfl rfl ?_
  refine wp_getF (n := 9) K dX7_takeAll_6 rfl fl_X7_11 rfl (liS rfl) rfl rfl ?_
  refine wp_iconst (n := 10) K dX7_takeAll_9 rfl ?_
  refine wp_aload_n (n := 11) K dX7_takeAll_10 rfl rfl ?_
  refine wp_getF (n := 14) K dX7_takeAll_11 rfl fl_X7_11 rfl (liS rfl) rfl rfl ?_
  refine wp_alen (n := 15) K dX7_takeAll_14 rfl rfl (by decide) (liS rfl) ?_
  refine wp_copy (n := 18) K dX7_takeAll_15 rfl ac_X7_28 rfl (liS rfl) rfl (liS rfl) (fun _ => rfl) ⟨by omega, by omega, by omega, by omega, by omega, by omega, by omega⟩ (by decide +kernel) ?_
  refine wp_aload_n (n := 19) K dX7_takeAll_18 rfl rfl ?_
  refine wp_aload_n (n := 20) K dX7_takeAll_19 rfl rfl ?_
  refine wp_getI (n := 23) K dX7_takeAll_20 rfl fl_X7_15 rfl (liS rfl) rfl ?_
  try simp only [up_same, up_up, up_ne, ne_eq, Nat.reduceEqDiff, not_false_eq_true, Int.reduceToNat, Int.toNat_natCast]
  refine wp_putI (n := 26) K dX7_takeAll_23 rfl fl_X7_15 rfl (liS rfl) (Or.inl rfl) rfl rfl ?_
  try simp only [up_same, up_up, up_ne, ne_eq, Nat.reduceEqDiff, not_false_eq_true, Int.reduceToNat, Int.toNat_natCast]
  refine wp_aload_n (n := 27) K dX7_takeAll_26 rfl rfl ?_
  refine wp_aload_n (n := 28) K dX7_takeAll_27 rfl rfl ?_
  refine wp_getI (n := 31) K dX7_takeAll_28 rfl fl_X7_19 rfl (liS rfl) rfl ?_
  try simp only [up_same, up_up, up_ne, ne_eq, Nat.reduceEqDiff, not_false_eq_true, Int.reduceToNat, Int.toNat_natCast]
  refine wp_putI (n := 34) K dX7_takeAll_31 rfl fl_X7_19 rfl (liS rfl) (Or.inl rfl) rfl rfl ?_
  try simp only [up_same, up_up, up_ne, ne_eq, Nat.reduceEqDiff, not_false_eq_true, Int.reduceToNat, Int.toNat_natCast]
  refine ret_qn K dX7_takeAll_34 rfl ?_ ?_ ⟨Nat.le_refl _, Nat.le_refl _⟩
  · (intro a ha; simp only [List.mem_cons, List.not_mem_nil, or_false, not_or] at ha; simp [up, ha])
  · refine ⟨by simpa [up] using h.1, by simpa [up] using h.2.1, fun k hk => ?_⟩
    have hq := h.2.2 k hk
    simp [up]
    generalize (M 32 1).toNat + k = q at hq ⊢
    have hr : q % 30 < 30 := Nat.mod_lt _ (by decide)
    generalize q % 30 = r at hq hr ⊢
    have e : ∀ j, j < 660 → cpy (M 33) (M 52) 0 0 660 j = M 33 j := fun j hj => by unfold cpy; rw [if_pos (by omega)]; congr 1; omega
    rw [e _ (by omega), e _ (by omega)]
    refine ⟨hq.1, hq.2.1, fun i hi => ?_⟩
    rw [e _ (by omega), e _ (by omega)]
    exact hq.2.2 i hi
theorem c_become_k (S : ST) (M : MT) (σ : Nat → Int) (h1 : SR 18 19 20 21 22 23 M σ) (h2 : HR 24 25 26 27 M σ) (h3 : NR 29 30 31 M σ) (h4 : GR 32 33 M σ) (h5 : FD 17 M σ) (h6 : 0 ≤ σ 6 ∧ σ 6 ≤ 30) (ht : TI S M 35) : Ct E1 yX6_become cX6_become 3 none rm_X6_become [.ref 36, .ref 17] S M (Qn [36, 37, 38, 39, 40, 41, 42, 43, 44, 45, 46, 48, 49, 50, 51, 52, 54] S M (fun M1 => SR 37 38 39 40 41 42 M1 σ ∧ HR 43 44 45 46 M1 σ ∧ NR 48 49 50 M1 σ ∧ GR 51 52 M1 σ ∧ FD 36 M1 σ ∧ ∀ i, i < 4 → M1 54 i = M 35 i)) := by
  refine Ct.mk [.ref 36, .ref 17, mkV] (by decide) rfl (Nat.le_of_ble_eq_true rfl) (fun X K => ?_)
  refine wp_aload_n (n := 1) K dX6_become_0 rfl rfl ?_
  refine wp_getF (n := 4) K dX6_become_1 rfl fl_X6_12 rfl (liS rfl) rfl rfl ?_
  refine wp_aload_n (n := 5) K dX6_become_4 rfl rfl ?_
  refine wp_getF (n := 8) K dX6_become_5 rfl fl_X6_12 rfl (liS rfl) rfl rfl ?_
  refine wp_invV_qn (n := 11) K dX6_become_8 rfl cf_X6_73 (c_takeS_k _ _ σ h1) rfl rfl rfl (liS rfl) rfl (by decide) ⟨Nat.le_refl _, Nat.le_refl _⟩ (Nat.le_of_ble_eq_true rfl) (fun A1 hA1 gA1 => ?_)
  have h2' : HR 24 25 26 27 A1 σ := ⟨by rw [hA1 _ (by decide)]; exact h2.1, fun k hk => by rw [hA1 _ (by decide), hA1 _ (by decide), hA1 _ (by decide)]; exact h2.2 k hk⟩
  refine wp_aload_n (n := 12) K dX6_become_11 rfl rfl ?_
  refine wp_getF (n := 15) K dX6_become_12 rfl fl_X6_21 rfl (liS rfl) rfl rfl ?_
  refine wp_aload_n (n := 16) K dX6_become_15 rfl rfl ?_
  refine wp_getF (n := 19) K dX6_become_16 rfl fl_X6_21 rfl (liS rfl) rfl rfl ?_
  refine wp_invV_qn (n := 22) K dX6_become_19 rfl cf_X6_77 (c_takeH_k _ _ σ h2') rfl rfl rfl (liS rfl) rfl (by decide) ⟨Nat.le_refl _, Nat.le_refl _⟩ (Nat.le_of_ble_eq_true rfl) (fun A2 hA2 gA2 => ?_)
  have h3' : NR 29 30 31 A2 σ := ⟨by rw [hA2 _ (by decide), hA1 _ (by decide)]; exact h3.1, fun k hk => by rw [hA2 _ (by decide), hA1 _ (by decide), hA2 _ (by decide), hA1 _ (by decide)]; exact h3.2 k hk⟩
  refine wp_aload_n (n := 23) K dX6_become_22 rfl rfl ?_
  refine wp_getF (n := 26) K dX6_become_23 rfl fl_X6_28 rfl (liS rfl) rfl rfl ?_
  refine wp_aload_n (n := 27) K dX6_become_26 rfl rfl ?_
  refine wp_getF (n := 30) K dX6_become_27 rfl fl_X6_28 rfl (liS rfl) rfl rfl ?_
  refine wp_invV_qn (n := 33) K dX6_become_30 rfl cf_X6_80 (c_takeN_k _ _ σ h3') rfl rfl rfl (liS rfl) rfl (by decide) ⟨Nat.le_refl _, Nat.le_refl _⟩ (Nat.le_of_ble_eq_true rfl) (fun A3 hA3 gA3 => ?_)
  have h4' : GR 32 33 A3 σ := by
    unfold GR; rw [hA3 _ (by decide), hA2 _ (by decide), hA1 _ (by decide), hA3 _ (by decide), hA2 _ (by decide), hA1 _ (by decide)]; exact h4
  refine wp_aload_n (n := 34) K dX6_become_33 rfl rfl ?_
  refine wp_getF (n := 37) K dX6_become_34 rfl fl_X6_35 rfl (liS rfl) rfl rfl ?_
  refine wp_aload_n (n := 38) K dX6_become_37 rfl rfl ?_
  refine wp_getF (n := 41) K dX6_become_38 rfl fl_X6_35 rfl (liS rfl) rfl rfl ?_
  refine wp_invV_qn (n := 44) K dX6_become_41 rfl cf_X6_83 (c_takeG_k _ _ σ h4' h6) rfl rfl rfl (liS rfl) rfl (by decide) ⟨Nat.le_refl _, Nat.le_refl _⟩ (Nat.le_of_ble_eq_true rfl) (fun A4 hA4 gA4 => ?_)
  refine wp_iconst (n := 45) K dX6_become_44 rfl ?_
  refine wp_istore_n (n := 46) K dX6_become_45 rfl (by decide) ?_
  have hb : ∀ a, a ∉ [37, 38, 39, 40, 41, 42, 43, 44, 45, 46, 48, 49, 50, 51, 52] → A4 a = M a := fun a ha => by
    simp only [List.mem_cons, List.not_mem_nil, or_false, not_or] at ha
    rw [hA4 _ (by simp [ha]), hA3 _ (by simp [ha]), hA2 _ (by simp [ha]), hA1 _ (by simp [ha])]
  have f1 : SR 37 38 39 40 41 42 A4 σ := by
    have q : ∀ a, a ∈ [37, 38, 39, 40, 41, 42] → A4 a = A1 a := fun a ha => by
      simp only [List.mem_cons, List.not_mem_nil, or_false] at ha
      rcases ha with rfl | rfl | rfl | rfl | rfl | rfl <;> rw [hA4 _ (by decide), hA3 _ (by decide), hA2 _ (by decide)]
    unfold SR; rw [q _ (by decide), q _ (by decide), q _ (by decide), q _ (by decide), q _ (by decide), q _ (by decide)]; exact gA1
  have f2 : HR 43 44 45 46 A4 σ := by
    have q : ∀ a, a ∈ [43, 44, 45, 46] → A4 a = A2 a := fun a ha => by
      simp only [List.mem_cons, List.not_mem_nil, or_false] at ha
      rcases ha with rfl | rfl | rfl | rfl <;> rw [hA4 _ (by decide), hA3 _ (by decide)]
    unfold HR; rw [q _ (by decide), q _ (by decide), q _ (by decide), q _ (by decide)]; exact gA2
  have f3 : NR 48 49 50 A4 σ := by
    unfold NR; rw [hA4 _ (by decide), hA4 _ (by decide), hA4 _ (by decide)]; exact gA3
  clear gA1 gA2 gA3 hA4 hA3 hA2 hA1
  refine dn 4 (Q := fun k => ∀ B : MT, (∀ a, a ≠ 54 → B a = A4 a) → (∀ i, i < k → B 54 i = M 35 i) → Wp E1 X 46 [.ref 36, .ref 17, .int (z (k : Int))] [] S B) (fun k hk ih B hB hi => ?_) 0 (by omega) A4 (fun _ _ => rfl) (fun i hi => by omega)
  refine wp_iload_n (n := 47) K dX6_become_46 rfl rfl ?_
  refine wp_iconst (n := 48) K dX6_become_47 rfl ?_
  refine wp_icmp_ge (n := 51) K dX6_become_48 rfl (tgt := 69) (by decide) ⟨by omega, by omega⟩ ⟨by omega, by omega⟩ (fun c48 => ?_) (fun c48 => ?_)
  · refine wp_aload_n (n := 70) K dX6_become_69 rfl rfl ?_
    refine wp_aload_n (n := 71) K dX6_become_70 rfl rfl ?_
    refine wp_getI (n := 74) K dX6_become_71 rfl fl_X6_56 rfl (liS rfl) rfl ?_
    try simp only [up_same, up_up, up_ne, ne_eq, Nat.reduceEqDiff, not_false_eq_true, Int.reduceToNat, Int.toNat_natCast]
    refine wp_putI (n := 77) K dX6_become_74 rfl fl_X6_56 rfl (liS rfl) (Or.inl rfl) rfl rfl ?_
    try simp only [up_same, up_up, up_ne, ne_eq, Nat.reduceEqDiff, not_false_eq_true, Int.reduceToNat, Int.toNat_natCast]
    refine wp_aload_n (n := 78) K dX6_become_77 rfl rfl ?_
    refine wp_aload_n (n := 79) K dX6_become_78 rfl rfl ?_
    refine wp_getI (n := 82) K dX6_become_79 rfl fl_X6_60 rfl (liS rfl) rfl ?_
    try simp only [up_same, up_up, up_ne, ne_eq, Nat.reduceEqDiff, not_false_eq_true, Int.reduceToNat, Int.toNat_natCast]
    refine wp_putI (n := 85) K dX6_become_82 rfl fl_X6_60 rfl (liS rfl) (Or.inl rfl) rfl rfl ?_
    try simp only [up_same, up_up, up_ne, ne_eq, Nat.reduceEqDiff, not_false_eq_true, Int.reduceToNat, Int.toNat_natCast]
    refine wp_aload_n (n := 86) K dX6_become_85 rfl rfl ?_
    refine wp_aload_n (n := 87) K dX6_become_86 rfl rfl ?_
    refine wp_getI (n := 90) K dX6_become_87 rfl fl_X6_63 rfl (liS rfl) rfl ?_
    try simp only [up_same, up_up, up_ne, ne_eq, Nat.reduceEqDiff, not_false_eq_true, Int.reduceToNat, Int.toNat_natCast]
    refine wp_putI (n := 93) K dX6_become_90 rfl fl_X6_63 rfl (liS rfl) (Or.inl rfl) rfl rfl ?_
    try simp only [up_same, up_up, up_ne, ne_eq, Nat.reduceEqDiff, not_false_eq_true, Int.reduceToNat, Int.toNat_natCast]
    refine wp_aload_n (n := 94) K dX6_become_93 rfl rfl ?_
    refine wp_aload_n (n := 95) K dX6_become_94 rfl rfl ?_
    refine wp_getI (n := 98) K dX6_become_95 rfl fl_X6_66 rfl (liS rfl) rfl ?_
    try simp only [up_same, up_up, up_ne, ne_eq, Nat.reduceEqDiff, not_false_eq_true, Int.reduceToNat, Int.toNat_natCast]
    refine wp_putI (n := 101) K dX6_become_98 rfl fl_X6_66 rfl (liS rfl) (Or.inl rfl) rfl rfl ?_
    try simp only [up_same, up_up, up_ne, ne_eq, Nat.reduceEqDiff, not_false_eq_true, Int.reduceToNat, Int.toNat_natCast]
    refine ret_qn K dX6_become_101 rfl ?_ ?_ ⟨Nat.le_refl _, Nat.le_refl _⟩
    · intro a ha
      simp only [List.mem_cons, List.not_mem_nil, or_false, not_or] at ha
      simp [up, ha]
      rw [hB a (by simp [ha]), hb a (by simp [ha])]
    · have e : ∀ a, a ≠ 54 → a ≠ 36 → (up (up (up (up B 36 (up (B 36) 6 (B 17 6))) 36 (up (up (B 36) 6 (B 17 6)) 7 (B 17 7))) 36 (up (up (up (B 36) 6 (B 17 6)) 7 (B 17 7)) 8 (B 17 8))) 36 (up (up (up (up (B 36) 6 (B 17 6)) 7 (B 17 7)) 8 (B 17 8)) 9 (B 17 9))) a = A4 a := fun a h1 h2 => by
        rw [up_ne _ _ h2, up_ne _ _ h2, up_ne _ _ h2, up_ne _ _ h2, hB a h1]
      simp only [up_up] at e ⊢
      refine ⟨?_, ?_, ?_, ?_, ?_, ?_⟩
      · unfold SR; rw [e _ (by decide) (by decide), e _ (by decide) (by decide), e _ (by decide) (by decide), e _ (by decide) (by decide), e _ (by decide) (by decide), e _ (by decide) (by decide)]; exact f1
      · unfold HR; rw [e _ (by decide) (by decide), e _ (by decide) (by decide), e _ (by decide) (by decide), e _ (by decide) (by decide)]; exact f2
      · unfold NR; rw [e _ (by decide) (by decide), e _ (by decide) (by decide), e _ (by decide) (by decide)]; exact f3
      · unfold GR; rw [e _ (by decide) (by decide), e _ (by decide) (by decide)]; exact gA4
      · have es : B 17 = M 17 := by rw [hB _ (by decide), hb _ (by decide)]
        rw [es]; unfold FD; simp [up]; exact h5
      · intro i hi4
        simp [up]
        exact hi i (by omega)
  · obtain ⟨b, hb1, hb2, hb3⟩ := ht k (by omega)
    have eb : B 35 k = (b : Int) := by rw [hB _ (by decide), hb _ (by decide)]; exact hb1
    refine wp_aload_n (n := 52) K dX6_become_51 rfl rfl ?_
    refine wp_getF (n := 55) K dX6_become_52 rfl fl_X6_52 rfl (liS rfl) rfl rfl ?_
    refine wp_iload_n (n := 56) K dX6_become_55 rfl rfl ?_
    refine wp_aload_n (n := 57) K dX6_become_56 rfl rfl ?_
    refine wp_getF (n := 60) K dX6_become_57 rfl fl_X6_52 rfl (liS rfl) rfl rfl ?_
    refine wp_iload_n (n := 61) K dX6_become_60 rfl rfl ?_
    refine wp_aald (n := 62) K dX6_become_61 rfl rfl (liS rfl) ⟨by omega, by omega, by omega⟩ (by simpa using eb) ?_
    try simp only [up_same, up_up, up_ne, ne_eq, Nat.reduceEqDiff, not_false_eq_true, Int.reduceToNat, Int.toNat_natCast]
    refine wp_aast (n := 63) K dX6_become_62 rfl rfl (liS rfl) (fun _ => rfl) ⟨by omega, by omega, by omega⟩ hb2 hb3 ?_
    try simp only [up_same, up_up, up_ne, ne_eq, Nat.reduceEqDiff, not_false_eq_true, Int.reduceToNat, Int.toNat_natCast]
    refine wp_iinc (n := 66) K dX6_become_63 rfl rfl (by decide) ?_
    refine wp_goto K dX6_become_66 (tgt := 46) (by decide) ?_
    refine ih (by omega) _ (fun a ha => by rw [up_ne _ _ ha]; exact hB a ha) (fun i hi2 => ?_)
    rw [up_same]
    by_cases he : i = k
    · subst he; rw [up_same]; exact hb1.symm
    · rw [up_ne _ _ he]; exact hi i (by omega)
theorem c_takeS_b (S : ST) (M : MT) (σ : Nat → Int) (h : SR 37 38 39 40 41 42 M σ) : Ct E1 yX8_takeAll cX8_takeAll 2 none rm_X8_takeAll [.ref 18, .ref 37] S M (Qn [18, 19, 20, 21, 22, 23] S M (fun M1 => SR 18 19 20 21 22 23 M1 σ)) := by
  refine Ct.mk [.ref 18, .ref 37] (by decide) rfl (Nat.le_of_ble_eq_true rfl) (fun X K => ?_)
  refine wp_aload_n (n := 1) K dX8_takeAll_0 rfl rfl ?_
  refine wp_getF (n := 4) K dX8_takeAll_1 rfl fl_X8_9 rfl (liS rfl) rfl rfl ?_
  refine wp_iconst (n := 5) K dX8_takeAll_4 rfl ?_
  refine wp_aload_n (n := 6) K dX8_takeAll_5 rfl rfl ?_
  refine wp_getF (n := 9) K dX8_takeAll_6 rfl fl_X8_9 rfl (liS rfl) rfl rfl ?_
  refine wp_iconst (n := 10) K dX8_takeAll_9 rfl ?_
  refine wp_bipush (n := 12) K dX8_takeAll_10 rfl rfl ?_
  refine wp_copy (n := 15) K dX8_takeAll_12 rfl ac_X8_51 rfl (liS rfl) rfl (liS rfl) (fun _ => rfl) ⟨by omega, by omega, by omega, by omega, by omega, by omega, by omega⟩ (by decide +kernel) ?_
  refine wp_aload_n (n := 16) K dX8_takeAll_15 rfl rfl ?_
  refine wp_getF (n := 19) K dX8_takeAll_16 rfl fl_X8_15 rfl (liS rfl) rfl rfl ?_
  refine wp_iconst (n := 20) K dX8_takeAll_19 rfl ?_
  refine wp_aload_n (n := 21) K dX8_takeAll_20 rfl rfl ?_
  refine wp_getF (n := 24) K dX8_takeAll_21 rfl fl_X8_15 rfl (liS rfl) rfl rfl ?_
  refine wp_iconst (n := 25) K dX8_takeAll_24 rfl ?_
  refine wp_bipush (n := 27) K dX8_takeAll_25 rfl rfl ?_
  refine wp_copy (n := 30) K dX8_takeAll_27 rfl ac_X8_51 rfl (liS rfl) rfl (liS rfl) (fun _ => rfl) ⟨by omega, by omega, by omega, by omega, by omega, by omega, by omega⟩ (by decide +kernel) ?_
  refine wp_aload_n (n := 31) K dX8_takeAll_30 rfl rfl ?_
  refine wp_getF (n := 34) K dX8_takeAll_31 rfl fl_X8_18 rfl (liS rfl) rfl rfl ?_
  refine wp_iconst (n := 35) K dX8_takeAll_34 rfl ?_
  refine wp_aload_n (n := 36) K dX8_takeAll_35 rfl rfl ?_
  refine wp_getF (n := 39) K dX8_takeAll_36 rfl fl_X8_18 rfl (liS rfl) rfl rfl ?_
  refine wp_iconst (n := 40) K dX8_takeAll_39 rfl ?_
  refine wp_bipush (n := 42) K dX8_takeAll_40 rfl rfl ?_
  refine wp_copy (n := 45) K dX8_takeAll_42 rfl ac_X8_51 rfl (liS rfl) rfl (liS rfl) (fun _ => rfl) ⟨by omega, by omega, by omega, by omega, by omega, by omega, by omega⟩ (by decide +kernel) ?_
  refine wp_aload_n (n := 46) K dX8_takeAll_45 rfl rfl ?_
  refine wp_getF (n := 49) K dX8_takeAll_46 rfl fl_X8_21 rfl (liS rfl) rfl rfl ?_
  refine wp_iconst (n := 50) K dX8_takeAll_49 rfl ?_
  refine wp_aload_n (n := 51) K dX8_takeAll_50 rfl rfl ?_
  refine wp_getF (n := 54) K dX8_takeAll_51 rfl fl_X8_21 rfl (liS rfl) rfl rfl ?_
  refine wp_iconst (n := 55) K dX8_takeAll_54 rfl ?_
  refine wp_bipush (n := 57) K dX8_takeAll_55 rfl rfl ?_
  refine wp_copy (n := 60) K dX8_takeAll_57 rfl ac_X8_51 rfl (liS rfl) rfl (liS rfl) (fun _ => rfl) ⟨by omega, by omega, by omega, by omega, by omega, by omega, by omega⟩ (by decide +kernel) ?_
  refine wp_aload_n (n := 61) K dX8_takeAll_60 rfl rfl ?_
  refine wp_getF (n := 64) K dX8_takeAll_61 rfl fl_X8_24 rfl (liS rfl) rfl rfl ?_
  refine wp_iconst (n := 65) K dX8_takeAll_64 rfl ?_
  refine wp_aload_n (n := 66) K dX8_takeAll_65 rfl rfl ?_
  refine wp_getF (n := 69) K dX8_takeAll_66 rfl fl_X8_24 rfl (liS rfl) rfl rfl ?_
  refine wp_iconst (n := 70) K dX8_takeAll_69 rfl ?_
  refine wp_bipush (n := 72) K dX8_takeAll_70 rfl rfl ?_
  refine wp_copy (n := 75) K dX8_takeAll_72 rfl ac_X8_51 rfl (liS rfl) rfl (liS rfl) (fun _ => rfl) ⟨by omega, by omega, by omega, by omega, by omega, by omega, by omega⟩ (by decide +kernel) ?_
  refine wp_aload_n (n := 76) K dX8_takeAll_75 rfl rfl ?_
  refine wp_aload_n (n := 77) K dX8_takeAll_76 rfl rfl ?_
  refine wp_getI (n := 80) K dX8_takeAll_77 rfl fl_X8_27 rfl (liS rfl) rfl ?_
  try simp only [up_same, up_up, up_ne, ne_eq, Nat.reduceEqDiff, not_false_eq_true, Int.reduceToNat, Int.toNat_natCast]
  refine wp_putI (n := 83) K dX8_takeAll_80 rfl fl_X8_27 rfl (liS rfl) (Or.inl rfl) rfl rfl ?_
  try simp only [up_same, up_up, up_ne, ne_eq, Nat.reduceEqDiff, not_false_eq_true, Int.reduceToNat, Int.toNat_natCast]
  refine ret_qn K dX8_takeAll_83 rfl ?_ ?_ ⟨Nat.le_refl _, Nat.le_refl _⟩
  · (intro a ha; simp only [List.mem_cons, List.not_mem_nil, or_false, not_or] at ha; simp [up, ha])
  · refine ⟨by simpa [up] using h.1, fun k hk => ?_⟩
    have := h.2 k hk
    simpa [up, cpy, hk] using this
theorem c_takeH_b (S : ST) (M : MT) (σ : Nat → Int) (h : HR 43 44 45 46 M σ) : Ct E1 yX1_takeAll cX1_takeAll 2 none rm_X1_takeAll [.ref 24, .ref 43] S M (Qn [24, 25, 26, 27] S M (fun M1 => HR 24 25 26 27 M1 σ)) := by
  refine Ct.mk [.ref 24, .ref 43] (by decide) rfl (Nat.le_of_ble_eq_true rfl) (fun X K => ?_)
  refine wp_aload_n (n := 1) K dX1_takeAll_0 rfl rfl ?_
  refine wp_getF (n := 4) K dX1_takeAll_1 rfl fl_X1_9 rfl (liS rfl) rfl rfl ?_
  refine wp_iconst (n := 5) K dX1_takeAll_4 rfl ?_
  refine wp_aload_n (n := 6) K dX1_takeAll_5 rfl rfl ?_
  refine wp_getF (n := 9) K dX1_takeAll_6 rfl fl_X1_9 rfl (liS rfl) rfl rfl ?_
  refine wp_iconst (n := 10) K dX1_takeAll_9 rfl ?_
  refine wp_bipush (n := 12) K dX1_takeAll_10 rfl rfl ?_
  refine wp_copy (n := 15) K dX1_takeAll_12 rfl ac_X1_59 rfl (liS rfl) rfl (liS rfl) (fun _ => rfl) ⟨by omega, by omega, by omega, by omega, by omega, by omega, by omega⟩ (by decide +kernel) ?_
  refine wp_aload_n (n := 16) K dX1_takeAll_15 rfl rfl ?_
  refine wp_getF (n := 19) K dX1_takeAll_16 rfl fl_X1_15 rfl (liS rfl) rfl rfl ?_
  refine wp_iconst (n := 20) K dX1_takeAll_19 rfl ?_
  refine wp_aload_n (n := 21) K dX1_takeAll_20 rfl rfl ?_
  refine wp_getF (n := 24) K dX1_takeAll_21 rfl fl_X1_15 rfl (liS rfl) rfl rfl ?_
  refine wp_iconst (n := 25) K dX1_takeAll_24 rfl ?_
  refine wp_bipush (n := 27) K dX1_takeAll_25 rfl rfl ?_
  refine wp_copy (n := 30) K dX1_takeAll_27 rfl ac_X1_59 rfl (liS rfl) rfl (liS rfl) (fun _ => rfl) ⟨by omega, by omega, by omega, by omega, by omega, by omega, by omega⟩ (by decide +kernel) ?_
  refine wp_aload_n (n := 31) K dX1_takeAll_30 rfl rfl ?_
  refine wp_getF (n := 34) K dX1_takeAll_31 rfl fl_X1_18 rfl (liS rfl) rfl rfl ?_
  refine wp_iconst (n := 35) K dX1_takeAll_34 rfl ?_
  refine wp_aload_n (n := 36) K dX1_takeAll_35 rfl rfl ?_
  refine wp_getF (n := 39) K dX1_takeAll_36 rfl fl_X1_18 rfl (liS rfl) rfl rfl ?_
  refine wp_iconst (n := 40) K dX1_takeAll_39 rfl ?_
  refine wp_bipush (n := 42) K dX1_takeAll_40 rfl rfl ?_
  refine wp_copy (n := 45) K dX1_takeAll_42 rfl ac_X1_59 rfl (liS rfl) rfl (liS rfl) (fun _ => rfl) ⟨by omega, by omega, by omega, by omega, by omega, by omega, by omega⟩ (by decide +kernel) ?_
  refine wp_aload_n (n := 46) K dX1_takeAll_45 rfl rfl ?_
  refine wp_aload_n (n := 47) K dX1_takeAll_46 rfl rfl ?_
  refine wp_getI (n := 50) K dX1_takeAll_47 rfl fl_X1_24 rfl (liS rfl) rfl ?_
  try simp only [up_same, up_up, up_ne, ne_eq, Nat.reduceEqDiff, not_false_eq_true, Int.reduceToNat, Int.toNat_natCast]
  refine wp_putI (n := 53) K dX1_takeAll_50 rfl fl_X1_24 rfl (liS rfl) (Or.inl rfl) rfl rfl ?_
  try simp only [up_same, up_up, up_ne, ne_eq, Nat.reduceEqDiff, not_false_eq_true, Int.reduceToNat, Int.toNat_natCast]
  refine ret_qn K dX1_takeAll_53 rfl ?_ ?_ ⟨Nat.le_refl _, Nat.le_refl _⟩
  · (intro a ha; simp only [List.mem_cons, List.not_mem_nil, or_false, not_or] at ha; simp [up, ha])
  · refine ⟨by simpa [up] using h.1, fun k hk => ?_⟩
    have := h.2 k hk
    simpa [up, cpy, hk] using this
theorem c_takeN_b (S : ST) (M : MT) (σ : Nat → Int) (h : NR 48 49 50 M σ) : Ct E1 yX5_takeAll cX5_takeAll 2 none rm_X5_takeAll [.ref 29, .ref 48] S M (Qn [29, 30, 31] S M (fun M1 => NR 29 30 31 M1 σ)) := by
  refine Ct.mk [.ref 29, .ref 48] (by decide) rfl (Nat.le_of_ble_eq_true rfl) (fun X K => ?_)
  refine wp_aload_n (n := 1) K dX5_takeAll_0 rfl rfl ?_
  refine wp_getF (n := 4) K dX5_takeAll_1 rfl fl_X5_9 rfl (liS rfl) rfl rfl ?_
  refine wp_iconst (n := 5) K dX5_takeAll_4 rfl ?_
  refine wp_aload_n (n := 6) K dX5_takeAll_5 rfl rfl ?_
  refine wp_getF (n := 9) K dX5_takeAll_6 rfl fl_X5_9 rfl (liS rfl) rfl rfl ?_
  refine wp_iconst (n := 10) K dX5_takeAll_9 rfl ?_
  refine wp_bipush (n := 12) K dX5_takeAll_10 rfl rfl ?_
  refine wp_copy (n := 15) K dX5_takeAll_12 rfl ac_X5_22 rfl (liS rfl) rfl (liS rfl) (fun _ => rfl) ⟨by omega, by omega, by omega, by omega, by omega, by omega, by omega⟩ (by decide +kernel) ?_
  refine wp_aload_n (n := 16) K dX5_takeAll_15 rfl rfl ?_
  refine wp_getF (n := 19) K dX5_takeAll_16 rfl fl_X5_15 rfl (liS rfl) rfl rfl ?_
  refine wp_iconst (n := 20) K dX5_takeAll_19 rfl ?_
  refine wp_aload_n (n := 21) K dX5_takeAll_20 rfl rfl ?_
  refine wp_getF (n := 24) K dX5_takeAll_21 rfl fl_X5_15 rfl (liS rfl) rfl rfl ?_
  refine wp_iconst (n := 25) K dX5_takeAll_24 rfl ?_
  refine wp_bipush (n := 27) K dX5_takeAll_25 rfl rfl ?_
  refine wp_copy (n := 30) K dX5_takeAll_27 rfl ac_X5_22 rfl (liS rfl) rfl (liS rfl) (fun _ => rfl) ⟨by omega, by omega, by omega, by omega, by omega, by omega, by omega⟩ (by decide +kernel) ?_
  refine wp_aload_n (n := 31) K dX5_takeAll_30 rfl rfl ?_
  refine wp_aload_n (n := 32) K dX5_takeAll_31 rfl rfl ?_
  refine wp_getI (n := 35) K dX5_takeAll_32 rfl fl_X5_18 rfl (liS rfl) rfl ?_
  try simp only [up_same, up_up, up_ne, ne_eq, Nat.reduceEqDiff, not_false_eq_true, Int.reduceToNat, Int.toNat_natCast]
  refine wp_putI (n := 38) K dX5_takeAll_35 rfl fl_X5_18 rfl (liS rfl) (Or.inl rfl) rfl rfl ?_
  try simp only [up_same, up_up, up_ne, ne_eq, Nat.reduceEqDiff, not_false_eq_true, Int.reduceToNat, Int.toNat_natCast]
  refine ret_qn K dX5_takeAll_38 rfl ?_ ?_ ⟨Nat.le_refl _, Nat.le_refl _⟩
  · (intro a ha; simp only [List.mem_cons, List.not_mem_nil, or_false, not_or] at ha; simp [up, ha])
  · refine ⟨by simpa [up] using h.1, fun k hk => ?_⟩
    have := h.2 k hk
    simpa [up, cpy, hk] using this
theorem c_takeG_b (S : ST) (M : MT) (σ : Nat → Int) (h : GR 51 52 M σ) (h6 : 0 ≤ σ 6 ∧ σ 6 ≤ 30) : Ct E1 yX7_takeAll cX7_takeAll 2 none rm_X7_takeAll [.ref 32, .ref 51] S M (Qn [32, 33] S M (fun M1 => GR 32 33 M1 σ)) := by
  refine Ct.mk [.ref 32, .ref 51] (by decide) rfl (Nat.le_of_ble_eq_true rfl) (fun X K => ?_)
  refine wp_aload_n (n := 1) K dX7_takeAll_0 rfl rfl ?_
  refine wp_getF (n := 4) K dX7_takeAll_1 rfl fl_X7_11 rfl (liS rfl) rfl rfl ?_
  refine wp_iconst (n := 5) K dX7_takeAll_4 rfl ?_
  refine wp_aload_n (n := 6) K dX7_takeAll_5 rfl rfl ?_
  refine wp_getF (n := 9) K dX7_takeAll_6 rfl fl_X7_11 rfl (liS rfl) rfl rfl ?_
  refine wp_iconst (n := 10) K dX7_takeAll_9 rfl ?_
  refine wp_aload_n (n := 11) K dX7_takeAll_10 rfl rfl ?_
  refine wp_getF (n := 14) K dX7_takeAll_11 rfl fl_X7_11 rfl (liS rfl) rfl rfl ?_
  refine wp_alen (n := 15) K dX7_takeAll_14 rfl rfl (by decide) (liS rfl) ?_
  refine wp_copy (n := 18) K dX7_takeAll_15 rfl ac_X7_28 rfl (liS rfl) rfl (liS rfl) (fun _ => rfl) ⟨by omega, by omega, by omega, by omega, by omega, by omega, by omega⟩ (by decide +kernel) ?_
  refine wp_aload_n (n := 19) K dX7_takeAll_18 rfl rfl ?_
  refine wp_aload_n (n := 20) K dX7_takeAll_19 rfl rfl ?_
  refine wp_getI (n := 23) K dX7_takeAll_20 rfl fl_X7_15 rfl (liS rfl) rfl ?_
  try simp only [up_same, up_up, up_ne, ne_eq, Nat.reduceEqDiff, not_false_eq_true, Int.reduceToNat, Int.toNat_natCast]
  refine wp_putI (n := 26) K dX7_takeAll_23 rfl fl_X7_15 rfl (liS rfl) (Or.inl rfl) rfl rfl ?_
  try simp only [up_same, up_up, up_ne, ne_eq, Nat.reduceEqDiff, not_false_eq_true, Int.reduceToNat, Int.toNat_natCast]
  refine wp_aload_n (n := 27) K dX7_takeAll_26 rfl rfl ?_
  refine wp_aload_n (n := 28) K dX7_takeAll_27 rfl rfl ?_
  refine wp_getI (n := 31) K dX7_takeAll_28 rfl fl_X7_19 rfl (liS rfl) rfl ?_
  try simp only [up_same, up_up, up_ne, ne_eq, Nat.reduceEqDiff, not_false_eq_true, Int.reduceToNat, Int.toNat_natCast]
  refine wp_putI (n := 34) K dX7_takeAll_31 rfl fl_X7_19 rfl (liS rfl) (Or.inl rfl) rfl rfl ?_
  try simp only [up_same, up_up, up_ne, ne_eq, Nat.reduceEqDiff, not_false_eq_true, Int.reduceToNat, Int.toNat_natCast]
  refine ret_qn K dX7_takeAll_34 rfl ?_ ?_ ⟨Nat.le_refl _, Nat.le_refl _⟩
  · (intro a ha; simp only [List.mem_cons, List.not_mem_nil, or_false, not_or] at ha; simp [up, ha])
  · refine ⟨by simpa [up] using h.1, by simpa [up] using h.2.1, fun k hk => ?_⟩
    have hq := h.2.2 k hk
    simp [up]
    generalize (M 51 1).toNat + k = q at hq ⊢
    have hr : q % 30 < 30 := Nat.mod_lt _ (by decide)
    generalize q % 30 = r at hq hr ⊢
    have e : ∀ j, j < 660 → cpy (M 52) (M 33) 0 0 660 j = M 52 j := fun j hj => by unfold cpy; rw [if_pos (by omega)]; congr 1; omega
    rw [e _ (by omega), e _ (by omega)]
    refine ⟨hq.1, hq.2.1, fun i hi => ?_⟩
    rw [e _ (by omega), e _ (by omega)]
    exact hq.2.2 i hi
theorem c_become_b (S : ST) (M : MT) (σ : Nat → Int) (h1 : SR 37 38 39 40 41 42 M σ) (h2 : HR 43 44 45 46 M σ) (h3 : NR 48 49 50 M σ) (h4 : GR 51 52 M σ) (h5 : FD 36 M σ) (h6 : 0 ≤ σ 6 ∧ σ 6 ≤ 30) (ht : TI S M 54) : Ct E1 yX6_become cX6_become 3 none rm_X6_become [.ref 17, .ref 36] S M (Qn [17, 18, 19, 20, 21, 22, 23, 24, 25, 26, 27, 29, 30, 31, 32, 33, 35] S M (fun M1 => SR 18 19 20 21 22 23 M1 σ ∧ HR 24 25 26 27 M1 σ ∧ NR 29 30 31 M1 σ ∧ GR 32 33 M1 σ ∧ FD 17 M1 σ ∧ ∀ i, i < 4 → M1 35 i = M 54 i)) := by
  refine Ct.mk [.ref 17, .ref 36, mkV] (by decide) rfl (Nat.le_of_ble_eq_true rfl) (fun X K => ?_)
  refine wp_aload_n (n := 1) K dX6_become_0 rfl rfl ?_
  refine wp_getF (n := 4) K dX6_become_1 rfl fl_X6_12 rfl (liS rfl) rfl rfl ?_
  refine wp_aload_n (n := 5) K dX6_become_4 rfl rfl ?_
  refine wp_getF (n := 8) K dX6_become_5 rfl fl_X6_12 rfl (liS rfl) rfl rfl ?_
  refine wp_invV_qn (n := 11) K dX6_become_8 rfl cf_X6_73 (c_takeS_b _ _ σ h1) rfl rfl rfl (liS rfl) rfl (by decide) ⟨Nat.le_refl _, Nat.le_refl _⟩ (Nat.le_of_ble_eq_true rfl) (fun A1 hA1 gA1 => ?_)
  have h2' : HR 43 44 45 46 A1 σ := ⟨by rw [hA1 _ (by decide)]; exact h2.1, fun k hk => by rw [hA1 _ (by decide), hA1 _ (by decide), hA1 _ (by decide)]; exact h2.2 k hk⟩
  refine wp_aload_n (n := 12) K dX6_become_11 rfl rfl ?_
  refine wp_getF (n := 15) K dX6_become_12 rfl fl_X6_21 rfl (liS rfl) rfl rfl ?_
  refine wp_aload_n (n := 16) K dX6_become_15 rfl rfl ?_
  refine wp_getF (n := 19) K dX6_become_16 rfl fl_X6_21 rfl (liS rfl) rfl rfl ?_
  refine wp_invV_qn (n := 22) K dX6_become_19 rfl cf_X6_77 (c_takeH_b _ _ σ h2') rfl rfl rfl (liS rfl) rfl (by decide) ⟨Nat.le_refl _, Nat.le_refl _⟩ (Nat.le_of_ble_eq_true rfl) (fun A2 hA2 gA2 => ?_)
  have h3' : NR 48 49 50 A2 σ := ⟨by rw [hA2 _ (by decide), hA1 _ (by decide)]; exact h3.1, fun k hk => by rw [hA2 _ (by decide), hA1 _ (by decide), hA2 _ (by decide), hA1 _ (by decide)]; exact h3.2 k hk⟩
  refine wp_aload_n (n := 23) K dX6_become_22 rfl rfl ?_
  refine wp_getF (n := 26) K dX6_become_23 rfl fl_X6_28 rfl (liS rfl) rfl rfl ?_
  refine wp_aload_n (n := 27) K dX6_become_26 rfl rfl ?_
  refine wp_getF (n := 30) K dX6_become_27 rfl fl_X6_28 rfl (liS rfl) rfl rfl ?_
  refine wp_invV_qn (n := 33) K dX6_become_30 rfl cf_X6_80 (c_takeN_b _ _ σ h3') rfl rfl rfl (liS rfl) rfl (by decide) ⟨Nat.le_refl _, Nat.le_refl _⟩ (Nat.le_of_ble_eq_true rfl) (fun A3 hA3 gA3 => ?_)
  have h4' : GR 51 52 A3 σ := by
    unfold GR; rw [hA3 _ (by decide), hA2 _ (by decide), hA1 _ (by decide), hA3 _ (by decide), hA2 _ (by decide), hA1 _ (by decide)]; exact h4
  refine wp_aload_n (n := 34) K dX6_become_33 rfl rfl ?_
  refine wp_getF (n := 37) K dX6_become_34 rfl fl_X6_35 rfl (liS rfl) rfl rfl ?_
  refine wp_aload_n (n := 38) K dX6_become_37 rfl rfl ?_
  refine wp_getF (n := 41) K dX6_become_38 rfl fl_X6_35 rfl (liS rfl) rfl rfl ?_
  refine wp_invV_qn (n := 44) K dX6_become_41 rfl cf_X6_83 (c_takeG_b _ _ σ h4' h6) rfl rfl rfl (liS rfl) rfl (by decide) ⟨Nat.le_refl _, Nat.le_refl _⟩ (Nat.le_of_ble_eq_true rfl) (fun A4 hA4 gA4 => ?_)
  refine wp_iconst (n := 45) K dX6_become_44 rfl ?_
  refine wp_istore_n (n := 46) K dX6_become_45 rfl (by decide) ?_
  have hb : ∀ a, a ∉ [18, 19, 20, 21, 22, 23, 24, 25, 26, 27, 29, 30, 31, 32, 33] → A4 a = M a := fun a ha => by
    simp only [List.mem_cons, List.not_mem_nil, or_false, not_or] at ha
    rw [hA4 _ (by simp [ha]), hA3 _ (by simp [ha]), hA2 _ (by simp [ha]), hA1 _ (by simp [ha])]
  have f1 : SR 18 19 20 21 22 23 A4 σ := by
    have q : ∀ a, a ∈ [18, 19, 20, 21, 22, 23] → A4 a = A1 a := fun a ha => by
      simp only [List.mem_cons, List.not_mem_nil, or_false] at ha
      rcases ha with rfl | rfl | rfl | rfl | rfl | rfl <;> rw [hA4 _ (by decide), hA3 _ (by decide), hA2 _ (by decide)]
    unfold SR; rw [q _ (by decide), q _ (by decide), q _ (by decide), q _ (by decide), q _ (by decide), q _ (by decide)]; exact gA1
  have f2 : HR 24 25 26 27 A4 σ := by
    have q : ∀ a, a ∈ [24, 25, 26, 27] → A4 a = A2 a := fun a ha => by
      simp only [List.mem_cons, List.not_mem_nil, or_false] at ha
      rcases ha with rfl | rfl | rfl | rfl <;> rw [hA4 _ (by decide), hA3 _ (by decide)]
    unfold HR; rw [q _ (by decide), q _ (by decide), q _ (by decide), q _ (by decide)]; exact gA2
  have f3 : NR 29 30 31 A4 σ := by
    unfold NR; rw [hA4 _ (by decide), hA4 _ (by decide), hA4 _ (by decide)]; exact gA3
  clear gA1 gA2 gA3 hA4 hA3 hA2 hA1
  refine dn 4 (Q := fun k => ∀ B : MT, (∀ a, a ≠ 35 → B a = A4 a) → (∀ i, i < k → B 35 i = M 54 i) → Wp E1 X 46 [.ref 17, .ref 36, .int (z (k : Int))] [] S B) (fun k hk ih B hB hi => ?_) 0 (by omega) A4 (fun _ _ => rfl) (fun i hi => by omega)
  refine wp_iload_n (n := 47) K dX6_become_46 rfl rfl ?_
  refine wp_iconst (n := 48) K dX6_become_47 rfl ?_
  refine wp_icmp_ge (n := 51) K dX6_become_48 rfl (tgt := 69) (by decide) ⟨by omega, by omega⟩ ⟨by omega, by omega⟩ (fun c48 => ?_) (fun c48 => ?_)
  · refine wp_aload_n (n := 70) K dX6_become_69 rfl rfl ?_
    refine wp_aload_n (n := 71) K dX6_become_70 rfl rfl ?_
    refine wp_getI (n := 74) K dX6_become_71 rfl fl_X6_56 rfl (liS rfl) rfl ?_
    try simp only [up_same, up_up, up_ne, ne_eq, Nat.reduceEqDiff, not_false_eq_true, Int.reduceToNat, Int.toNat_natCast]
    refine wp_putI (n := 77) K dX6_become_74 rfl fl_X6_56 rfl (liS rfl) (Or.inl rfl) rfl rfl ?_
    try simp only [up_same, up_up, up_ne, ne_eq, Nat.reduceEqDiff, not_false_eq_true, Int.reduceToNat, Int.toNat_natCast]
    refine wp_aload_n (n := 78) K dX6_become_77 rfl rfl ?_
    refine wp_aload_n (n := 79) K dX6_become_78 rfl rfl ?_
    refine wp_getI (n := 82) K dX6_become_79 rfl fl_X6_60 rfl (liS rfl) rfl ?_
    try simp only [up_same, up_up, up_ne, ne_eq, Nat.reduceEqDiff, not_false_eq_true, Int.reduceToNat, Int.toNat_natCast]
    refine wp_putI (n := 85) K dX6_become_82 rfl fl_X6_60 rfl (liS rfl) (Or.inl rfl) rfl rfl ?_
    try simp only [up_same, up_up, up_ne, ne_eq, Nat.reduceEqDiff, not_false_eq_true, Int.reduceToNat, Int.toNat_natCast]
    refine wp_aload_n (n := 86) K dX6_become_85 rfl rfl ?_
    refine wp_aload_n (n := 87) K dX6_become_86 rfl rfl ?_
    refine wp_getI (n := 90) K dX6_become_87 rfl fl_X6_63 rfl (liS rfl) rfl ?_
    try simp only [up_same, up_up, up_ne, ne_eq, Nat.reduceEqDiff, not_false_eq_true, Int.reduceToNat, Int.toNat_natCast]
    refine wp_putI (n := 93) K dX6_become_90 rfl fl_X6_63 rfl (liS rfl) (Or.inl rfl) rfl rfl ?_
    try simp only [up_same, up_up, up_ne, ne_eq, Nat.reduceEqDiff, not_false_eq_true, Int.reduceToNat, Int.toNat_natCast]
    refine wp_aload_n (n := 94) K dX6_become_93 rfl rfl ?_
    refine wp_aload_n (n := 95) K dX6_become_94 rfl rfl ?_
    refine wp_getI (n := 98) K dX6_become_95 rfl fl_X6_66 rfl (liS rfl) rfl ?_
    try simp only [up_same, up_up, up_ne, ne_eq, Nat.reduceEqDiff, not_false_eq_true, Int.reduceToNat, Int.toNat_natCast]
    refine wp_putI (n := 101) K dX6_become_98 rfl fl_X6_66 rfl (liS rfl) (Or.inl rfl) rfl rfl ?_
    try simp only [up_same, up_up, up_ne, ne_eq, Nat.reduceEqDiff, not_false_eq_true, Int.reduceToNat, Int.toNat_natCast]
    refine ret_qn K dX6_become_101 rfl ?_ ?_ ⟨Nat.le_refl _, Nat.le_refl _⟩
    · intro a ha
      simp only [List.mem_cons, List.not_mem_nil, or_false, not_or] at ha
      simp [up, ha]
      rw [hB a (by simp [ha]), hb a (by simp [ha])]
    · have e : ∀ a, a ≠ 35 → a ≠ 17 → (up (up (up (up B 17 (up (B 17) 6 (B 36 6))) 17 (up (up (B 17) 6 (B 36 6)) 7 (B 36 7))) 17 (up (up (up (B 17) 6 (B 36 6)) 7 (B 36 7)) 8 (B 36 8))) 17 (up (up (up (up (B 17) 6 (B 36 6)) 7 (B 36 7)) 8 (B 36 8)) 9 (B 36 9))) a = A4 a := fun a h1 h2 => by
        rw [up_ne _ _ h2, up_ne _ _ h2, up_ne _ _ h2, up_ne _ _ h2, hB a h1]
      simp only [up_up] at e ⊢
      refine ⟨?_, ?_, ?_, ?_, ?_, ?_⟩
      · unfold SR; rw [e _ (by decide) (by decide), e _ (by decide) (by decide), e _ (by decide) (by decide), e _ (by decide) (by decide), e _ (by decide) (by decide), e _ (by decide) (by decide)]; exact f1
      · unfold HR; rw [e _ (by decide) (by decide), e _ (by decide) (by decide), e _ (by decide) (by decide), e _ (by decide) (by decide)]; exact f2
      · unfold NR; rw [e _ (by decide) (by decide), e _ (by decide) (by decide), e _ (by decide) (by decide)]; exact f3
      · unfold GR; rw [e _ (by decide) (by decide), e _ (by decide) (by decide)]; exact gA4
      · have es : B 36 = M 36 := by rw [hB _ (by decide), hb _ (by decide)]
        rw [es]; unfold FD; simp [up]; exact h5
      · intro i hi4
        simp [up]
        exact hi i (by omega)
  · obtain ⟨b, hb1, hb2, hb3⟩ := ht k (by omega)
    have eb : B 54 k = (b : Int) := by rw [hB _ (by decide), hb _ (by decide)]; exact hb1
    refine wp_aload_n (n := 52) K dX6_become_51 rfl rfl ?_
    refine wp_getF (n := 55) K dX6_become_52 rfl fl_X6_52 rfl (liS rfl) rfl rfl ?_
    refine wp_iload_n (n := 56) K dX6_become_55 rfl rfl ?_
    refine wp_aload_n (n := 57) K dX6_become_56 rfl rfl ?_
    refine wp_getF (n := 60) K dX6_become_57 rfl fl_X6_52 rfl (liS rfl) rfl rfl ?_
    refine wp_iload_n (n := 61) K dX6_become_60 rfl rfl ?_
    refine wp_aald (n := 62) K dX6_become_61 rfl rfl (liS rfl) ⟨by omega, by omega, by omega⟩ (by simpa using eb) ?_
    try simp only [up_same, up_up, up_ne, ne_eq, Nat.reduceEqDiff, not_false_eq_true, Int.reduceToNat, Int.toNat_natCast]
    refine wp_aast (n := 63) K dX6_become_62 rfl rfl (liS rfl) (fun _ => rfl) ⟨by omega, by omega, by omega⟩ hb2 hb3 ?_
    try simp only [up_same, up_up, up_ne, ne_eq, Nat.reduceEqDiff, not_false_eq_true, Int.reduceToNat, Int.toNat_natCast]
    refine wp_iinc (n := 66) K dX6_become_63 rfl rfl (by decide) ?_
    refine wp_goto K dX6_become_66 (tgt := 46) (by decide) ?_
    refine ih (by omega) _ (fun a ha => by rw [up_ne _ _ ha]; exact hB a ha) (fun i hi2 => ?_)
    rw [up_same]
    by_cases he : i = k
    · subst he; rw [up_same]; exact hb1.symm
    · rw [up_ne _ _ he]; exact hi i (by omega)

theorem c_image (S : ST) (M : MT) (σ : Nat → Int) (L : Nat) (hL : L < 4096) (hl : σ 1 = (L : Int)) (h1 : SN M σ) (h2 : HN M σ) (h3 : NN M σ) (h4 : GN M σ) (h5 : FD 17 M σ) (h6 : 0 ≤ σ 6 ∧ σ 6 ≤ 30) (ht : TI S M 35) : Ct E1 yX11_image cX11_image 1 (some .int) rm_X11_image [.ref 16] S M (Qi (cnt 12 L : Int) [36, 37, 38, 39, 40, 41, 42, 43, 44, 45, 46, 48, 49, 50, 51, 52, 54] S M (fun M1 => SR 37 38 39 40 41 42 M1 σ ∧ HR 43 44 45 46 M1 σ ∧ NR 48 49 50 M1 σ ∧ GR 51 52 M1 σ ∧ FD 36 M1 σ ∧ ∀ i, i < 4 → M1 54 i = M 35 i)) := by
  refine Ct.mk [.ref 16] (by decide) rfl (Nat.le_of_ble_eq_true rfl) (fun X K => ?_)
  refine wp_aload_n (n := 1) K dX11_image_0 rfl rfl ?_
  refine wp_getF (n := 4) K dX11_image_1 rfl fl_X11_16 rfl (liS rfl) rfl rfl ?_
  refine wp_aload_n (n := 5) K dX11_image_4 rfl rfl ?_
  refine wp_getF (n := 8) K dX11_image_5 rfl fl_X11_12 rfl (liS rfl) rfl rfl ?_
  refine wp_invV_qn (n := 11) K dX11_image_8 rfl cf_X11_271 (c_become_k _ _ σ h1 h2 h3 h4 h5 h6 ht) rfl rfl rfl (liS rfl) rfl (by decide) ⟨Nat.le_refl _, Nat.le_refl _⟩ (Nat.le_of_ble_eq_true rfl) (fun A1 hA1 gA1 => ?_)
  refine wp_aload_n (n := 12) K dX11_image_11 rfl rfl ?_
  refine wp_getF (n := 15) K dX11_image_12 rfl fl_X11_12 rfl (liS rfl) rfl rfl ?_
  refine wp_getI (n := 18) K dX11_image_15 rfl fl_X11_177 rfl (liS rfl) rfl ?_
  try simp only [up_same, up_up, up_ne, ne_eq, Nat.reduceEqDiff, not_false_eq_true, Int.reduceToNat, Int.toNat_natCast]
  rw [hA1 _ (by decide), h5.2.2.2, hl]
  refine wp_invS_i (n := 21) K dX11_image_18 rfl cf_X11_75 (j_bitCount L hL _ _) rfl rfl (by decide) ⟨Nat.le_refl _, Nat.le_refl _⟩ (Nat.le_of_ble_eq_true rfl) ?_
  refine ret_qi K dX11_image_21 ?_ rfl ?_ ?_ ⟨Nat.le_refl _, Nat.le_refl _⟩
  · rfl
  · exact hA1
  · exact gA1

theorem c_back (S : ST) (M : MT) (σ : Nat → Int) (L : Nat) (hL : L < 4096) (hl : σ 1 = (L : Int)) (h1 : SR 37 38 39 40 41 42 M σ) (h2 : HR 43 44 45 46 M σ) (h3 : NR 48 49 50 M σ) (h4 : GR 51 52 M σ) (h5 : FD 36 M σ) (h6 : 0 ≤ σ 6 ∧ σ 6 ≤ 30) (ht : TI S M 54) : Ct E1 yX11_back cX11_back 1 (some .int) rm_X11_back [.ref 16] S M (Qi (cnt 12 L : Int) [17, 18, 19, 20, 21, 22, 23, 24, 25, 26, 27, 29, 30, 31, 32, 33, 35, 67] S M (fun M1 => SN M1 σ ∧ HN M1 σ ∧ NN M1 σ ∧ GN M1 σ ∧ FD 17 M1 σ ∧ (∀ i, i < 4 → M1 35 i = M 54 i) ∧ M1 67 = up (M 67) 4 0)) := by
  refine Ct.mk [.ref 16] (by decide) rfl (Nat.le_of_ble_eq_true rfl) (fun X K => ?_)
  refine wp_aload_n (n := 1) K dX11_back_0 rfl rfl ?_
  refine wp_getF (n := 4) K dX11_back_1 rfl fl_X11_43 rfl (liS rfl) rfl rfl ?_
  refine wp_invV_n (n := 7) K dX11_back_4 rfl cf_X11_84 (c_forget _ _) rfl rfl rfl (liS rfl) rfl (by decide) ⟨Nat.le_refl _, Nat.le_refl _⟩ (Nat.le_of_ble_eq_true rfl) ?_
  have e : ∀ a, a ≠ 67 → up M 67 (up (M 67) 4 0) a = M a := fun a h => up_ne _ _ h
  generalize hB : up M 67 (up (M 67) 4 0) = B at e ⊢
  have k1 : SR 37 38 39 40 41 42 B σ := by unfold SR; rw [e _ (by decide), e _ (by decide), e _ (by decide), e _ (by decide), e _ (by decide), e _ (by decide)]; exact h1
  have k2 : HR 43 44 45 46 B σ := by unfold HR; rw [e _ (by decide), e _ (by decide), e _ (by decide), e _ (by decide)]; exact h2
  have k3 : NR 48 49 50 B σ := by unfold NR; rw [e _ (by decide), e _ (by decide), e _ (by decide)]; exact h3
  have k4 : GR 51 52 B σ := by unfold GR; rw [e _ (by decide), e _ (by decide)]; exact h4
  have k5 : FD 36 B σ := by unfold FD; rw [e _ (by decide)]; exact h5
  have k6 : TI S B 54 := by unfold TI; rw [e _ (by decide)]; exact ht
  refine wp_aload_n (n := 8) K dX11_back_7 rfl rfl ?_
  refine wp_getF (n := 11) K dX11_back_8 rfl fl_X11_12 rfl (liS rfl) rfl rfl ?_
  refine wp_aload_n (n := 12) K dX11_back_11 rfl rfl ?_
  refine wp_getF (n := 15) K dX11_back_12 rfl fl_X11_16 rfl (liS rfl) rfl rfl ?_
  refine wp_invV_qn (n := 18) K dX11_back_15 rfl cf_X11_271 (c_become_b _ _ σ k1 k2 k3 k4 k5 h6 k6) rfl rfl rfl (liS rfl) rfl (by decide) ⟨Nat.le_refl _, Nat.le_refl _⟩ (Nat.le_of_ble_eq_true rfl) (fun A1 hA1 gA1 => ?_)
  refine wp_aload_n (n := 19) K dX11_back_18 rfl rfl ?_
  refine wp_getF (n := 22) K dX11_back_19 rfl fl_X11_12 rfl (liS rfl) rfl rfl ?_
  refine wp_getI (n := 25) K dX11_back_22 rfl fl_X11_177 rfl (liS rfl) rfl ?_
  try simp only [up_same, up_up, up_ne, ne_eq, Nat.reduceEqDiff, not_false_eq_true, Int.reduceToNat, Int.toNat_natCast]
  rw [gA1.2.2.2.2.1.2.2.2, hl]
  refine wp_invS_i (n := 28) K dX11_back_25 rfl cf_X11_75 (j_bitCount L hL _ _) rfl rfl (by decide) ⟨Nat.le_refl _, Nat.le_refl _⟩ (Nat.le_of_ble_eq_true rfl) ?_
  refine ret_qi K dX11_back_28 ?_ rfl ?_ ?_ ⟨Nat.le_refl _, Nat.le_refl _⟩
  · rfl
  · intro a ha
    simp only [List.mem_cons, List.not_mem_nil, or_false, not_or] at ha
    rw [hA1 a (by simp [ha]), e a (by simp [ha])]
  · obtain ⟨u1, u2, u3, u4, u5, u6⟩ := gA1
    rw [e _ (by decide)] at u6
    exact ⟨u1, u2, u3, u4, u5, u6, by rw [hA1 _ (by decide), ← hB, up_same]⟩
