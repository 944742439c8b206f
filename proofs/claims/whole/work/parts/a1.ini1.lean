theorem i_X8_init_18 (c l : Nat) (M : MT) : Ct E0 yX8_init cX8_init 1 none rm_X8_init [.ref 18] (T1, 19, c, l) (up M 18 (fun _ => 0)) (P0 24 (pt M 18 24)) := by
  refine Ct.mk [.ref 18] (by decide) rfl (Nat.le_of_ble_eq_true rfl) (fun X K => ?_)
  refine wp_aload_n (n := 1) K dX8_init_0 rfl rfl ?_
  refine wp_objInit (n := 4) K dX8_init_1 rfl ol_X8_3 oi_i oi_c (by decide) (by decide) (Nat.le_of_ble_eq_true rfl) ?_
  refine wp_aload_n (n := 5) K dX8_init_4 rfl rfl ?_
  refine wp_bipush (n := 7) K dX8_init_5 rfl rfl ?_
  refine wp_newa0 (n := 9) (kk := 0) (k := 19) (k1 := 20) (m := 12) K dX8_init_7 rfl (by decide) rfl ar_int ⟨by decide, by decide⟩ rfl rfl rfl ⟨by show c + 1 ≤ c + 5; omega, by show l + 12 ≤ l + 60; omega⟩ ?_
  refine wp_putR (n := 12) K dX8_init_9 rfl fl_X8_9 rfl (li0 rfl) (Or.inr ⟨rfl, rfl, fk_X8_9⟩) rfl rfl ?_
  try simp only [up_same, up_up, up_ne, pt_lt, Nat.reduceLT, ne_eq, Nat.reduceEqDiff, not_false_eq_true, Int.reduceToNat, Int.toNat_natCast]
  refine wp_aload_n (n := 13) K dX8_init_12 rfl rfl ?_
  refine wp_bipush (n := 15) K dX8_init_13 rfl rfl ?_
  refine wp_newa0 (n := 17) (kk := 0) (k := 20) (k1 := 21) (m := 12) K dX8_init_15 rfl (by decide) rfl ar_int ⟨by decide, by decide⟩ rfl rfl rfl ⟨by show c + 1 + 1 ≤ c + 5; omega, by show l + 12 + 12 ≤ l + 60; omega⟩ ?_
  refine wp_putR (n := 20) K dX8_init_17 rfl fl_X8_15 rfl (li0 rfl) (Or.inr ⟨rfl, rfl, fk_X8_15⟩) rfl rfl ?_
  try simp only [up_same, up_up, up_ne, pt_lt, Nat.reduceLT, ne_eq, Nat.reduceEqDiff, not_false_eq_true, Int.reduceToNat, Int.toNat_natCast]
  refine wp_aload_n (n := 21) K dX8_init_20 rfl rfl ?_
  refine wp_bipush (n := 23) K dX8_init_21 rfl rfl ?_
  refine wp_newa0 (n := 25) (kk := 0) (k := 21) (k1 := 22) (m := 12) K dX8_init_23 rfl (by decide) rfl ar_int ⟨by decide, by decide⟩ rfl rfl rfl ⟨by show c + 1 + 1 + 1 ≤ c + 5; omega, by show l + 12 + 12 + 12 ≤ l + 60; omega⟩ ?_
  refine wp_putR (n := 28) K dX8_init_25 rfl fl_X8_18 rfl (li0 rfl) (Or.inr ⟨rfl, rfl, fk_X8_18⟩) rfl rfl ?_
  try simp only [up_same, up_up, up_ne, pt_lt, Nat.reduceLT, ne_eq, Nat.reduceEqDiff, not_false_eq_true, Int.reduceToNat, Int.toNat_natCast]
  refine wp_aload_n (n := 29) K dX8_init_28 rfl rfl ?_
  refine wp_bipush (n := 31) K dX8_init_29 rfl rfl ?_
  refine wp_newa0 (n := 33) (kk := 0) (k := 22) (k1 := 23) (m := 12) K dX8_init_31 rfl (by decide) rfl ar_int ⟨by decide, by decide⟩ rfl rfl rfl ⟨by show c + 1 + 1 + 1 + 1 ≤ c + 5; omega, by show l + 12 + 12 + 12 + 12 ≤ l + 60; omega⟩ ?_
  refine wp_putR (n := 36) K dX8_init_33 rfl fl_X8_21 rfl (li0 rfl) (Or.inr ⟨rfl, rfl, fk_X8_21⟩) rfl rfl ?_
  try simp only [up_same, up_up, up_ne, pt_lt, Nat.reduceLT, ne_eq, Nat.reduceEqDiff, not_false_eq_true, Int.reduceToNat, Int.toNat_natCast]
  refine wp_aload_n (n := 37) K dX8_init_36 rfl rfl ?_
  refine wp_bipush (n := 39) K dX8_init_37 rfl rfl ?_
  refine wp_newa0 (n := 41) (kk := 0) (k := 23) (k1 := 24) (m := 12) K dX8_init_39 rfl (by decide) rfl ar_int ⟨by decide, by decide⟩ rfl rfl rfl ⟨by show c + 1 + 1 + 1 + 1 + 1 ≤ c + 5; omega, by show l + 12 + 12 + 12 + 12 + 12 ≤ l + 60; omega⟩ ?_
  refine wp_putR (n := 44) K dX8_init_41 rfl fl_X8_24 rfl (li0 rfl) (Or.inr ⟨rfl, rfl, fk_X8_24⟩) rfl rfl ?_
  try simp only [up_same, up_up, up_ne, pt_lt, Nat.reduceLT, ne_eq, Nat.reduceEqDiff, not_false_eq_true, Int.reduceToNat, Int.toNat_natCast]
  refine wp_aload_n (n := 45) K dX8_init_44 rfl rfl ?_
  refine wp_iconst (n := 46) K dX8_init_45 rfl ?_
  refine wp_putI (n := 49) K dX8_init_46 rfl fl_X8_27 rfl (li0 rfl) (Or.inl rfl) rfl rfl ?_
  try simp only [up_same, up_up, up_ne, pt_lt, Nat.reduceLT, ne_eq, Nat.reduceEqDiff, not_false_eq_true, Int.reduceToNat, Int.toNat_natCast]
  refine wp_vreturn K dX8_init_49 ⟨rfl, rfl, rfl, ?_⟩ ⟨by show c + 1 + 1 + 1 + 1 + 1 ≤ c + 5; omega, by show l + 12 + 12 + 12 + 12 + 12 ≤ l + 60; omega⟩
  funext a
  by_cases h : 18 ≤ a ∧ a < 24
  · rcases (show a = 18 ∨ a = 19 ∨ a = 20 ∨ a = 21 ∨ a = 22 ∨ a = 23 by omega) with rfl | rfl | rfl | rfl | rfl | rfl <;> rfl
  · rw [pt_out h]
    repeat first | rw [up_ne _ _ (by omega)] | rw [pt_out (by omega)]
theorem i_X8_init_37 (c l : Nat) (M : MT) : Ct E0 yX8_init cX8_init 1 none rm_X8_init [.ref 37] (T1, 38, c, l) (up M 37 (fun _ => 0)) (P0 43 (pt M 37 43)) := by
  refine Ct.mk [.ref 37] (by decide) rfl (Nat.le_of_ble_eq_true rfl) (fun X K => ?_)
  refine wp_aload_n (n := 1) K dX8_init_0 rfl rfl ?_
  refine wp_objInit (n := 4) K dX8_init_1 rfl ol_X8_3 oi_i oi_c (by decide) (by decide) (Nat.le_of_ble_eq_true rfl) ?_
  refine wp_aload_n (n := 5) K dX8_init_4 rfl rfl ?_
  refine wp_bipush (n := 7) K dX8_init_5 rfl rfl ?_
  refine wp_newa0 (n := 9) (kk := 0) (k := 38) (k1 := 39) (m := 12) K dX8_init_7 rfl (by decide) rfl ar_int ⟨by decide, by decide⟩ rfl rfl rfl ⟨by show c + 1 ≤ c + 5; omega, by show l + 12 ≤ l + 60; omega⟩ ?_
  refine wp_putR (n := 12) K dX8_init_9 rfl fl_X8_9 rfl (li0 rfl) (Or.inr ⟨rfl, rfl, fk_X8_9⟩) rfl rfl ?_
  try simp only [up_same, up_up, up_ne, pt_lt, Nat.reduceLT, ne_eq, Nat.reduceEqDiff, not_false_eq_true, Int.reduceToNat, Int.toNat_natCast]
  refine wp_aload_n (n := 13) K dX8_init_12 rfl rfl ?_
  refine wp_bipush (n := 15) K dX8_init_13 rfl rfl ?_
  refine wp_newa0 (n := 17) (kk := 0) (k := 39) (k1 := 40) (m := 12) K dX8_init_15 rfl (by decide) rfl ar_int ⟨by decide, by decide⟩ rfl rfl rfl ⟨by show c + 1 + 1 ≤ c + 5; omega, by show l + 12 + 12 ≤ l + 60; omega⟩ ?_
  refine wp_putR (n := 20) K dX8_init_17 rfl fl_X8_15 rfl (li0 rfl) (Or.inr ⟨rfl, rfl, fk_X8_15⟩) rfl rfl ?_
  try simp only [up_same, up_up, up_ne, pt_lt, Nat.reduceLT, ne_eq, Nat.reduceEqDiff, not_false_eq_true, Int.reduceToNat, Int.toNat_natCast]
  refine wp_aload_n (n := 21) K dX8_init_20 rfl rfl ?_
  refine wp_bipush (n := 23) K dX8_init_21 rfl rfl ?_
  refine wp_newa0 (n := 25) (kk := 0) (k := 40) (k1 := 41) (m := 12) K dX8_init_23 rfl (by decide) rfl ar_int ⟨by decide, by decide⟩ rfl rfl rfl ⟨by show c + 1 + 1 + 1 ≤ c + 5; omega, by show l + 12 + 12 + 12 ≤ l + 60; omega⟩ ?_
  refine wp_putR (n := 28) K dX8_init_25 rfl fl_X8_18 rfl (li0 rfl) (Or.inr ⟨rfl, rfl, fk_X8_18⟩) rfl rfl ?_
  try simp only [up_same, up_up, up_ne, pt_lt, Nat.reduceLT, ne_eq, Nat.reduceEqDiff, not_false_eq_true, Int.reduceToNat, Int.toNat_natCast]
  refine wp_aload_n (n := 29) K dX8_init_28 rfl rfl ?_
  refine wp_bipush (n := 31) K dX8_init_29 rfl rfl ?_
  refine wp_newa0 (n := 33) (kk := 0) (k := 41) (k1 := 42) (m := 12) K dX8_init_31 rfl (by decide) rfl ar_int ⟨by decide, by decide⟩ rfl rfl rfl ⟨by show c + 1 + 1 + 1 + 1 ≤ c + 5; omega, by show l + 12 + 12 + 12 + 12 ≤ l + 60; omega⟩ ?_
  refine wp_putR (n := 36) K dX8_init_33 rfl fl_X8_21 rfl (li0 rfl) (Or.inr ⟨rfl, rfl, fk_X8_21⟩) rfl rfl ?_
  try simp only [up_same, up_up, up_ne, pt_lt, Nat.reduceLT, ne_eq, Nat.reduceEqDiff, not_false_eq_true, Int.reduceToNat, Int.toNat_natCast]
  refine wp_aload_n (n := 37) K dX8_init_36 rfl rfl ?_
  refine wp_bipush (n := 39) K dX8_init_37 rfl rfl ?_
  refine wp_newa0 (n := 41) (kk := 0) (k := 42) (k1 := 43) (m := 12) K dX8_init_39 rfl (by decide) rfl ar_int ⟨by decide, by decide⟩ rfl rfl rfl ⟨by show c + 1 + 1 + 1 + 1 + 1 ≤ c + 5; omega, by show l + 12 + 12 + 12 + 12 + 12 ≤ l + 60; omega⟩ ?_
  refine wp_putR (n := 44) K dX8_init_41 rfl fl_X8_24 rfl (li0 rfl) (Or.inr ⟨rfl, rfl, fk_X8_24⟩) rfl rfl ?_
  try simp only [up_same, up_up, up_ne, pt_lt, Nat.reduceLT, ne_eq, Nat.reduceEqDiff, not_false_eq_true, Int.reduceToNat, Int.toNat_natCast]
  refine wp_aload_n (n := 45) K dX8_init_44 rfl rfl ?_
  refine wp_iconst (n := 46) K dX8_init_45 rfl ?_
  refine wp_putI (n := 49) K dX8_init_46 rfl fl_X8_27 rfl (li0 rfl) (Or.inl rfl) rfl rfl ?_
  try simp only [up_same, up_up, up_ne, pt_lt, Nat.reduceLT, ne_eq, Nat.reduceEqDiff, not_false_eq_true, Int.reduceToNat, Int.toNat_natCast]
  refine wp_vreturn K dX8_init_49 ⟨rfl, rfl, rfl, ?_⟩ ⟨by show c + 1 + 1 + 1 + 1 + 1 ≤ c + 5; omega, by show l + 12 + 12 + 12 + 12 + 12 ≤ l + 60; omega⟩
  funext a
  by_cases h : 37 ≤ a ∧ a < 43
  · rcases (show a = 37 ∨ a = 38 ∨ a = 39 ∨ a = 40 ∨ a = 41 ∨ a = 42 by omega) with rfl | rfl | rfl | rfl | rfl | rfl <;> rfl
  · rw [pt_out h]
    repeat first | rw [up_ne _ _ (by omega)] | rw [pt_out (by omega)]
theorem i_X1_init_24 (c l : Nat) (M : MT) : Ct E0 yX1_init cX1_init 1 none rm_X1_init [.ref 24] (T1, 25, c, l) (up M 24 (fun _ => 0)) (P0 29 (pt M 24 29)) := by
  refine Ct.mk [.ref 24] (by decide) rfl (Nat.le_of_ble_eq_true rfl) (fun X K => ?_)
  refine wp_aload_n (n := 1) K dX1_init_0 rfl rfl ?_
  refine wp_objInit (n := 4) K dX1_init_1 rfl ol_X1_3 oi_i oi_c (by decide) (by decide) (Nat.le_of_ble_eq_true rfl) ?_
  refine wp_aload_n (n := 5) K dX1_init_4 rfl rfl ?_
  refine wp_bipush (n := 7) K dX1_init_5 rfl rfl ?_
  refine wp_newa0 (n := 9) (kk := 0) (k := 25) (k1 := 26) (m := 10) K dX1_init_7 rfl (by decide) rfl ar_int ⟨by decide, by decide⟩ rfl rfl rfl ⟨by show c + 1 ≤ c + 4; omega, by show l + 10 ≤ l + 40; omega⟩ ?_
  refine wp_putR (n := 12) K dX1_init_9 rfl fl_X1_9 rfl (li0 rfl) (Or.inr ⟨rfl, rfl, fk_X1_9⟩) rfl rfl ?_
  try simp only [up_same, up_up, up_ne, pt_lt, Nat.reduceLT, ne_eq, Nat.reduceEqDiff, not_false_eq_true, Int.reduceToNat, Int.toNat_natCast]
  refine wp_aload_n (n := 13) K dX1_init_12 rfl rfl ?_
  refine wp_bipush (n := 15) K dX1_init_13 rfl rfl ?_
  refine wp_newa0 (n := 17) (kk := 0) (k := 26) (k1 := 27) (m := 10) K dX1_init_15 rfl (by decide) rfl ar_int ⟨by decide, by decide⟩ rfl rfl rfl ⟨by show c + 1 + 1 ≤ c + 4; omega, by show l + 10 + 10 ≤ l + 40; omega⟩ ?_
  refine wp_putR (n := 20) K dX1_init_17 rfl fl_X1_15 rfl (li0 rfl) (Or.inr ⟨rfl, rfl, fk_X1_15⟩) rfl rfl ?_
  try simp only [up_same, up_up, up_ne, pt_lt, Nat.reduceLT, ne_eq, Nat.reduceEqDiff, not_false_eq_true, Int.reduceToNat, Int.toNat_natCast]
  refine wp_aload_n (n := 21) K dX1_init_20 rfl rfl ?_
  refine wp_bipush (n := 23) K dX1_init_21 rfl rfl ?_
  refine wp_newa0 (n := 25) (kk := 0) (k := 27) (k1 := 28) (m := 10) K dX1_init_23 rfl (by decide) rfl ar_int ⟨by decide, by decide⟩ rfl rfl rfl ⟨by show c + 1 + 1 + 1 ≤ c + 4; omega, by show l + 10 + 10 + 10 ≤ l + 40; omega⟩ ?_
  refine wp_putR (n := 28) K dX1_init_25 rfl fl_X1_18 rfl (li0 rfl) (Or.inr ⟨rfl, rfl, fk_X1_18⟩) rfl rfl ?_
  try simp only [up_same, up_up, up_ne, pt_lt, Nat.reduceLT, ne_eq, Nat.reduceEqDiff, not_false_eq_true, Int.reduceToNat, Int.toNat_natCast]
  refine wp_aload_n (n := 29) K dX1_init_28 rfl rfl ?_
  refine wp_bipush (n := 31) K dX1_init_29 rfl rfl ?_
  refine wp_newa0 (n := 33) (kk := 0) (k := 28) (k1 := 29) (m := 10) K dX1_init_31 rfl (by decide) rfl ar_int ⟨by decide, by decide⟩ rfl rfl rfl ⟨by show c + 1 + 1 + 1 + 1 ≤ c + 4; omega, by show l + 10 + 10 + 10 + 10 ≤ l + 40; omega⟩ ?_
  refine wp_putR (n := 36) K dX1_init_33 rfl fl_X1_21 rfl (li0 rfl) (Or.inr ⟨rfl, rfl, fk_X1_21⟩) rfl rfl ?_
  try simp only [up_same, up_up, up_ne, pt_lt, Nat.reduceLT, ne_eq, Nat.reduceEqDiff, not_false_eq_true, Int.reduceToNat, Int.toNat_natCast]
  refine wp_aload_n (n := 37) K dX1_init_36 rfl rfl ?_
  refine wp_iconst (n := 38) K dX1_init_37 rfl ?_
  refine wp_putI (n := 41) K dX1_init_38 rfl fl_X1_24 rfl (li0 rfl) (Or.inl rfl) rfl rfl ?_
  try simp only [up_same, up_up, up_ne, pt_lt, Nat.reduceLT, ne_eq, Nat.reduceEqDiff, not_false_eq_true, Int.reduceToNat, Int.toNat_natCast]
  refine wp_vreturn K dX1_init_41 ⟨rfl, rfl, rfl, ?_⟩ ⟨by show c + 1 + 1 + 1 + 1 ≤ c + 4; omega, by show l + 10 + 10 + 10 + 10 ≤ l + 40; omega⟩
  funext a
  by_cases h : 24 ≤ a ∧ a < 29
  · rcases (show a = 24 ∨ a = 25 ∨ a = 26 ∨ a = 27 ∨ a = 28 by omega) with rfl | rfl | rfl | rfl | rfl <;> rfl
  · rw [pt_out h]
    repeat first | rw [up_ne _ _ (by omega)] | rw [pt_out (by omega)]
theorem i_X1_init_43 (c l : Nat) (M : MT) : Ct E0 yX1_init cX1_init 1 none rm_X1_init [.ref 43] (T1, 44, c, l) (up M 43 (fun _ => 0)) (P0 48 (pt M 43 48)) := by
  refine Ct.mk [.ref 43] (by decide) rfl (Nat.le_of_ble_eq_true rfl) (fun X K => ?_)
  refine wp_aload_n (n := 1) K dX1_init_0 rfl rfl ?_
  refine wp_objInit (n := 4) K dX1_init_1 rfl ol_X1_3 oi_i oi_c (by decide) (by decide) (Nat.le_of_ble_eq_true rfl) ?_
  refine wp_aload_n (n := 5) K dX1_init_4 rfl rfl ?_
  refine wp_bipush (n := 7) K dX1_init_5 rfl rfl ?_
  refine wp_newa0 (n := 9) (kk := 0) (k := 44) (k1 := 45) (m := 10) K dX1_init_7 rfl (by decide) rfl ar_int ⟨by decide, by decide⟩ rfl rfl rfl ⟨by show c + 1 ≤ c + 4; omega, by show l + 10 ≤ l + 40; omega⟩ ?_
  refine wp_putR (n := 12) K dX1_init_9 rfl fl_X1_9 rfl (li0 rfl) (Or.inr ⟨rfl, rfl, fk_X1_9⟩) rfl rfl ?_
  try simp only [up_same, up_up, up_ne, pt_lt, Nat.reduceLT, ne_eq, Nat.reduceEqDiff, not_false_eq_true, Int.reduceToNat, Int.toNat_natCast]
  refine wp_aload_n (n := 13) K dX1_init_12 rfl rfl ?_
  refine wp_bipush (n := 15) K dX1_init_13 rfl rfl ?_
  refine wp_newa0 (n := 17) (kk := 0) (k := 45) (k1 := 46) (m := 10) K dX1_init_15 rfl (by decide) rfl ar_int ⟨by decide, by decide⟩ rfl rfl rfl ⟨by show c + 1 + 1 ≤ c + 4; omega, by show l + 10 + 10 ≤ l + 40; omega⟩ ?_
  refine wp_putR (n := 20) K dX1_init_17 rfl fl_X1_15 rfl (li0 rfl) (Or.inr ⟨rfl, rfl, fk_X1_15⟩) rfl rfl ?_
  try simp only [up_same, up_up, up_ne, pt_lt, Nat.reduceLT, ne_eq, Nat.reduceEqDiff, not_false_eq_true, Int.reduceToNat, Int.toNat_natCast]
  refine wp_aload_n (n := 21) K dX1_init_20 rfl rfl ?_
  refine wp_bipush (n := 23) K dX1_init_21 rfl rfl ?_
  refine wp_newa0 (n := 25) (kk := 0) (k := 46) (k1 := 47) (m := 10) K dX1_init_23 rfl (by decide) rfl ar_int ⟨by decide, by decide⟩ rfl rfl rfl ⟨by show c + 1 + 1 + 1 ≤ c + 4; omega, by show l + 10 + 10 + 10 ≤ l + 40; omega⟩ ?_
  refine wp_putR (n := 28) K dX1_init_25 rfl fl_X1_18 rfl (li0 rfl) (Or.inr ⟨rfl, rfl, fk_X1_18⟩) rfl rfl ?_
  try simp only [up_same, up_up, up_ne, pt_lt, Nat.reduceLT, ne_eq, Nat.reduceEqDiff, not_false_eq_true, Int.reduceToNat, Int.toNat_natCast]
  refine wp_aload_n (n := 29) K dX1_init_28 rfl rfl ?_
  refine wp_bipush (n := 31) K dX1_init_29 rfl rfl ?_
  refine wp_newa0 (n := 33) (kk := 0) (k := 47) (k1 := 48) (m := 10) K dX1_init_31 rfl (by decide) rfl ar_int ⟨by decide, by decide⟩ rfl rfl rfl ⟨by show c + 1 + 1 + 1 + 1 ≤ c + 4; omega, by show l + 10 + 10 + 10 + 10 ≤ l + 40; omega⟩ ?_
  refine wp_putR (n := 36) K dX1_init_33 rfl fl_X1_21 rfl (li0 rfl) (Or.inr ⟨rfl, rfl, fk_X1_21⟩) rfl rfl ?_
  try simp only [up_same, up_up, up_ne, pt_lt, Nat.reduceLT, ne_eq, Nat.reduceEqDiff, not_false_eq_true, Int.reduceToNat, Int.toNat_natCast]
  refine wp_aload_n (n := 37) K dX1_init_36 rfl rfl ?_
  refine wp_iconst (n := 38) K dX1_init_37 rfl ?_
  refine wp_putI (n := 41) K dX1_init_38 rfl fl_X1_24 rfl (li0 rfl) (Or.inl rfl) rfl rfl ?_
  try simp only [up_same, up_up, up_ne, pt_lt, Nat.reduceLT, ne_eq, Nat.reduceEqDiff, not_false_eq_true, Int.reduceToNat, Int.toNat_natCast]
  refine wp_vreturn K dX1_init_41 ⟨rfl, rfl, rfl, ?_⟩ ⟨by show c + 1 + 1 + 1 + 1 ≤ c + 4; omega, by show l + 10 + 10 + 10 + 10 ≤ l + 40; omega⟩
  funext a
  by_cases h : 43 ≤ a ∧ a < 48
  · rcases (show a = 43 ∨ a = 44 ∨ a = 45 ∨ a = 46 ∨ a = 47 by omega) with rfl | rfl | rfl | rfl | rfl <;> rfl
  · rw [pt_out h]
    repeat first | rw [up_ne _ _ (by omega)] | rw [pt_out (by omega)]
theorem i_X5_init_29 (c l : Nat) (M : MT) : Ct E0 yX5_init cX5_init 1 none rm_X5_init [.ref 29] (T1, 30, c, l) (up M 29 (fun _ => 0)) (P0 32 (pt M 29 32)) := by
  refine Ct.mk [.ref 29] (by decide) rfl (Nat.le_of_ble_eq_true rfl) (fun X K => ?_)
  refine wp_aload_n (n := 1) K dX5_init_0 rfl rfl ?_
  refine wp_objInit (n := 4) K dX5_init_1 rfl ol_X5_3 oi_i oi_c (by decide) (by decide) (Nat.le_of_ble_eq_true rfl) ?_
  refine wp_aload_n (n := 5) K dX5_init_4 rfl rfl ?_
  refine wp_bipush (n := 7) K dX5_init_5 rfl rfl ?_
  refine wp_newa0 (n := 9) (kk := 0) (k := 30) (k1 := 31) (m := 8) K dX5_init_7 rfl (by decide) rfl ar_int ⟨by decide, by decide⟩ rfl rfl rfl ⟨by show c + 1 ≤ c + 2; omega, by show l + 8 ≤ l + 16; omega⟩ ?_
  refine wp_putR (n := 12) K dX5_init_9 rfl fl_X5_9 rfl (li0 rfl) (Or.inr ⟨rfl, rfl, fk_X5_9⟩) rfl rfl ?_
  try simp only [up_same, up_up, up_ne, pt_lt, Nat.reduceLT, ne_eq, Nat.reduceEqDiff, not_false_eq_true, Int.reduceToNat, Int.toNat_natCast]
  refine wp_aload_n (n := 13) K dX5_init_12 rfl rfl ?_
  refine wp_bipush (n := 15) K dX5_init_13 rfl rfl ?_
  refine wp_newa0 (n := 17) (kk := 0) (k := 31) (k1 := 32) (m := 8) K dX5_init_15 rfl (by decide) rfl ar_int ⟨by decide, by decide⟩ rfl rfl rfl ⟨by show c + 1 + 1 ≤ c + 2; omega, by show l + 8 + 8 ≤ l + 16; omega⟩ ?_
  refine wp_putR (n := 20) K dX5_init_17 rfl fl_X5_15 rfl (li0 rfl) (Or.inr ⟨rfl, rfl, fk_X5_15⟩) rfl rfl ?_
  try simp only [up_same, up_up, up_ne, pt_lt, Nat.reduceLT, ne_eq, Nat.reduceEqDiff, not_false_eq_true, Int.reduceToNat, Int.toNat_natCast]
  refine wp_aload_n (n := 21) K dX5_init_20 rfl rfl ?_
  refine wp_iconst (n := 22) K dX5_init_21 rfl ?_
  refine wp_putI (n := 25) K dX5_init_22 rfl fl_X5_18 rfl (li0 rfl) (Or.inl rfl) rfl rfl ?_
  try simp only [up_same, up_up, up_ne, pt_lt, Nat.reduceLT, ne_eq, Nat.reduceEqDiff, not_false_eq_true, Int.reduceToNat, Int.toNat_natCast]
  refine wp_vreturn K dX5_init_25 ⟨rfl, rfl, rfl, ?_⟩ ⟨by show c + 1 + 1 ≤ c + 2; omega, by show l + 8 + 8 ≤ l + 16; omega⟩
  funext a
  by_cases h : 29 ≤ a ∧ a < 32
  · rcases (show a = 29 ∨ a = 30 ∨ a = 31 by omega) with rfl | rfl | rfl <;> rfl
  · rw [pt_out h]
    repeat first | rw [up_ne _ _ (by omega)] | rw [pt_out (by omega)]
theorem i_X5_init_48 (c l : Nat) (M : MT) : Ct E0 yX5_init cX5_init 1 none rm_X5_init [.ref 48] (T1, 49, c, l) (up M 48 (fun _ => 0)) (P0 51 (pt M 48 51)) := by
  refine Ct.mk [.ref 48] (by decide) rfl (Nat.le_of_ble_eq_true rfl) (fun X K => ?_)
  refine wp_aload_n (n := 1) K dX5_init_0 rfl rfl ?_
  refine wp_objInit (n := 4) K dX5_init_1 rfl ol_X5_3 oi_i oi_c (by decide) (by decide) (Nat.le_of_ble_eq_true rfl) ?_
  refine wp_aload_n (n := 5) K dX5_init_4 rfl rfl ?_
  refine wp_bipush (n := 7) K dX5_init_5 rfl rfl ?_
  refine wp_newa0 (n := 9) (kk := 0) (k := 49) (k1 := 50) (m := 8) K dX5_init_7 rfl (by decide) rfl ar_int ⟨by decide, by decide⟩ rfl rfl rfl ⟨by show c + 1 ≤ c + 2; omega, by show l + 8 ≤ l + 16; omega⟩ ?_
  refine wp_putR (n := 12) K dX5_init_9 rfl fl_X5_9 rfl (li0 rfl) (Or.inr ⟨rfl, rfl, fk_X5_9⟩) rfl rfl ?_
  try simp only [up_same, up_up, up_ne, pt_lt, Nat.reduceLT, ne_eq, Nat.reduceEqDiff, not_false_eq_true, Int.reduceToNat, Int.toNat_natCast]
  refine wp_aload_n (n := 13) K dX5_init_12 rfl rfl ?_
  refine wp_bipush (n := 15) K dX5_init_13 rfl rfl ?_
  refine wp_newa0 (n := 17) (kk := 0) (k := 50) (k1 := 51) (m := 8) K dX5_init_15 rfl (by decide) rfl ar_int ⟨by decide, by decide⟩ rfl rfl rfl ⟨by show c + 1 + 1 ≤ c + 2; omega, by show l + 8 + 8 ≤ l + 16; omega⟩ ?_
  refine wp_putR (n := 20) K dX5_init_17 rfl fl_X5_15 rfl (li0 rfl) (Or.inr ⟨rfl, rfl, fk_X5_15⟩) rfl rfl ?_
  try simp only [up_same, up_up, up_ne, pt_lt, Nat.reduceLT, ne_eq, Nat.reduceEqDiff, not_false_eq_true, Int.reduceToNat, Int.toNat_natCast]
  refine wp_aload_n (n := 21) K dX5_init_20 rfl rfl ?_
  refine wp_iconst (n := 22) K dX5_init_21 rfl ?_
  refine wp_putI (n := 25) K dX5_init_22 rfl fl_X5_18 rfl (li0 rfl) (Or.inl rfl) rfl rfl ?_
  try simp only [up_same, up_up, up_ne, pt_lt, Nat.reduceLT, ne_eq, Nat.reduceEqDiff, not_false_eq_true, Int.reduceToNat, Int.toNat_natCast]
  refine wp_vreturn K dX5_init_25 ⟨rfl, rfl, rfl, ?_⟩ ⟨by show c + 1 + 1 ≤ c + 2; omega, by show l + 8 + 8 ≤ l + 16; omega⟩
  funext a
  by_cases h : 48 ≤ a ∧ a < 51
  · rcases (show a = 48 ∨ a = 49 ∨ a = 50 by omega) with rfl | rfl | rfl <;> rfl
  · rw [pt_out h]
    repeat first | rw [up_ne _ _ (by omega)] | rw [pt_out (by omega)]
theorem i_X7_init_32 (c l : Nat) (M : MT) : Ct E0 yX7_init cX7_init 1 none rm_X7_init [.ref 32] (T1, 33, c, l) (up M 32 (fun _ => 0)) (P0 34 (pt M 32 34)) := by
  refine Ct.mk [.ref 32] (by decide) rfl (Nat.le_of_ble_eq_true rfl) (fun X K => ?_)
  refine wp_aload_n (n := 1) K dX7_init_0 rfl rfl ?_
  refine wp_objInit (n := 4) K dX7_init_1 rfl ol_X7_5 oi_i oi_c (by decide) (by decide) (Nat.le_of_ble_eq_true rfl) ?_
  refine wp_aload_n (n := 5) K dX7_init_4 rfl rfl ?_
  refine wp_sipush (n := 8) K dX7_init_5 rfl rfl ?_
  refine wp_newa0 (n := 10) (kk := 0) (k := 33) (k1 := 34) (m := 660) K dX7_init_8 rfl (by decide) rfl ar_int ⟨by decide, by decide⟩ rfl rfl rfl ⟨by show c + 1 ≤ c + 1; omega, by show l + 660 ≤ l + 660; omega⟩ ?_
  refine wp_putR (n := 13) K dX7_init_10 rfl fl_X7_11 rfl (li0 rfl) (Or.inr ⟨rfl, rfl, fk_X7_11⟩) rfl rfl ?_
  try simp only [up_same, up_up, up_ne, pt_lt, Nat.reduceLT, ne_eq, Nat.reduceEqDiff, not_false_eq_true, Int.reduceToNat, Int.toNat_natCast]
  refine wp_aload_n (n := 14) K dX7_init_13 rfl rfl ?_
  refine wp_iconst (n := 15) K dX7_init_14 rfl ?_
  refine wp_putI (n := 18) K dX7_init_15 rfl fl_X7_15 rfl (li0 rfl) (Or.inl rfl) rfl rfl ?_
  try simp only [up_same, up_up, up_ne, pt_lt, Nat.reduceLT, ne_eq, Nat.reduceEqDiff, not_false_eq_true, Int.reduceToNat, Int.toNat_natCast]
  refine wp_aload_n (n := 19) K dX7_init_18 rfl rfl ?_
  refine wp_iconst (n := 20) K dX7_init_19 rfl ?_
  refine wp_putI (n := 23) K dX7_init_20 rfl fl_X7_19 rfl (li0 rfl) (Or.inl rfl) rfl rfl ?_
  try simp only [up_same, up_up, up_ne, pt_lt, Nat.reduceLT, ne_eq, Nat.reduceEqDiff, not_false_eq_true, Int.reduceToNat, Int.toNat_natCast]
  refine wp_vreturn K dX7_init_23 ⟨rfl, rfl, rfl, ?_⟩ ⟨by show c + 1 ≤ c + 1; omega, by show l + 660 ≤ l + 660; omega⟩
  funext a
  by_cases h : 32 ≤ a ∧ a < 34
  · rcases (show a = 32 ∨ a = 33 by omega) with rfl | rfl <;> rfl
  · rw [pt_out h]
    repeat first | rw [up_ne _ _ (by omega)] | rw [pt_out (by omega)]
theorem i_X7_init_51 (c l : Nat) (M : MT) : Ct E0 yX7_init cX7_init 1 none rm_X7_init [.ref 51] (T1, 52, c, l) (up M 51 (fun _ => 0)) (P0 53 (pt M 51 53)) := by
  refine Ct.mk [.ref 51] (by decide) rfl (Nat.le_of_ble_eq_true rfl) (fun X K => ?_)
  refine wp_aload_n (n := 1) K dX7_init_0 rfl rfl ?_
  refine wp_objInit (n := 4) K dX7_init_1 rfl ol_X7_5 oi_i oi_c (by decide) (by decide) (Nat.le_of_ble_eq_true rfl) ?_
  refine wp_aload_n (n := 5) K dX7_init_4 rfl rfl ?_
  refine wp_sipush (n := 8) K dX7_init_5 rfl rfl ?_
  refine wp_newa0 (n := 10) (kk := 0) (k := 52) (k1 := 53) (m := 660) K dX7_init_8 rfl (by decide) rfl ar_int ⟨by decide, by decide⟩ rfl rfl rfl ⟨by show c + 1 ≤ c + 1; omega, by show l + 660 ≤ l + 660; omega⟩ ?_
  refine wp_putR (n := 13) K dX7_init_10 rfl fl_X7_11 rfl (li0 rfl) (Or.inr ⟨rfl, rfl, fk_X7_11⟩) rfl rfl ?_
  try simp only [up_same, up_up, up_ne, pt_lt, Nat.reduceLT, ne_eq, Nat.reduceEqDiff, not_false_eq_true, Int.reduceToNat, Int.toNat_natCast]
  refine wp_aload_n (n := 14) K dX7_init_13 rfl rfl ?_
  refine wp_iconst (n := 15) K dX7_init_14 rfl ?_
  refine wp_putI (n := 18) K dX7_init_15 rfl fl_X7_15 rfl (li0 rfl) (Or.inl rfl) rfl rfl ?_
  try simp only [up_same, up_up, up_ne, pt_lt, Nat.reduceLT, ne_eq, Nat.reduceEqDiff, not_false_eq_true, Int.reduceToNat, Int.toNat_natCast]
  refine wp_aload_n (n := 19) K dX7_init_18 rfl rfl ?_
  refine wp_iconst (n := 20) K dX7_init_19 rfl ?_
  refine wp_putI (n := 23) K dX7_init_20 rfl fl_X7_19 rfl (li0 rfl) (Or.inl rfl) rfl rfl ?_
  try simp only [up_same, up_up, up_ne, pt_lt, Nat.reduceLT, ne_eq, Nat.reduceEqDiff, not_false_eq_true, Int.reduceToNat, Int.toNat_natCast]
  refine wp_vreturn K dX7_init_23 ⟨rfl, rfl, rfl, ?_⟩ ⟨by show c + 1 ≤ c + 1; omega, by show l + 660 ≤ l + 660; omega⟩
  funext a
  by_cases h : 51 ≤ a ∧ a < 53
  · rcases (show a = 51 ∨ a = 52 by omega) with rfl | rfl <;> rfl
  · rw [pt_out h]
    repeat first | rw [up_ne _ _ (by omega)] | rw [pt_out (by omega)]
theorem i_X10_init_34 (c l : Nat) (M : MT) : Ct E0 yX10_init cX10_init 5 none rm_X10_init [.ref 34, .ref 1, .ref 1, .ref 1, .ref 1] (T1, 35, c, l) (up M 34 (fun _ => 0)) (P0 35 (pt M 34 35)) := by
  refine Ct.mk [.ref 34, .ref 1, .ref 1, .ref 1, .ref 1] (by decide) rfl (Nat.le_of_ble_eq_true rfl) (fun X K => ?_)
  refine wp_aload_n (n := 1) K dX10_init_0 rfl rfl ?_
  refine wp_objInit (n := 4) K dX10_init_1 rfl ol_X10_3 oi_i oi_c (by decide) (by decide) (Nat.le_of_ble_eq_true rfl) ?_
  refine wp_aload_n (n := 5) K dX10_init_4 rfl rfl ?_
  refine wp_aload_n (n := 6) K dX10_init_5 rfl rfl ?_
  refine wp_putR (n := 9) K dX10_init_6 rfl fl_X10_9 rfl (li0 rfl) (Or.inr ⟨rfl, rfl, fk_X10_9⟩) rfl rfl ?_
  try simp only [up_same, up_up, up_ne, pt_lt, Nat.reduceLT, ne_eq, Nat.reduceEqDiff, not_false_eq_true, Int.reduceToNat, Int.toNat_natCast]
  refine wp_aload_n (n := 10) K dX10_init_9 rfl rfl ?_
  refine wp_aload_n (n := 11) K dX10_init_10 rfl rfl ?_
  refine wp_putR (n := 14) K dX10_init_11 rfl fl_X10_15 rfl (li0 rfl) (Or.inr ⟨rfl, rfl, fk_X10_15⟩) rfl rfl ?_
  try simp only [up_same, up_up, up_ne, pt_lt, Nat.reduceLT, ne_eq, Nat.reduceEqDiff, not_false_eq_true, Int.reduceToNat, Int.toNat_natCast]
  refine wp_aload_n (n := 15) K dX10_init_14 rfl rfl ?_
  refine wp_aload_n (n := 16) K dX10_init_15 rfl rfl ?_
  refine wp_putR (n := 19) K dX10_init_16 rfl fl_X10_18 rfl (li0 rfl) (Or.inr ⟨rfl, rfl, fk_X10_18⟩) rfl rfl ?_
  try simp only [up_same, up_up, up_ne, pt_lt, Nat.reduceLT, ne_eq, Nat.reduceEqDiff, not_false_eq_true, Int.reduceToNat, Int.toNat_natCast]
  refine wp_aload_n (n := 20) K dX10_init_19 rfl rfl ?_
  refine wp_aload (n := 22) K dX10_init_20 rfl rfl ?_
  refine wp_putR (n := 25) K dX10_init_22 rfl fl_X10_21 rfl (li0 rfl) (Or.inr ⟨rfl, rfl, fk_X10_21⟩) rfl rfl ?_
  try simp only [up_same, up_up, up_ne, pt_lt, Nat.reduceLT, ne_eq, Nat.reduceEqDiff, not_false_eq_true, Int.reduceToNat, Int.toNat_natCast]
  refine wp_aload_n (n := 26) K dX10_init_25 rfl rfl ?_
  refine wp_aload (n := 28) K dX10_init_26 rfl rfl ?_
  refine wp_alen1 (n := 29) K dX10_init_28 rfl ?_
  refine wp_iconst (n := 30) K dX10_init_29 rfl ?_
  refine wp_idiv (n := 31) K dX10_init_30 rfl (by decide) ?_
  rw [show bdiv 0 3 = 0 by decide]
  refine wp_putI (n := 34) K dX10_init_31 rfl fl_X10_24 rfl (li0 rfl) (Or.inr ⟨rfl, rfl, fk_X10_24⟩) rfl rfl ?_
  try simp only [up_same, up_up, up_ne, pt_lt, Nat.reduceLT, ne_eq, Nat.reduceEqDiff, not_false_eq_true, Int.reduceToNat, Int.toNat_natCast]
  refine wp_vreturn K dX10_init_34 ⟨rfl, rfl, rfl, ?_⟩ ⟨by show c ≤ c + 0; omega, by show l ≤ l + 0; omega⟩
  funext a
  by_cases h : 34 ≤ a ∧ a < 35
  · rcases (show a = 34 by omega) with rfl <;> rfl
  · rw [pt_out h]
    repeat first | rw [up_ne _ _ (by omega)] | rw [pt_out (by omega)]
theorem i_X10_init_53 (c l : Nat) (M : MT) : Ct E0 yX10_init cX10_init 5 none rm_X10_init [.ref 53, .ref 1, .ref 1, .ref 1, .ref 1] (T1, 54, c, l) (up M 53 (fun _ => 0)) (P0 54 (pt M 53 54)) := by
  refine Ct.mk [.ref 53, .ref 1, .ref 1, .ref 1, .ref 1] (by decide) rfl (Nat.le_of_ble_eq_true rfl) (fun X K => ?_)
  refine wp_aload_n (n := 1) K dX10_init_0 rfl rfl ?_
  refine wp_objInit (n := 4) K dX10_init_1 rfl ol_X10_3 oi_i oi_c (by decide) (by decide) (Nat.le_of_ble_eq_true rfl) ?_
  refine wp_aload_n (n := 5) K dX10_init_4 rfl rfl ?_
  refine wp_aload_n (n := 6) K dX10_init_5 rfl rfl ?_
  refine wp_putR (n := 9) K dX10_init_6 rfl fl_X10_9 rfl (li0 rfl) (Or.inr ⟨rfl, rfl, fk_X10_9⟩) rfl rfl ?_
  try simp only [up_same, up_up, up_ne, pt_lt, Nat.reduceLT, ne_eq, Nat.reduceEqDiff, not_false_eq_true, Int.reduceToNat, Int.toNat_natCast]
  refine wp_aload_n (n := 10) K dX10_init_9 rfl rfl ?_
  refine wp_aload_n (n := 11) K dX10_init_10 rfl rfl ?_
  refine wp_putR (n := 14) K dX10_init_11 rfl fl_X10_15 rfl (li0 rfl) (Or.inr ⟨rfl, rfl, fk_X10_15⟩) rfl rfl ?_
  try simp only [up_same, up_up, up_ne, pt_lt, Nat.reduceLT, ne_eq, Nat.reduceEqDiff, not_false_eq_true, Int.reduceToNat, Int.toNat_natCast]
  refine wp_aload_n (n := 15) K dX10_init_14 rfl rfl ?_
  refine wp_aload_n (n := 16) K dX10_init_15 rfl rfl ?_
  refine wp_putR (n := 19) K dX10_init_16 rfl fl_X10_18 rfl (li0 rfl) (Or.inr ⟨rfl, rfl, fk_X10_18⟩) rfl rfl ?_
  try simp only [up_same, up_up, up_ne, pt_lt, Nat.reduceLT, ne_eq, Nat.reduceEqDiff, not_false_eq_true, Int.reduceToNat, Int.toNat_natCast]
  refine wp_aload_n (n := 20) K dX10_init_19 rfl rfl ?_
  refine wp_aload (n := 22) K dX10_init_20 rfl rfl ?_
  refine wp_putR (n := 25) K dX10_init_22 rfl fl_X10_21 rfl (li0 rfl) (Or.inr ⟨rfl, rfl, fk_X10_21⟩) rfl rfl ?_
  try simp only [up_same, up_up, up_ne, pt_lt, Nat.reduceLT, ne_eq, Nat.reduceEqDiff, not_false_eq_true, Int.reduceToNat, Int.toNat_natCast]
  refine wp_aload_n (n := 26) K dX10_init_25 rfl rfl ?_
  refine wp_aload (n := 28) K dX10_init_26 rfl rfl ?_
  refine wp_alen1 (n := 29) K dX10_init_28 rfl ?_
  refine wp_iconst (n := 30) K dX10_init_29 rfl ?_
  refine wp_idiv (n := 31) K dX10_init_30 rfl (by decide) ?_
  rw [show bdiv 0 3 = 0 by decide]
  refine wp_putI (n := 34) K dX10_init_31 rfl fl_X10_24 rfl (li0 rfl) (Or.inr ⟨rfl, rfl, fk_X10_24⟩) rfl rfl ?_
  try simp only [up_same, up_up, up_ne, pt_lt, Nat.reduceLT, ne_eq, Nat.reduceEqDiff, not_false_eq_true, Int.reduceToNat, Int.toNat_natCast]
  refine wp_vreturn K dX10_init_34 ⟨rfl, rfl, rfl, ?_⟩ ⟨by show c ≤ c + 0; omega, by show l ≤ l + 0; omega⟩
  funext a
  by_cases h : 53 ≤ a ∧ a < 54
  · rcases (show a = 53 by omega) with rfl <;> rfl
  · rw [pt_out h]
    repeat first | rw [up_ne _ _ (by omega)] | rw [pt_out (by omega)]
theorem i_X9_init_55 (c l : Nat) (M : MT) : Ct E0 yX9_init cX9_init 1 none rm_X9_init [.ref 55] (T1, 56, c, l) (up M 55 (fun _ => 0)) (P0 60 (pt M 55 60)) := by
  refine Ct.mk [.ref 55] (by decide) rfl (Nat.le_of_ble_eq_true rfl) (fun X K => ?_)
  refine wp_aload_n (n := 1) K dX9_init_0 rfl rfl ?_
  refine wp_objInit (n := 4) K dX9_init_1 rfl ol_X9_3 oi_i oi_c (by decide) (by decide) (Nat.le_of_ble_eq_true rfl) ?_
  refine wp_aload_n (n := 5) K dX9_init_4 rfl rfl ?_
  refine wp_sipush (n := 8) K dX9_init_5 rfl rfl ?_
  refine wp_newa0 (n := 10) (kk := 1) (k := 56) (k1 := 57) (m := 300) K dX9_init_8 rfl (by decide) rfl ar_byte ⟨by decide, by decide⟩ rfl rfl rfl ⟨by show c + 1 ≤ c + 4; omega, by show l + 300 ≤ l + 1203; omega⟩ ?_
  refine wp_putR (n := 13) K dX9_init_10 rfl fl_X9_9 rfl (li0 rfl) (Or.inr ⟨rfl, rfl, fk_X9_9⟩) rfl rfl ?_
  try simp only [up_same, up_up, up_ne, pt_lt, Nat.reduceLT, ne_eq, Nat.reduceEqDiff, not_false_eq_true, Int.reduceToNat, Int.toNat_natCast]
  refine wp_aload_n (n := 14) K dX9_init_13 rfl rfl ?_
  refine wp_sipush (n := 17) K dX9_init_14 rfl rfl ?_
  refine wp_newa0 (n := 19) (kk := 0) (k := 57) (k1 := 58) (m := 301) K dX9_init_17 rfl (by decide) rfl ar_int ⟨by decide, by decide⟩ rfl rfl rfl ⟨by show c + 1 + 1 ≤ c + 4; omega, by show l + 300 + 301 ≤ l + 1203; omega⟩ ?_
  refine wp_putR (n := 22) K dX9_init_19 rfl fl_X9_15 rfl (li0 rfl) (Or.inr ⟨rfl, rfl, fk_X9_15⟩) rfl rfl ?_
  try simp only [up_same, up_up, up_ne, pt_lt, Nat.reduceLT, ne_eq, Nat.reduceEqDiff, not_false_eq_true, Int.reduceToNat, Int.toNat_natCast]
  refine wp_aload_n (n := 23) K dX9_init_22 rfl rfl ?_
  refine wp_sipush (n := 26) K dX9_init_23 rfl rfl ?_
  refine wp_newa0 (n := 28) (kk := 0) (k := 58) (k1 := 59) (m := 301) K dX9_init_26 rfl (by decide) rfl ar_int ⟨by decide, by decide⟩ rfl rfl rfl ⟨by show c + 1 + 1 + 1 ≤ c + 4; omega, by show l + 300 + 301 + 301 ≤ l + 1203; omega⟩ ?_
  refine wp_putR (n := 31) K dX9_init_28 rfl fl_X9_19 rfl (li0 rfl) (Or.inr ⟨rfl, rfl, fk_X9_19⟩) rfl rfl ?_
  try simp only [up_same, up_up, up_ne, pt_lt, Nat.reduceLT, ne_eq, Nat.reduceEqDiff, not_false_eq_true, Int.reduceToNat, Int.toNat_natCast]
  refine wp_aload_n (n := 32) K dX9_init_31 rfl rfl ?_
  refine wp_sipush (n := 35) K dX9_init_32 rfl rfl ?_
  refine wp_newa0 (n := 37) (kk := 0) (k := 59) (k1 := 60) (m := 301) K dX9_init_35 rfl (by decide) rfl ar_int ⟨by decide, by decide⟩ rfl rfl rfl ⟨by show c + 1 + 1 + 1 + 1 ≤ c + 4; omega, by show l + 300 + 301 + 301 + 301 ≤ l + 1203; omega⟩ ?_
  refine wp_putR (n := 40) K dX9_init_37 rfl fl_X9_22 rfl (li0 rfl) (Or.inr ⟨rfl, rfl, fk_X9_22⟩) rfl rfl ?_
  try simp only [up_same, up_up, up_ne, pt_lt, Nat.reduceLT, ne_eq, Nat.reduceEqDiff, not_false_eq_true, Int.reduceToNat, Int.toNat_natCast]
  refine wp_aload_n (n := 41) K dX9_init_40 rfl rfl ?_
  refine wp_iconst (n := 42) K dX9_init_41 rfl ?_
  refine wp_putI (n := 45) K dX9_init_42 rfl fl_X9_25 rfl (li0 rfl) (Or.inl rfl) rfl rfl ?_
  try simp only [up_same, up_up, up_ne, pt_lt, Nat.reduceLT, ne_eq, Nat.reduceEqDiff, not_false_eq_true, Int.reduceToNat, Int.toNat_natCast]
  refine wp_aload_n (n := 46) K dX9_init_45 rfl rfl ?_
  refine wp_iconst (n := 47) K dX9_init_46 rfl ?_
  refine wp_putI (n := 50) K dX9_init_47 rfl fl_X9_29 rfl (li0 rfl) (Or.inl rfl) rfl rfl ?_
  try simp only [up_same, up_up, up_ne, pt_lt, Nat.reduceLT, ne_eq, Nat.reduceEqDiff, not_false_eq_true, Int.reduceToNat, Int.toNat_natCast]
  refine wp_aload_n (n := 51) K dX9_init_50 rfl rfl ?_
  refine wp_iconst (n := 52) K dX9_init_51 rfl ?_
  refine wp_putI (n := 55) K dX9_init_52 rfl fl_X9_32 rfl (li0 rfl) (Or.inl rfl) rfl rfl ?_
  try simp only [up_same, up_up, up_ne, pt_lt, Nat.reduceLT, ne_eq, Nat.reduceEqDiff, not_false_eq_true, Int.reduceToNat, Int.toNat_natCast]
  refine wp_aload_n (n := 56) K dX9_init_55 rfl rfl ?_
  refine wp_iconst (n := 57) K dX9_init_56 rfl ?_
  refine wp_putI (n := 60) K dX9_init_57 rfl fl_X9_35 rfl (li0 rfl) (Or.inl rfl) rfl rfl ?_
  try simp only [up_same, up_up, up_ne, pt_lt, Nat.reduceLT, ne_eq, Nat.reduceEqDiff, not_false_eq_true, Int.reduceToNat, Int.toNat_natCast]
  refine wp_vreturn K dX9_init_60 ⟨rfl, rfl, rfl, ?_⟩ ⟨by show c + 1 + 1 + 1 + 1 ≤ c + 4; omega, by show l + 300 + 301 + 301 + 301 ≤ l + 1203; omega⟩
  funext a
  by_cases h : 55 ≤ a ∧ a < 60
  · rcases (show a = 55 ∨ a = 56 ∨ a = 57 ∨ a = 58 ∨ a = 59 by omega) with rfl | rfl | rfl | rfl | rfl <;> rfl
  · rw [pt_out h]
    repeat first | rw [up_ne _ _ (by omega)] | rw [pt_out (by omega)]
theorem i_X4_init_60 (c l : Nat) (M : MT) : Ct E0 yX4_init cX4_init 1 none rm_X4_init [.ref 60] (T1, 61, c, l) (up M 60 (fun _ => 0)) (P0 64 (pt M 60 64)) := by
  refine Ct.mk [.ref 60] (by decide) rfl (Nat.le_of_ble_eq_true rfl) (fun X K => ?_)
  refine wp_aload_n (n := 1) K dX4_init_0 rfl rfl ?_
  refine wp_objInit (n := 4) K dX4_init_1 rfl ol_X4_3 oi_i oi_c (by decide) (by decide) (Nat.le_of_ble_eq_true rfl) ?_
  refine wp_aload_n (n := 5) K dX4_init_4 rfl rfl ?_
  refine wp_bipush (n := 7) K dX4_init_5 rfl rfl ?_
  refine wp_newa0 (n := 9) (kk := 0) (k := 61) (k1 := 62) (m := 72) K dX4_init_7 rfl (by decide) rfl ar_int ⟨by decide, by decide⟩ rfl rfl rfl ⟨by show c + 1 ≤ c + 3; omega, by show l + 72 ≤ l + 412; omega⟩ ?_
  refine wp_putR (n := 12) K dX4_init_9 rfl fl_X4_11 rfl (li0 rfl) (Or.inr ⟨rfl, rfl, fk_X4_11⟩) rfl rfl ?_
  try simp only [up_same, up_up, up_ne, pt_lt, Nat.reduceLT, ne_eq, Nat.reduceEqDiff, not_false_eq_true, Int.reduceToNat, Int.toNat_natCast]
  refine wp_aload_n (n := 13) K dX4_init_12 rfl rfl ?_
  refine wp_sipush (n := 16) K dX4_init_13 rfl rfl ?_
  refine wp_newa0 (n := 18) (kk := 0) (k := 62) (k1 := 63) (m := 300) K dX4_init_16 rfl (by decide) rfl ar_int ⟨by decide, by decide⟩ rfl rfl rfl ⟨by show c + 1 + 1 ≤ c + 3; omega, by show l + 72 + 300 ≤ l + 412; omega⟩ ?_
  refine wp_putR (n := 21) K dX4_init_18 rfl fl_X4_17 rfl (li0 rfl) (Or.inr ⟨rfl, rfl, fk_X4_17⟩) rfl rfl ?_
  try simp only [up_same, up_up, up_ne, pt_lt, Nat.reduceLT, ne_eq, Nat.reduceEqDiff, not_false_eq_true, Int.reduceToNat, Int.toNat_natCast]
  refine wp_aload_n (n := 22) K dX4_init_21 rfl rfl ?_
  refine wp_bipush (n := 24) K dX4_init_22 rfl rfl ?_
  refine wp_newa0 (n := 26) (kk := 0) (k := 63) (k1 := 64) (m := 40) K dX4_init_24 rfl (by decide) rfl ar_int ⟨by decide, by decide⟩ rfl rfl rfl ⟨by show c + 1 + 1 + 1 ≤ c + 3; omega, by show l + 72 + 300 + 40 ≤ l + 412; omega⟩ ?_
  refine wp_putR (n := 29) K dX4_init_26 rfl fl_X4_20 rfl (li0 rfl) (Or.inr ⟨rfl, rfl, fk_X4_20⟩) rfl rfl ?_
  try simp only [up_same, up_up, up_ne, pt_lt, Nat.reduceLT, ne_eq, Nat.reduceEqDiff, not_false_eq_true, Int.reduceToNat, Int.toNat_natCast]
  refine wp_aload_n (n := 30) K dX4_init_29 rfl rfl ?_
  refine wp_getNC (n := 33) K dX4_init_30 rfl nc_X4_23 ?_
  refine wp_putR (n := 36) K dX4_init_33 rfl fl_X4_26 rfl (li0 rfl) (Or.inl rfl) rfl rfl ?_
  try simp only [up_same, up_up, up_ne, pt_lt, Nat.reduceLT, ne_eq, Nat.reduceEqDiff, not_false_eq_true, Int.reduceToNat, Int.toNat_natCast]
  refine wp_aload_n (n := 37) K dX4_init_36 rfl rfl ?_
  refine wp_getNC (n := 40) K dX4_init_37 rfl nc_X4_23 ?_
  refine wp_putR (n := 43) K dX4_init_40 rfl fl_X4_29 rfl (li0 rfl) (Or.inl rfl) rfl rfl ?_
  try simp only [up_same, up_up, up_ne, pt_lt, Nat.reduceLT, ne_eq, Nat.reduceEqDiff, not_false_eq_true, Int.reduceToNat, Int.toNat_natCast]
  refine wp_aload_n (n := 44) K dX4_init_43 rfl rfl ?_
  refine wp_getNC (n := 47) K dX4_init_44 rfl nc_X4_23 ?_
  refine wp_putR (n := 50) K dX4_init_47 rfl fl_X4_32 rfl (li0 rfl) (Or.inl rfl) rfl rfl ?_
  try simp only [up_same, up_up, up_ne, pt_lt, Nat.reduceLT, ne_eq, Nat.reduceEqDiff, not_false_eq_true, Int.reduceToNat, Int.toNat_natCast]
  refine wp_aload_n (n := 51) K dX4_init_50 rfl rfl ?_
  refine wp_iconst (n := 52) K dX4_init_51 rfl ?_
  refine wp_putI (n := 55) K dX4_init_52 rfl fl_X4_35 rfl (li0 rfl) (Or.inl rfl) rfl rfl ?_
  try simp only [up_same, up_up, up_ne, pt_lt, Nat.reduceLT, ne_eq, Nat.reduceEqDiff, not_false_eq_true, Int.reduceToNat, Int.toNat_natCast]
  refine wp_aload_n (n := 56) K dX4_init_55 rfl rfl ?_
  refine wp_iconst (n := 57) K dX4_init_56 rfl ?_
  refine wp_putI (n := 60) K dX4_init_57 rfl fl_X4_39 rfl (li0 rfl) (Or.inl rfl) rfl rfl ?_
  try simp only [up_same, up_up, up_ne, pt_lt, Nat.reduceLT, ne_eq, Nat.reduceEqDiff, not_false_eq_true, Int.reduceToNat, Int.toNat_natCast]
  refine wp_aload_n (n := 61) K dX4_init_60 rfl rfl ?_
  refine wp_iconst (n := 62) K dX4_init_61 rfl ?_
  refine wp_putI (n := 65) K dX4_init_62 rfl fl_X4_42 rfl (li0 rfl) (Or.inl rfl) rfl rfl ?_
  try simp only [up_same, up_up, up_ne, pt_lt, Nat.reduceLT, ne_eq, Nat.reduceEqDiff, not_false_eq_true, Int.reduceToNat, Int.toNat_natCast]
  refine wp_aload_n (n := 66) K dX4_init_65 rfl rfl ?_
  refine wp_iconst (n := 67) K dX4_init_66 rfl ?_
  refine wp_putI (n := 70) K dX4_init_67 rfl fl_X4_45 rfl (li0 rfl) (Or.inl rfl) rfl rfl ?_
  try simp only [up_same, up_up, up_ne, pt_lt, Nat.reduceLT, ne_eq, Nat.reduceEqDiff, not_false_eq_true, Int.reduceToNat, Int.toNat_natCast]
  refine wp_aload_n (n := 71) K dX4_init_70 rfl rfl ?_
  refine wp_iconst (n := 72) K dX4_init_71 rfl ?_
  refine wp_putI (n := 75) K dX4_init_72 rfl fl_X4_48 rfl (li0 rfl) (Or.inl rfl) rfl rfl ?_
  try simp only [up_same, up_up, up_ne, pt_lt, Nat.reduceLT, ne_eq, Nat.reduceEqDiff, not_false_eq_true, Int.reduceToNat, Int.toNat_natCast]
  refine wp_aload_n (n := 76) K dX4_init_75 rfl rfl ?_
  refine wp_iconst (n := 77) K dX4_init_76 rfl ?_
  refine wp_putI (n := 80) K dX4_init_77 rfl fl_X4_51 rfl (li0 rfl) (Or.inl rfl) rfl rfl ?_
  try simp only [up_same, up_up, up_ne, pt_lt, Nat.reduceLT, ne_eq, Nat.reduceEqDiff, not_false_eq_true, Int.reduceToNat, Int.toNat_natCast]
  refine wp_aload_n (n := 81) K dX4_init_80 rfl rfl ?_
  refine wp_iconst (n := 82) K dX4_init_81 rfl ?_
  refine wp_putI (n := 85) K dX4_init_82 rfl fl_X4_54 rfl (li0 rfl) (Or.inl rfl) rfl rfl ?_
  try simp only [up_same, up_up, up_ne, pt_lt, Nat.reduceLT, ne_eq, Nat.reduceEqDiff, not_false_eq_true, Int.reduceToNat, Int.toNat_natCast]
  refine wp_aload_n (n := 86) K dX4_init_85 rfl rfl ?_
  refine wp_iconst (n := 87) K dX4_init_86 rfl ?_
  refine wp_putI (n := 90) K dX4_init_87 rfl fl_X4_57 rfl (li0 rfl) (Or.inl rfl) rfl rfl ?_
  try simp only [up_same, up_up, up_ne, pt_lt, Nat.reduceLT, ne_eq, Nat.reduceEqDiff, not_false_eq_true, Int.reduceToNat, Int.toNat_natCast]
  refine wp_aload_n (n := 91) K dX4_init_90 rfl rfl ?_
  refine wp_iconst (n := 92) K dX4_init_91 rfl ?_
  refine wp_putZ (n := 95) K dX4_init_92 rfl fl_X4_60 rfl (li0 rfl) (Or.inl rfl) rfl rfl (by first | exact Or.inl rfl | exact Or.inr rfl) ?_
  try simp only [up_same, up_up, up_ne, pt_lt, Nat.reduceLT, ne_eq, Nat.reduceEqDiff, not_false_eq_true, Int.reduceToNat, Int.toNat_natCast]
  refine wp_aload_n (n := 96) K dX4_init_95 rfl rfl ?_
  refine wp_iconst (n := 97) K dX4_init_96 rfl ?_
  refine wp_putZ (n := 100) K dX4_init_97 rfl fl_X4_64 rfl (li0 rfl) (Or.inl rfl) rfl rfl (by first | exact Or.inl rfl | exact Or.inr rfl) ?_
  try simp only [up_same, up_up, up_ne, pt_lt, Nat.reduceLT, ne_eq, Nat.reduceEqDiff, not_false_eq_true, Int.reduceToNat, Int.toNat_natCast]
  refine wp_aload_n (n := 101) K dX4_init_100 rfl rfl ?_
  refine wp_iconst (n := 102) K dX4_init_101 rfl ?_
  refine wp_putZ (n := 105) K dX4_init_102 rfl fl_X4_67 rfl (li0 rfl) (Or.inl rfl) rfl rfl (by first | exact Or.inl rfl | exact Or.inr rfl) ?_
  try simp only [up_same, up_up, up_ne, pt_lt, Nat.reduceLT, ne_eq, Nat.reduceEqDiff, not_false_eq_true, Int.reduceToNat, Int.toNat_natCast]
  refine wp_vreturn K dX4_init_105 ⟨rfl, rfl, rfl, ?_⟩ ⟨by show c + 1 + 1 + 1 ≤ c + 3; omega, by show l + 72 + 300 + 40 ≤ l + 412; omega⟩
  funext a
  by_cases h : 60 ≤ a ∧ a < 64
  · rcases (show a = 60 ∨ a = 61 ∨ a = 62 ∨ a = 63 by omega) with rfl | rfl | rfl | rfl <;> rfl
  · rw [pt_out h]
    repeat first | rw [up_ne _ _ (by omega)] | rw [pt_out (by omega)]
theorem i_X2_init_64 (c l : Nat) (M : MT) : Ct E0 yX2_init cX2_init 1 none rm_X2_init [.ref 64] (T1, 65, c, l) (up M 64 (fun _ => 0)) (P0 67 (pt M 64 67)) := by
  refine Ct.mk [.ref 64] (by decide) rfl (Nat.le_of_ble_eq_true rfl) (fun X K => ?_)
  refine wp_aload_n (n := 1) K dX2_init_0 rfl rfl ?_
  refine wp_objInit (n := 4) K dX2_init_1 rfl ol_X2_3 oi_i oi_c (by decide) (by decide) (Nat.le_of_ble_eq_true rfl) ?_
  refine wp_aload_n (n := 5) K dX2_init_4 rfl rfl ?_
  refine wp_bipush (n := 7) K dX2_init_5 rfl rfl ?_
  refine wp_newa0 (n := 9) (kk := 0) (k := 65) (k1 := 66) (m := 8) K dX2_init_7 rfl (by decide) rfl ar_int ⟨by decide, by decide⟩ rfl rfl rfl ⟨by show c + 1 ≤ c + 2; omega, by show l + 8 ≤ l + 48; omega⟩ ?_
  refine wp_putR (n := 12) K dX2_init_9 rfl fl_X2_9 rfl (li0 rfl) (Or.inr ⟨rfl, rfl, fk_X2_9⟩) rfl rfl ?_
  try simp only [up_same, up_up, up_ne, pt_lt, Nat.reduceLT, ne_eq, Nat.reduceEqDiff, not_false_eq_true, Int.reduceToNat, Int.toNat_natCast]
  refine wp_aload_n (n := 13) K dX2_init_12 rfl rfl ?_
  refine wp_bipush (n := 15) K dX2_init_13 rfl rfl ?_
  refine wp_newa0 (n := 17) (kk := 0) (k := 66) (k1 := 67) (m := 40) K dX2_init_15 rfl (by decide) rfl ar_int ⟨by decide, by decide⟩ rfl rfl rfl ⟨by show c + 1 + 1 ≤ c + 2; omega, by show l + 8 + 40 ≤ l + 48; omega⟩ ?_
  refine wp_putR (n := 20) K dX2_init_17 rfl fl_X2_15 rfl (li0 rfl) (Or.inr ⟨rfl, rfl, fk_X2_15⟩) rfl rfl ?_
  try simp only [up_same, up_up, up_ne, pt_lt, Nat.reduceLT, ne_eq, Nat.reduceEqDiff, not_false_eq_true, Int.reduceToNat, Int.toNat_natCast]
  refine wp_vreturn K dX2_init_20 ⟨rfl, rfl, rfl, ?_⟩ ⟨by show c + 1 + 1 ≤ c + 2; omega, by show l + 8 + 40 ≤ l + 48; omega⟩
  funext a
  by_cases h : 64 ≤ a ∧ a < 67
  · rcases (show a = 64 ∨ a = 65 ∨ a = 66 by omega) with rfl | rfl | rfl <;> rfl
  · rw [pt_out h]
    repeat first | rw [up_ne _ _ (by omega)] | rw [pt_out (by omega)]
theorem i_X2_init_71 (c l : Nat) (M : MT) : Ct E0 yX2_init cX2_init 1 none rm_X2_init [.ref 71] (T1, 72, c, l) (up M 71 (fun _ => 0)) (P0 74 (pt M 71 74)) := by
  refine Ct.mk [.ref 71] (by decide) rfl (Nat.le_of_ble_eq_true rfl) (fun X K => ?_)
  refine wp_aload_n (n := 1) K dX2_init_0 rfl rfl ?_
  refine wp_objInit (n := 4) K dX2_init_1 rfl ol_X2_3 oi_i oi_c (by decide) (by decide) (Nat.le_of_ble_eq_true rfl) ?_
  refine wp_aload_n (n := 5) K dX2_init_4 rfl rfl ?_
  refine wp_bipush (n := 7) K dX2_init_5 rfl rfl ?_
  refine wp_newa0 (n := 9) (kk := 0) (k := 72) (k1 := 73) (m := 8) K dX2_init_7 rfl (by decide) rfl ar_int ⟨by decide, by decide⟩ rfl rfl rfl ⟨by show c + 1 ≤ c + 2; omega, by show l + 8 ≤ l + 48; omega⟩ ?_
  refine wp_putR (n := 12) K dX2_init_9 rfl fl_X2_9 rfl (li0 rfl) (Or.inr ⟨rfl, rfl, fk_X2_9⟩) rfl rfl ?_
  try simp only [up_same, up_up, up_ne, pt_lt, Nat.reduceLT, ne_eq, Nat.reduceEqDiff, not_false_eq_true, Int.reduceToNat, Int.toNat_natCast]
  refine wp_aload_n (n := 13) K dX2_init_12 rfl rfl ?_
  refine wp_bipush (n := 15) K dX2_init_13 rfl rfl ?_
  refine wp_newa0 (n := 17) (kk := 0) (k := 73) (k1 := 74) (m := 40) K dX2_init_15 rfl (by decide) rfl ar_int ⟨by decide, by decide⟩ rfl rfl rfl ⟨by show c + 1 + 1 ≤ c + 2; omega, by show l + 8 + 40 ≤ l + 48; omega⟩ ?_
  refine wp_putR (n := 20) K dX2_init_17 rfl fl_X2_15 rfl (li0 rfl) (Or.inr ⟨rfl, rfl, fk_X2_15⟩) rfl rfl ?_
  try simp only [up_same, up_up, up_ne, pt_lt, Nat.reduceLT, ne_eq, Nat.reduceEqDiff, not_false_eq_true, Int.reduceToNat, Int.toNat_natCast]
  refine wp_vreturn K dX2_init_20 ⟨rfl, rfl, rfl, ?_⟩ ⟨by show c + 1 + 1 ≤ c + 2; omega, by show l + 8 + 40 ≤ l + 48; omega⟩
  funext a
  by_cases h : 71 ≤ a ∧ a < 74
  · rcases (show a = 71 ∨ a = 72 ∨ a = 73 by omega) with rfl | rfl | rfl <;> rfl
  · rw [pt_out h]
    repeat first | rw [up_ne _ _ (by omega)] | rw [pt_out (by omega)]
theorem i_X0_init_74 (c l : Nat) (M : MT) : Ct E0 yX0_init cX0_init 1 none rm_X0_init [.ref 74] (T1, 75, c, l) (up M 74 (fun _ => 0)) (P0 77 (pt M 74 77)) := by
  refine Ct.mk [.ref 74] (by decide) rfl (Nat.le_of_ble_eq_true rfl) (fun X K => ?_)
  refine wp_aload_n (n := 1) K dX0_init_0 rfl rfl ?_
  refine wp_objInit (n := 4) K dX0_init_1 rfl ol_X0_3 oi_i oi_c (by decide) (by decide) (Nat.le_of_ble_eq_true rfl) ?_
  refine wp_aload_n (n := 5) K dX0_init_4 rfl rfl ?_
  refine wp_sipush (n := 8) K dX0_init_5 rfl rfl ?_
  refine wp_newa0 (n := 10) (kk := 0) (k := 75) (k1 := 76) (m := 1024) K dX0_init_8 rfl (by decide) rfl ar_int ⟨by decide, by decide⟩ rfl rfl rfl ⟨by show c + 1 ≤ c + 2; omega, by show l + 1024 ≤ l + 2048; omega⟩ ?_
  refine wp_putR (n := 13) K dX0_init_10 rfl fl_X0_9 rfl (li0 rfl) (Or.inr ⟨rfl, rfl, fk_X0_9⟩) rfl rfl ?_
  try simp only [up_same, up_up, up_ne, pt_lt, Nat.reduceLT, ne_eq, Nat.reduceEqDiff, not_false_eq_true, Int.reduceToNat, Int.toNat_natCast]
  refine wp_aload_n (n := 14) K dX0_init_13 rfl rfl ?_
  refine wp_sipush (n := 17) K dX0_init_14 rfl rfl ?_
  refine wp_newa0 (n := 19) (kk := 0) (k := 76) (k1 := 77) (m := 1024) K dX0_init_17 rfl (by decide) rfl ar_int ⟨by decide, by decide⟩ rfl rfl rfl ⟨by show c + 1 + 1 ≤ c + 2; omega, by show l + 1024 + 1024 ≤ l + 2048; omega⟩ ?_
  refine wp_putR (n := 22) K dX0_init_19 rfl fl_X0_15 rfl (li0 rfl) (Or.inr ⟨rfl, rfl, fk_X0_15⟩) rfl rfl ?_
  try simp only [up_same, up_up, up_ne, pt_lt, Nat.reduceLT, ne_eq, Nat.reduceEqDiff, not_false_eq_true, Int.reduceToNat, Int.toNat_natCast]
  refine wp_vreturn K dX0_init_22 ⟨rfl, rfl, rfl, ?_⟩ ⟨by show c + 1 + 1 ≤ c + 2; omega, by show l + 1024 + 1024 ≤ l + 2048; omega⟩
  funext a
  by_cases h : 74 ≤ a ∧ a < 77
  · rcases (show a = 74 ∨ a = 75 ∨ a = 76 by omega) with rfl | rfl | rfl <;> rfl
  · rw [pt_out h]
    repeat first | rw [up_ne _ _ (by omega)] | rw [pt_out (by omega)]
theorem i_X3_init_67 (c l : Nat) (M : MT) : Ct E0 yX3_init cX3_init 1 none rm_X3_init [.ref 67] (T1, 68, c, l) (up M 67 (fun _ => 0)) (P0 74 (pt M 67 74)) := by
  refine Ct.mk [.ref 67] (by decide) rfl (Nat.le_of_ble_eq_true rfl) (fun X K => ?_)
  refine wp_aload_n (n := 1) K dX3_init_0 rfl rfl ?_
  refine wp_objInit (n := 4) K dX3_init_1 rfl ol_X3_3 oi_i oi_c (by decide) (by decide) (Nat.le_of_ble_eq_true rfl) ?_
  refine wp_aload_n (n := 5) K dX3_init_4 rfl rfl ?_
  refine wp_sipush (n := 8) K dX3_init_5 rfl rfl ?_
  refine wp_newa0 (n := 10) (kk := 0) (k := 68) (k1 := 69) (m := 3168) K dX3_init_8 rfl (by decide) rfl ar_int ⟨by decide, by decide⟩ rfl rfl rfl ⟨by show c + 1 ≤ c + 6; omega, by show l + 3168 ≤ l + 7326; omega⟩ ?_
  refine wp_putR (n := 13) K dX3_init_10 rfl fl_X3_11 rfl (li0 rfl) (Or.inr ⟨rfl, rfl, fk_X3_11⟩) rfl rfl ?_
  try simp only [up_same, up_up, up_ne, pt_lt, Nat.reduceLT, ne_eq, Nat.reduceEqDiff, not_false_eq_true, Int.reduceToNat, Int.toNat_natCast]
  refine wp_aload_n (n := 14) K dX3_init_13 rfl rfl ?_
  refine wp_sipush (n := 17) K dX3_init_14 rfl rfl ?_
  refine wp_newa0 (n := 19) (kk := 0) (k := 69) (k1 := 70) (m := 4096) K dX3_init_17 rfl (by decide) rfl ar_int ⟨by decide, by decide⟩ rfl rfl rfl ⟨by show c + 1 + 1 ≤ c + 6; omega, by show l + 3168 + 4096 ≤ l + 7326; omega⟩ ?_
  refine wp_putR (n := 22) K dX3_init_19 rfl fl_X3_15 rfl (li0 rfl) (Or.inr ⟨rfl, rfl, fk_X3_15⟩) rfl rfl ?_
  try simp only [up_same, up_up, up_ne, pt_lt, Nat.reduceLT, ne_eq, Nat.reduceEqDiff, not_false_eq_true, Int.reduceToNat, Int.toNat_natCast]
  refine wp_aload_n (n := 23) K dX3_init_22 rfl rfl ?_
  refine wp_bipush (n := 25) K dX3_init_23 rfl rfl ?_
  refine wp_newa0 (n := 27) (kk := 0) (k := 70) (k1 := 71) (m := 12) K dX3_init_25 rfl (by decide) rfl ar_int ⟨by decide, by decide⟩ rfl rfl rfl ⟨by show c + 1 + 1 + 1 ≤ c + 6; omega, by show l + 3168 + 4096 + 12 ≤ l + 7326; omega⟩ ?_
  refine wp_putR (n := 30) K dX3_init_27 rfl fl_X3_18 rfl (li0 rfl) (Or.inr ⟨rfl, rfl, fk_X3_18⟩) rfl rfl ?_
  try simp only [up_same, up_up, up_ne, pt_lt, Nat.reduceLT, ne_eq, Nat.reduceEqDiff, not_false_eq_true, Int.reduceToNat, Int.toNat_natCast]
  refine wp_aload_n (n := 31) K dX3_init_30 rfl rfl ?_
  refine wp_new0 (n := 34) (k := 71) (k1 := 72) K dX3_init_31 rfl ck2 cl_X3_21 inst_X2 ini_X2 (by decide) rfl rfl ⟨by show c + 1 + 1 + 1 + 1 ≤ c + 6; omega, by show l + 3168 + 4096 + 12 + 2 ≤ l + 7326; omega⟩ ?_
  refine wp_dup (n := 35) K dX3_init_34 rfl rfl ?_
  refine wp_invI0 (n := 38) (k1 := 74) K dX3_init_35 rfl cf_X3_23 (by decide) (i_X2_init_71 _ _ _) rfl rfl (by decide) ⟨by show c + 1 + 1 + 1 + 1 + 2 ≤ c + 6; omega, by show l + 3168 + 4096 + 12 + 2 + 48 ≤ l + 7326; omega⟩ (Nat.le_of_ble_eq_true rfl) ?_
  refine wp_putR (n := 41) K dX3_init_38 rfl fl_X3_24 rfl (li0 rfl) (Or.inr ⟨rfl, rfl, fk_X3_24⟩) rfl rfl ?_
  try simp only [up_same, up_up, up_ne, pt_lt, Nat.reduceLT, ne_eq, Nat.reduceEqDiff, not_false_eq_true, Int.reduceToNat, Int.toNat_natCast]
  refine wp_aload_n (n := 42) K dX3_init_41 rfl rfl ?_
  refine wp_iconst (n := 43) K dX3_init_42 rfl ?_
  refine wp_putZ (n := 46) K dX3_init_43 rfl fl_X3_28 rfl (li0 rfl) (Or.inl rfl) rfl rfl (by first | exact Or.inl rfl | exact Or.inr rfl) ?_
  try simp only [up_same, up_up, up_ne, pt_lt, Nat.reduceLT, ne_eq, Nat.reduceEqDiff, not_false_eq_true, Int.reduceToNat, Int.toNat_natCast]
  refine wp_aload_n (n := 47) K dX3_init_46 rfl rfl ?_
  refine wp_iconst (n := 48) K dX3_init_47 rfl ?_
  refine wp_putI (n := 51) K dX3_init_48 rfl fl_X3_32 rfl (li0 rfl) (Or.inl rfl) rfl rfl ?_
  try simp only [up_same, up_up, up_ne, pt_lt, Nat.reduceLT, ne_eq, Nat.reduceEqDiff, not_false_eq_true, Int.reduceToNat, Int.toNat_natCast]
  refine wp_aload_n (n := 52) K dX3_init_51 rfl rfl ?_
  refine wp_iconst (n := 53) K dX3_init_52 rfl ?_
  refine wp_putI (n := 56) K dX3_init_53 rfl fl_X3_36 rfl (li0 rfl) (Or.inl rfl) rfl rfl ?_
  try simp only [up_same, up_up, up_ne, pt_lt, Nat.reduceLT, ne_eq, Nat.reduceEqDiff, not_false_eq_true, Int.reduceToNat, Int.toNat_natCast]
  refine wp_aload_n (n := 57) K dX3_init_56 rfl rfl ?_
  refine wp_lconst (n := 58) (a := 0) K dX3_init_57 rfl rfl ?_
  refine wp_putL (n := 61) K dX3_init_58 rfl fl_X3_39 rfl (li0 rfl) (Or.inl rfl) rfl rfl ?_
  try simp only [up_same, up_up, up_ne, pt_lt, Nat.reduceLT, ne_eq, Nat.reduceEqDiff, not_false_eq_true, Int.reduceToNat, Int.toNat_natCast]
  refine wp_aload_n (n := 62) K dX3_init_61 rfl rfl ?_
  refine wp_lconst (n := 63) (a := 0) K dX3_init_62 rfl rfl ?_
  refine wp_putL (n := 66) K dX3_init_63 rfl fl_X3_43 rfl (li0 rfl) (Or.inl rfl) rfl rfl ?_
  try simp only [up_same, up_up, up_ne, pt_lt, Nat.reduceLT, ne_eq, Nat.reduceEqDiff, not_false_eq_true, Int.reduceToNat, Int.toNat_natCast]
  refine wp_aload_n (n := 67) K dX3_init_66 rfl rfl ?_
  refine wp_iconst (n := 68) K dX3_init_67 rfl ?_
  refine wp_putI (n := 71) K dX3_init_68 rfl fl_X3_46 rfl (li0 rfl) (Or.inl rfl) rfl rfl ?_
  try simp only [up_same, up_up, up_ne, pt_lt, Nat.reduceLT, ne_eq, Nat.reduceEqDiff, not_false_eq_true, Int.reduceToNat, Int.toNat_natCast]
  refine wp_aload_n (n := 72) K dX3_init_71 rfl rfl ?_
  refine wp_iconst (n := 73) K dX3_init_72 rfl ?_
  refine wp_putI (n := 76) K dX3_init_73 rfl fl_X3_49 rfl (li0 rfl) (Or.inl rfl) rfl rfl ?_
  try simp only [up_same, up_up, up_ne, pt_lt, Nat.reduceLT, ne_eq, Nat.reduceEqDiff, not_false_eq_true, Int.reduceToNat, Int.toNat_natCast]
  refine wp_vreturn K dX3_init_76 ⟨rfl, rfl, rfl, ?_⟩ ⟨by show c + 1 + 1 + 1 + 1 + 2 ≤ c + 6; omega, by show l + 3168 + 4096 + 12 + 2 + 48 ≤ l + 7326; omega⟩
  funext a
  by_cases h : 67 ≤ a ∧ a < 74
  · rcases (show a = 67 ∨ a = 68 ∨ a = 69 ∨ a = 70 ∨ a = 71 ∨ a = 72 ∨ a = 73 by omega) with rfl | rfl | rfl | rfl | rfl | rfl | rfl <;> rfl
  · rw [pt_out h]
    repeat first | rw [up_ne _ _ (by omega)] | rw [pt_out (by omega)]

