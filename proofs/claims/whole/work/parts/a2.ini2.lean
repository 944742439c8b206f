theorem i_X6_init_17 (c l : Nat) (M : MT) : Ct E0 yX6_init cX6_init 1 none rm_X6_init [.ref 17] (T1, 18, c, l) (up M 17 (fun _ => 0)) (P0 36 (pt M 17 36)) := by
  refine Ct.mk [.ref 17] (by decide) rfl (Nat.le_of_ble_eq_true rfl) (fun X K => ?_)
  refine wp_aload_n (n := 1) K dX6_init_0 rfl rfl ?_
  refine wp_objInit (n := 4) K dX6_init_1 rfl ol_X6_3 oi_i oi_c (by decide) (by decide) (Nat.le_of_ble_eq_true rfl) ?_
  refine wp_aload_n (n := 5) K dX6_init_4 rfl rfl ?_
  refine wp_new0 (n := 8) (k := 18) (k1 := 19) K dX6_init_5 rfl ck8 cl_X6_9 inst_X8 ini_X8 (by decide) rfl rfl ⟨by show c + 1 ≤ c + 18; omega, by show l + 6 ≤ l + 802; omega⟩ ?_
  refine wp_dup (n := 9) K dX6_init_8 rfl rfl ?_
  refine wp_invI0 (n := 12) (k1 := 24) K dX6_init_9 rfl cf_X6_11 (by decide) (i_X8_init_18 _ _ _) rfl rfl (by decide) ⟨by show c + 1 + 5 ≤ c + 18; omega, by show l + 6 + 60 ≤ l + 802; omega⟩ (Nat.le_of_ble_eq_true rfl) ?_
  refine wp_putR (n := 15) K dX6_init_12 rfl fl_X6_12 rfl (li0 rfl) (Or.inr ⟨rfl, rfl, fk_X6_12⟩) rfl rfl ?_
  try simp only [up_same, up_up, up_ne, pt_lt, Nat.reduceLT, ne_eq, Nat.reduceEqDiff, not_false_eq_true, Int.reduceToNat, Int.toNat_natCast]
  refine wp_aload_n (n := 16) K dX6_init_15 rfl rfl ?_
  refine wp_new0 (n := 19) (k := 24) (k1 := 25) K dX6_init_16 rfl ck1 cl_X6_18 inst_X1 ini_X1 (by decide) rfl rfl ⟨by show c + 1 + 5 + 1 ≤ c + 18; omega, by show l + 6 + 60 + 5 ≤ l + 802; omega⟩ ?_
  refine wp_dup (n := 20) K dX6_init_19 rfl rfl ?_
  refine wp_invI0 (n := 23) (k1 := 29) K dX6_init_20 rfl cf_X6_20 (by decide) (i_X1_init_24 _ _ _) rfl rfl (by decide) ⟨by show c + 1 + 5 + 1 + 4 ≤ c + 18; omega, by show l + 6 + 60 + 5 + 40 ≤ l + 802; omega⟩ (Nat.le_of_ble_eq_true rfl) ?_
  refine wp_putR (n := 26) K dX6_init_23 rfl fl_X6_21 rfl (li0 rfl) (Or.inr ⟨rfl, rfl, fk_X6_21⟩) rfl rfl ?_
  try simp only [up_same, up_up, up_ne, pt_lt, Nat.reduceLT, ne_eq, Nat.reduceEqDiff, not_false_eq_true, Int.reduceToNat, Int.toNat_natCast]
  refine wp_aload_n (n := 27) K dX6_init_26 rfl rfl ?_
  refine wp_new0 (n := 30) (k := 29) (k1 := 30) K dX6_init_27 rfl ck5 cl_X6_25 inst_X5 ini_X5 (by decide) rfl rfl ⟨by show c + 1 + 5 + 1 + 4 + 1 ≤ c + 18; omega, by show l + 6 + 60 + 5 + 40 + 3 ≤ l + 802; omega⟩ ?_
  refine wp_dup (n := 31) K dX6_init_30 rfl rfl ?_
  refine wp_invI0 (n := 34) (k1 := 32) K dX6_init_31 rfl cf_X6_27 (by decide) (i_X5_init_29 _ _ _) rfl rfl (by decide) ⟨by show c + 1 + 5 + 1 + 4 + 1 + 2 ≤ c + 18; omega, by show l + 6 + 60 + 5 + 40 + 3 + 16 ≤ l + 802; omega⟩ (Nat.le_of_ble_eq_true rfl) ?_
  refine wp_putR (n := 37) K dX6_init_34 rfl fl_X6_28 rfl (li0 rfl) (Or.inr ⟨rfl, rfl, fk_X6_28⟩) rfl rfl ?_
  try simp only [up_same, up_up, up_ne, pt_lt, Nat.reduceLT, ne_eq, Nat.reduceEqDiff, not_false_eq_true, Int.reduceToNat, Int.toNat_natCast]
  refine wp_aload_n (n := 38) K dX6_init_37 rfl rfl ?_
  refine wp_new0 (n := 41) (k := 32) (k1 := 33) K dX6_init_38 rfl ck7 cl_X6_32 inst_X7 ini_X7 (by decide) rfl rfl ⟨by show c + 1 + 5 + 1 + 4 + 1 + 2 + 1 ≤ c + 18; omega, by show l + 6 + 60 + 5 + 40 + 3 + 16 + 3 ≤ l + 802; omega⟩ ?_
  refine wp_dup (n := 42) K dX6_init_41 rfl rfl ?_
  refine wp_invI0 (n := 45) (k1 := 34) K dX6_init_42 rfl cf_X6_34 (by decide) (i_X7_init_32 _ _ _) rfl rfl (by decide) ⟨by show c + 1 + 5 + 1 + 4 + 1 + 2 + 1 + 1 ≤ c + 18; omega, by show l + 6 + 60 + 5 + 40 + 3 + 16 + 3 + 660 ≤ l + 802; omega⟩ (Nat.le_of_ble_eq_true rfl) ?_
  refine wp_putR (n := 48) K dX6_init_45 rfl fl_X6_35 rfl (li0 rfl) (Or.inr ⟨rfl, rfl, fk_X6_35⟩) rfl rfl ?_
  try simp only [up_same, up_up, up_ne, pt_lt, Nat.reduceLT, ne_eq, Nat.reduceEqDiff, not_false_eq_true, Int.reduceToNat, Int.toNat_natCast]
  refine wp_aload_n (n := 49) K dX6_init_48 rfl rfl ?_
  refine wp_new0 (n := 52) (k := 34) (k1 := 35) K dX6_init_49 rfl ck10 cl_X6_39 inst_X10 ini_X10 (by decide) rfl rfl ⟨by show c + 1 + 5 + 1 + 4 + 1 + 2 + 1 + 1 + 1 ≤ c + 18; omega, by show l + 6 + 60 + 5 + 40 + 3 + 16 + 3 + 660 + 5 ≤ l + 802; omega⟩ ?_
  refine wp_dup (n := 53) K dX6_init_52 rfl rfl ?_
  refine wp_getNC (n := 56) K dX6_init_53 rfl nc_X6_41 ?_
  refine wp_getNC (n := 59) K dX6_init_56 rfl nc_X6_41 ?_
  refine wp_getNC (n := 62) K dX6_init_59 rfl nc_X6_41 ?_
  refine wp_getNC (n := 65) K dX6_init_62 rfl nc_X6_41 ?_
  refine wp_invI0 (n := 68) (k1 := 35) K dX6_init_65 rfl cf_X6_45 (by decide) (i_X10_init_34 _ _ _) rfl rfl (by decide) ⟨by show c + 1 + 5 + 1 + 4 + 1 + 2 + 1 + 1 + 1 + 0 ≤ c + 18; omega, by show l + 6 + 60 + 5 + 40 + 3 + 16 + 3 + 660 + 5 + 0 ≤ l + 802; omega⟩ (Nat.le_of_ble_eq_true rfl) ?_
  refine wp_putR (n := 71) K dX6_init_68 rfl fl_X6_48 rfl (li0 rfl) (Or.inr ⟨rfl, rfl, fk_X6_48⟩) rfl rfl ?_
  try simp only [up_same, up_up, up_ne, pt_lt, Nat.reduceLT, ne_eq, Nat.reduceEqDiff, not_false_eq_true, Int.reduceToNat, Int.toNat_natCast]
  refine wp_aload_n (n := 72) K dX6_init_71 rfl rfl ?_
  refine wp_iconst (n := 73) K dX6_init_72 rfl ?_
  refine wp_anew0 (n := 76) (k := 35) (k1 := 36) (m := 4) K dX6_init_73 rfl cl_X6_39 ar_over ⟨by decide, by decide⟩ rfl rfl rfl ⟨by show c + 1 + 5 + 1 + 4 + 1 + 2 + 1 + 1 + 1 + 0 + 1 ≤ c + 18; omega, by show l + 6 + 60 + 5 + 40 + 3 + 16 + 3 + 660 + 5 + 0 + 4 ≤ l + 802; omega⟩ ?_
  refine wp_dup (n := 77) K dX6_init_76 rfl rfl ?_
  refine wp_iconst (n := 78) K dX6_init_77 rfl ?_
  refine wp_aload_n (n := 79) K dX6_init_78 rfl rfl ?_
  refine wp_getD (n := 82) K dX6_init_79 rfl fl_X6_48 rfl (li0 rfl) rfl (show _ = ((34 : Nat) : Int) from rfl) ?_
  try simp only [up_same, up_up, up_ne, pt_lt, Nat.reduceLT, ne_eq, Nat.reduceEqDiff, not_false_eq_true, Int.reduceToNat, Int.toNat_natCast]
  refine wp_aast (n := 83) K dX6_init_82 rfl rfl (li0 rfl) (fun _ => rfl) ⟨by decide, by decide, by decide⟩ rfl (li0 rfl) ?_
  try simp only [up_same, up_up, up_ne, pt_lt, Nat.reduceLT, ne_eq, Nat.reduceEqDiff, not_false_eq_true, Int.reduceToNat, Int.toNat_natCast]
  refine wp_dup (n := 84) K dX6_init_83 rfl rfl ?_
  refine wp_iconst (n := 85) K dX6_init_84 rfl ?_
  refine wp_aload_n (n := 86) K dX6_init_85 rfl rfl ?_
  refine wp_getD (n := 89) K dX6_init_86 rfl fl_X6_48 rfl (li0 rfl) rfl (show _ = ((34 : Nat) : Int) from rfl) ?_
  try simp only [up_same, up_up, up_ne, pt_lt, Nat.reduceLT, ne_eq, Nat.reduceEqDiff, not_false_eq_true, Int.reduceToNat, Int.toNat_natCast]
  refine wp_aast (n := 90) K dX6_init_89 rfl rfl (li0 rfl) (fun _ => rfl) ⟨by decide, by decide, by decide⟩ rfl (li0 rfl) ?_
  try simp only [up_same, up_up, up_ne, pt_lt, Nat.reduceLT, ne_eq, Nat.reduceEqDiff, not_false_eq_true, Int.reduceToNat, Int.toNat_natCast]
  refine wp_dup (n := 91) K dX6_init_90 rfl rfl ?_
  refine wp_iconst (n := 92) K dX6_init_91 rfl ?_
  refine wp_aload_n (n := 93) K dX6_init_92 rfl rfl ?_
  refine wp_getD (n := 96) K dX6_init_93 rfl fl_X6_48 rfl (li0 rfl) rfl (show _ = ((34 : Nat) : Int) from rfl) ?_
  try simp only [up_same, up_up, up_ne, pt_lt, Nat.reduceLT, ne_eq, Nat.reduceEqDiff, not_false_eq_true, Int.reduceToNat, Int.toNat_natCast]
  refine wp_aast (n := 97) K dX6_init_96 rfl rfl (li0 rfl) (fun _ => rfl) ⟨by decide, by decide, by decide⟩ rfl (li0 rfl) ?_
  try simp only [up_same, up_up, up_ne, pt_lt, Nat.reduceLT, ne_eq, Nat.reduceEqDiff, not_false_eq_true, Int.reduceToNat, Int.toNat_natCast]
  refine wp_dup (n := 98) K dX6_init_97 rfl rfl ?_
  refine wp_iconst (n := 99) K dX6_init_98 rfl ?_
  refine wp_aload_n (n := 100) K dX6_init_99 rfl rfl ?_
  refine wp_getD (n := 103) K dX6_init_100 rfl fl_X6_48 rfl (li0 rfl) rfl (show _ = ((34 : Nat) : Int) from rfl) ?_
  try simp only [up_same, up_up, up_ne, pt_lt, Nat.reduceLT, ne_eq, Nat.reduceEqDiff, not_false_eq_true, Int.reduceToNat, Int.toNat_natCast]
  refine wp_aast (n := 104) K dX6_init_103 rfl rfl (li0 rfl) (fun _ => rfl) ⟨by decide, by decide, by decide⟩ rfl (li0 rfl) ?_
  try simp only [up_same, up_up, up_ne, pt_lt, Nat.reduceLT, ne_eq, Nat.reduceEqDiff, not_false_eq_true, Int.reduceToNat, Int.toNat_natCast]
  refine wp_putR (n := 107) K dX6_init_104 rfl fl_X6_52 rfl (li0 rfl) (Or.inr ⟨rfl, rfl, fk_X6_52⟩) rfl rfl ?_
  try simp only [up_same, up_up, up_ne, pt_lt, Nat.reduceLT, ne_eq, Nat.reduceEqDiff, not_false_eq_true, Int.reduceToNat, Int.toNat_natCast]
  refine wp_aload_n (n := 108) K dX6_init_107 rfl rfl ?_
  refine wp_iconst (n := 109) K dX6_init_108 rfl ?_
  refine wp_putI (n := 112) K dX6_init_109 rfl fl_X6_56 rfl (li0 rfl) (Or.inl rfl) rfl rfl ?_
  try simp only [up_same, up_up, up_ne, pt_lt, Nat.reduceLT, ne_eq, Nat.reduceEqDiff, not_false_eq_true, Int.reduceToNat, Int.toNat_natCast]
  refine wp_aload_n (n := 113) K dX6_init_112 rfl rfl ?_
  refine wp_iconst (n := 114) K dX6_init_113 rfl ?_
  refine wp_putI (n := 117) K dX6_init_114 rfl fl_X6_60 rfl (li0 rfl) (Or.inl rfl) rfl rfl ?_
  try simp only [up_same, up_up, up_ne, pt_lt, Nat.reduceLT, ne_eq, Nat.reduceEqDiff, not_false_eq_true, Int.reduceToNat, Int.toNat_natCast]
  refine wp_aload_n (n := 118) K dX6_init_117 rfl rfl ?_
  refine wp_iconst (n := 119) K dX6_init_118 rfl ?_
  refine wp_putI (n := 122) K dX6_init_119 rfl fl_X6_63 rfl (li0 rfl) (Or.inl rfl) rfl rfl ?_
  try simp only [up_same, up_up, up_ne, pt_lt, Nat.reduceLT, ne_eq, Nat.reduceEqDiff, not_false_eq_true, Int.reduceToNat, Int.toNat_natCast]
  refine wp_aload_n (n := 123) K dX6_init_122 rfl rfl ?_
  refine wp_iconst (n := 124) K dX6_init_123 rfl ?_
  refine wp_putI (n := 127) K dX6_init_124 rfl fl_X6_66 rfl (li0 rfl) (Or.inl rfl) rfl rfl ?_
  try simp only [up_same, up_up, up_ne, pt_lt, Nat.reduceLT, ne_eq, Nat.reduceEqDiff, not_false_eq_true, Int.reduceToNat, Int.toNat_natCast]
  refine wp_vreturn K dX6_init_127 ⟨rfl, rfl, rfl, ?_⟩ ⟨by show c + 1 + 5 + 1 + 4 + 1 + 2 + 1 + 1 + 1 + 0 + 1 ≤ c + 18; omega, by show l + 6 + 60 + 5 + 40 + 3 + 16 + 3 + 660 + 5 + 0 + 4 ≤ l + 802; omega⟩
  funext a
  by_cases h : 17 ≤ a ∧ a < 36
  · rcases (show a = 17 ∨ a = 18 ∨ a = 19 ∨ a = 20 ∨ a = 21 ∨ a = 22 ∨ a = 23 ∨ a = 24 ∨ a = 25 ∨ a = 26 ∨ a = 27 ∨ a = 28 ∨ a = 29 ∨ a = 30 ∨ a = 31 ∨ a = 32 ∨ a = 33 ∨ a = 34 ∨ a = 35 by omega) with rfl | rfl | rfl | rfl | rfl | rfl | rfl | rfl | rfl | rfl | rfl | rfl | rfl | rfl | rfl | rfl | rfl | rfl | rfl <;> rfl
  · rw [pt_out h]
    repeat first | rw [up_ne _ _ (by omega)] | rw [pt_out (by omega)]
theorem i_X6_init_36 (c l : Nat) (M : MT) : Ct E0 yX6_init cX6_init 1 none rm_X6_init [.ref 36] (T1, 37, c, l) (up M 36 (fun _ => 0)) (P0 55 (pt M 36 55)) := by
  refine Ct.mk [.ref 36] (by decide) rfl (Nat.le_of_ble_eq_true rfl) (fun X K => ?_)
  refine wp_aload_n (n := 1) K dX6_init_0 rfl rfl ?_
  refine wp_objInit (n := 4) K dX6_init_1 rfl ol_X6_3 oi_i oi_c (by decide) (by decide) (Nat.le_of_ble_eq_true rfl) ?_
  refine wp_aload_n (n := 5) K dX6_init_4 rfl rfl ?_
  refine wp_new0 (n := 8) (k := 37) (k1 := 38) K dX6_init_5 rfl ck8 cl_X6_9 inst_X8 ini_X8 (by decide) rfl rfl ⟨by show c + 1 ≤ c + 18; omega, by show l + 6 ≤ l + 802; omega⟩ ?_
  refine wp_dup (n := 9) K dX6_init_8 rfl rfl ?_
  refine wp_invI0 (n := 12) (k1 := 43) K dX6_init_9 rfl cf_X6_11 (by decide) (i_X8_init_37 _ _ _) rfl rfl (by decide) ⟨by show c + 1 + 5 ≤ c + 18; omega, by show l + 6 + 60 ≤ l + 802; omega⟩ (Nat.le_of_ble_eq_true rfl) ?_
  refine wp_putR (n := 15) K dX6_init_12 rfl fl_X6_12 rfl (li0 rfl) (Or.inr ⟨rfl, rfl, fk_X6_12⟩) rfl rfl ?_
  try simp only [up_same, up_up, up_ne, pt_lt, Nat.reduceLT, ne_eq, Nat.reduceEqDiff, not_false_eq_true, Int.reduceToNat, Int.toNat_natCast]
  refine wp_aload_n (n := 16) K dX6_init_15 rfl rfl ?_
  refine wp_new0 (n := 19) (k := 43) (k1 := 44) K dX6_init_16 rfl ck1 cl_X6_18 inst_X1 ini_X1 (by decide) rfl rfl ⟨by show c + 1 + 5 + 1 ≤ c + 18; omega, by show l + 6 + 60 + 5 ≤ l + 802; omega⟩ ?_
  refine wp_dup (n := 20) K dX6_init_19 rfl rfl ?_
  refine wp_invI0 (n := 23) (k1 := 48) K dX6_init_20 rfl cf_X6_20 (by decide) (i_X1_init_43 _ _ _) rfl rfl (by decide) ⟨by show c + 1 + 5 + 1 + 4 ≤ c + 18; omega, by show l + 6 + 60 + 5 + 40 ≤ l + 802; omega⟩ (Nat.le_of_ble_eq_true rfl) ?_
  refine wp_putR (n := 26) K dX6_init_23 rfl fl_X6_21 rfl (li0 rfl) (Or.inr ⟨rfl, rfl, fk_X6_21⟩) rfl rfl ?_
  try simp only [up_same, up_up, up_ne, pt_lt, Nat.reduceLT, ne_eq, Nat.reduceEqDiff, not_false_eq_true, Int.reduceToNat, Int.toNat_natCast]
  refine wp_aload_n (n := 27) K dX6_init_26 rfl rfl ?_
  refine wp_new0 (n := 30) (k := 48) (k1 := 49) K dX6_init_27 rfl ck5 cl_X6_25 inst_X5 ini_X5 (by decide) rfl rfl ⟨by show c + 1 + 5 + 1 + 4 + 1 ≤ c + 18; omega, by show l + 6 + 60 + 5 + 40 + 3 ≤ l + 802; omega⟩ ?_
  refine wp_dup (n := 31) K dX6_init_30 rfl rfl ?_
  refine wp_invI0 (n := 34) (k1 := 51) K dX6_init_31 rfl cf_X6_27 (by decide) (i_X5_init_48 _ _ _) rfl rfl (by decide) ⟨by show c + 1 + 5 + 1 + 4 + 1 + 2 ≤ c + 18; omega, by show l + 6 + 60 + 5 + 40 + 3 + 16 ≤ l + 802; omega⟩ (Nat.le_of_ble_eq_true rfl) ?_
  refine wp_putR (n := 37) K dX6_init_34 rfl fl_X6_28 rfl (li0 rfl) (Or.inr ⟨rfl, rfl, fk_X6_28⟩) rfl rfl ?_
  try simp only [up_same, up_up, up_ne, pt_lt, Nat.reduceLT, ne_eq, Nat.reduceEqDiff, not_false_eq_true, Int.reduceToNat, Int.toNat_natCast]
  refine wp_aload_n (n := 38) K dX6_init_37 rfl rfl ?_
  refine wp_new0 (n := 41) (k := 51) (k1 := 52) K dX6_init_38 rfl ck7 cl_X6_32 inst_X7 ini_X7 (by decide) rfl rfl ⟨by show c + 1 + 5 + 1 + 4 + 1 + 2 + 1 ≤ c + 18; omega, by show l + 6 + 60 + 5 + 40 + 3 + 16 + 3 ≤ l + 802; omega⟩ ?_
  refine wp_dup (n := 42) K dX6_init_41 rfl rfl ?_
  refine wp_invI0 (n := 45) (k1 := 53) K dX6_init_42 rfl cf_X6_34 (by decide) (i_X7_init_51 _ _ _) rfl rfl (by decide) ⟨by show c + 1 + 5 + 1 + 4 + 1 + 2 + 1 + 1 ≤ c + 18; omega, by show l + 6 + 60 + 5 + 40 + 3 + 16 + 3 + 660 ≤ l + 802; omega⟩ (Nat.le_of_ble_eq_true rfl) ?_
  refine wp_putR (n := 48) K dX6_init_45 rfl fl_X6_35 rfl (li0 rfl) (Or.inr ⟨rfl, rfl, fk_X6_35⟩) rfl rfl ?_
  try simp only [up_same, up_up, up_ne, pt_lt, Nat.reduceLT, ne_eq, Nat.reduceEqDiff, not_false_eq_true, Int.reduceToNat, Int.toNat_natCast]
  refine wp_aload_n (n := 49) K dX6_init_48 rfl rfl ?_
  refine wp_new0 (n := 52) (k := 53) (k1 := 54) K dX6_init_49 rfl ck10 cl_X6_39 inst_X10 ini_X10 (by decide) rfl rfl ⟨by show c + 1 + 5 + 1 + 4 + 1 + 2 + 1 + 1 + 1 ≤ c + 18; omega, by show l + 6 + 60 + 5 + 40 + 3 + 16 + 3 + 660 + 5 ≤ l + 802; omega⟩ ?_
  refine wp_dup (n := 53) K dX6_init_52 rfl rfl ?_
  refine wp_getNC (n := 56) K dX6_init_53 rfl nc_X6_41 ?_
  refine wp_getNC (n := 59) K dX6_init_56 rfl nc_X6_41 ?_
  refine wp_getNC (n := 62) K dX6_init_59 rfl nc_X6_41 ?_
  refine wp_getNC (n := 65) K dX6_init_62 rfl nc_X6_41 ?_
  refine wp_invI0 (n := 68) (k1 := 54) K dX6_init_65 rfl cf_X6_45 (by decide) (i_X10_init_53 _ _ _) rfl rfl (by decide) ⟨by show c + 1 + 5 + 1 + 4 + 1 + 2 + 1 + 1 + 1 + 0 ≤ c + 18; omega, by show l + 6 + 60 + 5 + 40 + 3 + 16 + 3 + 660 + 5 + 0 ≤ l + 802; omega⟩ (Nat.le_of_ble_eq_true rfl) ?_
  refine wp_putR (n := 71) K dX6_init_68 rfl fl_X6_48 rfl (li0 rfl) (Or.inr ⟨rfl, rfl, fk_X6_48⟩) rfl rfl ?_
  try simp only [up_same, up_up, up_ne, pt_lt, Nat.reduceLT, ne_eq, Nat.reduceEqDiff, not_false_eq_true, Int.reduceToNat, Int.toNat_natCast]
  refine wp_aload_n (n := 72) K dX6_init_71 rfl rfl ?_
  refine wp_iconst (n := 73) K dX6_init_72 rfl ?_
  refine wp_anew0 (n := 76) (k := 54) (k1 := 55) (m := 4) K dX6_init_73 rfl cl_X6_39 ar_over ⟨by decide, by decide⟩ rfl rfl rfl ⟨by show c + 1 + 5 + 1 + 4 + 1 + 2 + 1 + 1 + 1 + 0 + 1 ≤ c + 18; omega, by show l + 6 + 60 + 5 + 40 + 3 + 16 + 3 + 660 + 5 + 0 + 4 ≤ l + 802; omega⟩ ?_
  refine wp_dup (n := 77) K dX6_init_76 rfl rfl ?_
  refine wp_iconst (n := 78) K dX6_init_77 rfl ?_
  refine wp_aload_n (n := 79) K dX6_init_78 rfl rfl ?_
  refine wp_getD (n := 82) K dX6_init_79 rfl fl_X6_48 rfl (li0 rfl) rfl (show _ = ((53 : Nat) : Int) from rfl) ?_
  try simp only [up_same, up_up, up_ne, pt_lt, Nat.reduceLT, ne_eq, Nat.reduceEqDiff, not_false_eq_true, Int.reduceToNat, Int.toNat_natCast]
  refine wp_aast (n := 83) K dX6_init_82 rfl rfl (li0 rfl) (fun _ => rfl) ⟨by decide, by decide, by decide⟩ rfl (li0 rfl) ?_
  try simp only [up_same, up_up, up_ne, pt_lt, Nat.reduceLT, ne_eq, Nat.reduceEqDiff, not_false_eq_true, Int.reduceToNat, Int.toNat_natCast]
  refine wp_dup (n := 84) K dX6_init_83 rfl rfl ?_
  refine wp_iconst (n := 85) K dX6_init_84 rfl ?_
  refine wp_aload_n (n := 86) K dX6_init_85 rfl rfl ?_
  refine wp_getD (n := 89) K dX6_init_86 rfl fl_X6_48 rfl (li0 rfl) rfl (show _ = ((53 : Nat) : Int) from rfl) ?_
  try simp only [up_same, up_up, up_ne, pt_lt, Nat.reduceLT, ne_eq, Nat.reduceEqDiff, not_false_eq_true, Int.reduceToNat, Int.toNat_natCast]
  refine wp_aast (n := 90) K dX6_init_89 rfl rfl (li0 rfl) (fun _ => rfl) ⟨by decide, by decide, by decide⟩ rfl (li0 rfl) ?_
  try simp only [up_same, up_up, up_ne, pt_lt, Nat.reduceLT, ne_eq, Nat.reduceEqDiff, not_false_eq_true, Int.reduceToNat, Int.toNat_natCast]
  refine wp_dup (n := 91) K dX6_init_90 rfl rfl ?_
  refine wp_iconst (n := 92) K dX6_init_91 rfl ?_
  refine wp_aload_n (n := 93) K dX6_init_92 rfl rfl ?_
  refine wp_getD (n := 96) K dX6_init_93 rfl fl_X6_48 rfl (li0 rfl) rfl (show _ = ((53 : Nat) : Int) from rfl) ?_
  try simp only [up_same, up_up, up_ne, pt_lt, Nat.reduceLT, ne_eq, Nat.reduceEqDiff, not_false_eq_true, Int.reduceToNat, Int.toNat_natCast]
  refine wp_aast (n := 97) K dX6_init_96 rfl rfl (li0 rfl) (fun _ => rfl) ⟨by decide, by decide, by decide⟩ rfl (li0 rfl) ?_
  try simp only [up_same, up_up, up_ne, pt_lt, Nat.reduceLT, ne_eq, Nat.reduceEqDiff, not_false_eq_true, Int.reduceToNat, Int.toNat_natCast]
  refine wp_dup (n := 98) K dX6_init_97 rfl rfl ?_
  refine wp_iconst (n := 99) K dX6_init_98 rfl ?_
  refine wp_aload_n (n := 100) K dX6_init_99 rfl rfl ?_
  refine wp_getD (n := 103) K dX6_init_100 rfl fl_X6_48 rfl (li0 rfl) rfl (show _ = ((53 : Nat) : Int) from rfl) ?_
  try simp only [up_same, up_up, up_ne, pt_lt, Nat.reduceLT, ne_eq, Nat.reduceEqDiff, not_false_eq_true, Int.reduceToNat, Int.toNat_natCast]
  refine wp_aast (n := 104) K dX6_init_103 rfl rfl (li0 rfl) (fun _ => rfl) ⟨by decide, by decide, by decide⟩ rfl (li0 rfl) ?_
  try simp only [up_same, up_up, up_ne, pt_lt, Nat.reduceLT, ne_eq, Nat.reduceEqDiff, not_false_eq_true, Int.reduceToNat, Int.toNat_natCast]
  refine wp_putR (n := 107) K dX6_init_104 rfl fl_X6_52 rfl (li0 rfl) (Or.inr ⟨rfl, rfl, fk_X6_52⟩) rfl rfl ?_
  try simp only [up_same, up_up, up_ne, pt_lt, Nat.reduceLT, ne_eq, Nat.reduceEqDiff, not_false_eq_true, Int.reduceToNat, Int.toNat_natCast]
  refine wp_aload_n (n := 108) K dX6_init_107 rfl rfl ?_
  refine wp_iconst (n := 109) K dX6_init_108 rfl ?_
  refine wp_putI (n := 112) K dX6_init_109 rfl fl_X6_56 rfl (li0 rfl) (Or.inl rfl) rfl rfl ?_
  try simp only [up_same, up_up, up_ne, pt_lt, Nat.reduceLT, ne_eq, Nat.reduceEqDiff, not_false_eq_true, Int.reduceToNat, Int.toNat_natCast]
  refine wp_aload_n (n := 113) K dX6_init_112 rfl rfl ?_
  refine wp_iconst (n := 114) K dX6_init_113 rfl ?_
  refine wp_putI (n := 117) K dX6_init_114 rfl fl_X6_60 rfl (li0 rfl) (Or.inl rfl) rfl rfl ?_
  try simp only [up_same, up_up, up_ne, pt_lt, Nat.reduceLT, ne_eq, Nat.reduceEqDiff, not_false_eq_true, Int.reduceToNat, Int.toNat_natCast]
  refine wp_aload_n (n := 118) K dX6_init_117 rfl rfl ?_
  refine wp_iconst (n := 119) K dX6_init_118 rfl ?_
  refine wp_putI (n := 122) K dX6_init_119 rfl fl_X6_63 rfl (li0 rfl) (Or.inl rfl) rfl rfl ?_
  try simp only [up_same, up_up, up_ne, pt_lt, Nat.reduceLT, ne_eq, Nat.reduceEqDiff, not_false_eq_true, Int.reduceToNat, Int.toNat_natCast]
  refine wp_aload_n (n := 123) K dX6_init_122 rfl rfl ?_
  refine wp_iconst (n := 124) K dX6_init_123 rfl ?_
  refine wp_putI (n := 127) K dX6_init_124 rfl fl_X6_66 rfl (li0 rfl) (Or.inl rfl) rfl rfl ?_
  try simp only [up_same, up_up, up_ne, pt_lt, Nat.reduceLT, ne_eq, Nat.reduceEqDiff, not_false_eq_true, Int.reduceToNat, Int.toNat_natCast]
  refine wp_vreturn K dX6_init_127 ⟨rfl, rfl, rfl, ?_⟩ ⟨by show c + 1 + 5 + 1 + 4 + 1 + 2 + 1 + 1 + 1 + 0 + 1 ≤ c + 18; omega, by show l + 6 + 60 + 5 + 40 + 3 + 16 + 3 + 660 + 5 + 0 + 4 ≤ l + 802; omega⟩
  funext a
  by_cases h : 36 ≤ a ∧ a < 55
  · rcases (show a = 36 ∨ a = 37 ∨ a = 38 ∨ a = 39 ∨ a = 40 ∨ a = 41 ∨ a = 42 ∨ a = 43 ∨ a = 44 ∨ a = 45 ∨ a = 46 ∨ a = 47 ∨ a = 48 ∨ a = 49 ∨ a = 50 ∨ a = 51 ∨ a = 52 ∨ a = 53 ∨ a = 54 by omega) with rfl | rfl | rfl | rfl | rfl | rfl | rfl | rfl | rfl | rfl | rfl | rfl | rfl | rfl | rfl | rfl | rfl | rfl | rfl <;> rfl
  · rw [pt_out h]
    repeat first | rw [up_ne _ _ (by omega)] | rw [pt_out (by omega)]
theorem i_X11_init_16 (c l : Nat) (M : MT) : Ct E0 yX11_init cX11_init 1 none rm_X11_init [.ref 16] (T1, 17, c, l) (up M 16 (fun _ => 0)) (P0 77 (pt M 16 77)) := by
  refine Ct.mk [.ref 16] (by decide) rfl (Nat.le_of_ble_eq_true rfl) (fun X K => ?_)
  refine wp_aload_n (n := 1) K dX11_init_0 rfl rfl ?_
  refine wp_objInit (n := 4) K dX11_init_1 rfl ol_X11_3 oi_i oi_c (by decide) (by decide) (Nat.le_of_ble_eq_true rfl) ?_
  refine wp_aload_n (n := 5) K dX11_init_4 rfl rfl ?_
  refine wp_new0 (n := 8) (k := 17) (k1 := 18) K dX11_init_5 rfl ck6 cl_X11_9 inst_X6 ini_X6 (by decide) rfl rfl ⟨by show c + 1 ≤ c + 60; omega, by show l + 10 ≤ l + 12701; omega⟩ ?_
  refine wp_dup (n := 9) K dX11_init_8 rfl rfl ?_
  refine wp_invI0 (n := 12) (k1 := 36) K dX11_init_9 rfl cf_X11_11 (by decide) (i_X6_init_17 _ _ _) rfl rfl (by decide) ⟨by show c + 1 + 18 ≤ c + 60; omega, by show l + 10 + 802 ≤ l + 12701; omega⟩ (Nat.le_of_ble_eq_true rfl) ?_
  refine wp_putR (n := 15) K dX11_init_12 rfl fl_X11_12 rfl (li0 rfl) (Or.inr ⟨rfl, rfl, fk_X11_12⟩) rfl rfl ?_
  try simp only [up_same, up_up, up_ne, pt_lt, Nat.reduceLT, ne_eq, Nat.reduceEqDiff, not_false_eq_true, Int.reduceToNat, Int.toNat_natCast]
  refine wp_aload_n (n := 16) K dX11_init_15 rfl rfl ?_
  refine wp_new0 (n := 19) (k := 36) (k1 := 37) K dX11_init_16 rfl ck6 cl_X11_9 inst_X6 ini_X6 (by decide) rfl rfl ⟨by show c + 1 + 18 + 1 ≤ c + 60; omega, by show l + 10 + 802 + 10 ≤ l + 12701; omega⟩ ?_
  refine wp_dup (n := 20) K dX11_init_19 rfl rfl ?_
  refine wp_invI0 (n := 23) (k1 := 55) K dX11_init_20 rfl cf_X11_11 (by decide) (i_X6_init_36 _ _ _) rfl rfl (by decide) ⟨by show c + 1 + 18 + 1 + 18 ≤ c + 60; omega, by show l + 10 + 802 + 10 + 802 ≤ l + 12701; omega⟩ (Nat.le_of_ble_eq_true rfl) ?_
  refine wp_putR (n := 26) K dX11_init_23 rfl fl_X11_16 rfl (li0 rfl) (Or.inr ⟨rfl, rfl, fk_X11_16⟩) rfl rfl ?_
  try simp only [up_same, up_up, up_ne, pt_lt, Nat.reduceLT, ne_eq, Nat.reduceEqDiff, not_false_eq_true, Int.reduceToNat, Int.toNat_natCast]
  refine wp_aload_n (n := 27) K dX11_init_26 rfl rfl ?_
  refine wp_new0 (n := 30) (k := 55) (k1 := 56) K dX11_init_27 rfl ck9 cl_X11_19 inst_X9 ini_X9 (by decide) rfl rfl ⟨by show c + 1 + 18 + 1 + 18 + 1 ≤ c + 60; omega, by show l + 10 + 802 + 10 + 802 + 8 ≤ l + 12701; omega⟩ ?_
  refine wp_dup (n := 31) K dX11_init_30 rfl rfl ?_
  refine wp_invI0 (n := 34) (k1 := 60) K dX11_init_31 rfl cf_X11_21 (by decide) (i_X9_init_55 _ _ _) rfl rfl (by decide) ⟨by show c + 1 + 18 + 1 + 18 + 1 + 4 ≤ c + 60; omega, by show l + 10 + 802 + 10 + 802 + 8 + 1203 ≤ l + 12701; omega⟩ (Nat.le_of_ble_eq_true rfl) ?_
  refine wp_putR (n := 37) K dX11_init_34 rfl fl_X11_22 rfl (li0 rfl) (Or.inr ⟨rfl, rfl, fk_X11_22⟩) rfl rfl ?_
  try simp only [up_same, up_up, up_ne, pt_lt, Nat.reduceLT, ne_eq, Nat.reduceEqDiff, not_false_eq_true, Int.reduceToNat, Int.toNat_natCast]
  refine wp_aload_n (n := 38) K dX11_init_37 rfl rfl ?_
  refine wp_new0 (n := 41) (k := 60) (k1 := 61) K dX11_init_38 rfl ck4 cl_X11_26 inst_X4 ini_X4 (by decide) rfl rfl ⟨by show c + 1 + 18 + 1 + 18 + 1 + 4 + 1 ≤ c + 60; omega, by show l + 10 + 802 + 10 + 802 + 8 + 1203 + 17 ≤ l + 12701; omega⟩ ?_
  refine wp_dup (n := 42) K dX11_init_41 rfl rfl ?_
  refine wp_invI0 (n := 45) (k1 := 64) K dX11_init_42 rfl cf_X11_28 (by decide) (i_X4_init_60 _ _ _) rfl rfl (by decide) ⟨by show c + 1 + 18 + 1 + 18 + 1 + 4 + 1 + 3 ≤ c + 60; omega, by show l + 10 + 802 + 10 + 802 + 8 + 1203 + 17 + 412 ≤ l + 12701; omega⟩ (Nat.le_of_ble_eq_true rfl) ?_
  refine wp_putR (n := 48) K dX11_init_45 rfl fl_X11_29 rfl (li0 rfl) (Or.inr ⟨rfl, rfl, fk_X11_29⟩) rfl rfl ?_
  try simp only [up_same, up_up, up_ne, pt_lt, Nat.reduceLT, ne_eq, Nat.reduceEqDiff, not_false_eq_true, Int.reduceToNat, Int.toNat_natCast]
  refine wp_aload_n (n := 49) K dX11_init_48 rfl rfl ?_
  refine wp_new0 (n := 52) (k := 64) (k1 := 65) K dX11_init_49 rfl ck2 cl_X11_33 inst_X2 ini_X2 (by decide) rfl rfl ⟨by show c + 1 + 18 + 1 + 18 + 1 + 4 + 1 + 3 + 1 ≤ c + 60; omega, by show l + 10 + 802 + 10 + 802 + 8 + 1203 + 17 + 412 + 2 ≤ l + 12701; omega⟩ ?_
  refine wp_dup (n := 53) K dX11_init_52 rfl rfl ?_
  refine wp_invI0 (n := 56) (k1 := 67) K dX11_init_53 rfl cf_X11_35 (by decide) (i_X2_init_64 _ _ _) rfl rfl (by decide) ⟨by show c + 1 + 18 + 1 + 18 + 1 + 4 + 1 + 3 + 1 + 2 ≤ c + 60; omega, by show l + 10 + 802 + 10 + 802 + 8 + 1203 + 17 + 412 + 2 + 48 ≤ l + 12701; omega⟩ (Nat.le_of_ble_eq_true rfl) ?_
  refine wp_putR (n := 59) K dX11_init_56 rfl fl_X11_36 rfl (li0 rfl) (Or.inr ⟨rfl, rfl, fk_X11_36⟩) rfl rfl ?_
  try simp only [up_same, up_up, up_ne, pt_lt, Nat.reduceLT, ne_eq, Nat.reduceEqDiff, not_false_eq_true, Int.reduceToNat, Int.toNat_natCast]
  refine wp_aload_n (n := 60) K dX11_init_59 rfl rfl ?_
  refine wp_new0 (n := 63) (k := 67) (k1 := 68) K dX11_init_60 rfl ck3 cl_X11_40 inst_X3 ini_X3 (by decide) rfl rfl ⟨by show c + 1 + 18 + 1 + 18 + 1 + 4 + 1 + 3 + 1 + 2 + 1 ≤ c + 60; omega, by show l + 10 + 802 + 10 + 802 + 8 + 1203 + 17 + 412 + 2 + 48 + 11 ≤ l + 12701; omega⟩ ?_
  refine wp_dup (n := 64) K dX11_init_63 rfl rfl ?_
  refine wp_invI0 (n := 67) (k1 := 74) K dX11_init_64 rfl cf_X11_42 (by decide) (i_X3_init_67 _ _ _) rfl rfl (by decide) ⟨by show c + 1 + 18 + 1 + 18 + 1 + 4 + 1 + 3 + 1 + 2 + 1 + 6 ≤ c + 60; omega, by show l + 10 + 802 + 10 + 802 + 8 + 1203 + 17 + 412 + 2 + 48 + 11 + 7326 ≤ l + 12701; omega⟩ (Nat.le_of_ble_eq_true rfl) ?_
  refine wp_putR (n := 70) K dX11_init_67 rfl fl_X11_43 rfl (li0 rfl) (Or.inr ⟨rfl, rfl, fk_X11_43⟩) rfl rfl ?_
  try simp only [up_same, up_up, up_ne, pt_lt, Nat.reduceLT, ne_eq, Nat.reduceEqDiff, not_false_eq_true, Int.reduceToNat, Int.toNat_natCast]
  refine wp_aload_n (n := 71) K dX11_init_70 rfl rfl ?_
  refine wp_new0 (n := 74) (k := 74) (k1 := 75) K dX11_init_71 rfl ck0 cl_X11_47 inst_X0 ini_X0 (by decide) rfl rfl ⟨by show c + 1 + 18 + 1 + 18 + 1 + 4 + 1 + 3 + 1 + 2 + 1 + 6 + 1 ≤ c + 60; omega, by show l + 10 + 802 + 10 + 802 + 8 + 1203 + 17 + 412 + 2 + 48 + 11 + 7326 + 2 ≤ l + 12701; omega⟩ ?_
  refine wp_dup (n := 75) K dX11_init_74 rfl rfl ?_
  refine wp_invI0 (n := 78) (k1 := 77) K dX11_init_75 rfl cf_X11_49 (by decide) (i_X0_init_74 _ _ _) rfl rfl (by decide) ⟨by show c + 1 + 18 + 1 + 18 + 1 + 4 + 1 + 3 + 1 + 2 + 1 + 6 + 1 + 2 ≤ c + 60; omega, by show l + 10 + 802 + 10 + 802 + 8 + 1203 + 17 + 412 + 2 + 48 + 11 + 7326 + 2 + 2048 ≤ l + 12701; omega⟩ (Nat.le_of_ble_eq_true rfl) ?_
  refine wp_putR (n := 81) K dX11_init_78 rfl fl_X11_50 rfl (li0 rfl) (Or.inr ⟨rfl, rfl, fk_X11_50⟩) rfl rfl ?_
  try simp only [up_same, up_up, up_ne, pt_lt, Nat.reduceLT, ne_eq, Nat.reduceEqDiff, not_false_eq_true, Int.reduceToNat, Int.toNat_natCast]
  refine wp_aload_n (n := 82) K dX11_init_81 rfl rfl ?_
  refine wp_iconst (n := 83) K dX11_init_82 rfl ?_
  refine wp_putZ (n := 86) K dX11_init_83 rfl fl_X11_54 rfl (li0 rfl) (Or.inl rfl) rfl rfl (by first | exact Or.inl rfl | exact Or.inr rfl) ?_
  try simp only [up_same, up_up, up_ne, pt_lt, Nat.reduceLT, ne_eq, Nat.reduceEqDiff, not_false_eq_true, Int.reduceToNat, Int.toNat_natCast]
  refine wp_aload_n (n := 87) K dX11_init_86 rfl rfl ?_
  refine wp_iconst (n := 88) K dX11_init_87 rfl ?_
  refine wp_putI (n := 91) K dX11_init_88 rfl fl_X11_58 rfl (li0 rfl) (Or.inl rfl) rfl rfl ?_
  try simp only [up_same, up_up, up_ne, pt_lt, Nat.reduceLT, ne_eq, Nat.reduceEqDiff, not_false_eq_true, Int.reduceToNat, Int.toNat_natCast]
  refine wp_aload_n (n := 92) K dX11_init_91 rfl rfl ?_
  refine wp_iconst (n := 93) K dX11_init_92 rfl ?_
  refine wp_putI (n := 96) K dX11_init_93 rfl fl_X11_62 rfl (li0 rfl) (Or.inl rfl) rfl rfl ?_
  try simp only [up_same, up_up, up_ne, pt_lt, Nat.reduceLT, ne_eq, Nat.reduceEqDiff, not_false_eq_true, Int.reduceToNat, Int.toNat_natCast]
  refine wp_vreturn K dX11_init_96 ⟨rfl, rfl, rfl, ?_⟩ ⟨by show c + 1 + 18 + 1 + 18 + 1 + 4 + 1 + 3 + 1 + 2 + 1 + 6 + 1 + 2 ≤ c + 60; omega, by show l + 10 + 802 + 10 + 802 + 8 + 1203 + 17 + 412 + 2 + 48 + 11 + 7326 + 2 + 2048 ≤ l + 12701; omega⟩
  funext a
  by_cases h : 16 ≤ a ∧ a < 77
  · rcases (show a = 16 ∨ a = 17 ∨ a = 18 ∨ a = 19 ∨ a = 20 ∨ a = 21 ∨ a = 22 ∨ a = 23 ∨ a = 24 ∨ a = 25 ∨ a = 26 ∨ a = 27 ∨ a = 28 ∨ a = 29 ∨ a = 30 ∨ a = 31 ∨ a = 32 ∨ a = 33 ∨ a = 34 ∨ a = 35 ∨ a = 36 ∨ a = 37 ∨ a = 38 ∨ a = 39 ∨ a = 40 ∨ a = 41 ∨ a = 42 ∨ a = 43 ∨ a = 44 ∨ a = 45 ∨ a = 46 ∨ a = 47 ∨ a = 48 ∨ a = 49 ∨ a = 50 ∨ a = 51 ∨ a = 52 ∨ a = 53 ∨ a = 54 ∨ a = 55 ∨ a = 56 ∨ a = 57 ∨ a = 58 ∨ a = 59 ∨ a = 60 ∨ a = 61 ∨ a = 62 ∨ a = 63 ∨ a = 64 ∨ a = 65 ∨ a = 66 ∨ a = 67 ∨ a = 68 ∨ a = 69 ∨ a = 70 ∨ a = 71 ∨ a = 72 ∨ a = 73 ∨ a = 74 ∨ a = 75 ∨ a = 76 by omega) with rfl | rfl | rfl | rfl | rfl | rfl | rfl | rfl | rfl | rfl | rfl | rfl | rfl | rfl | rfl | rfl | rfl | rfl | rfl | rfl | rfl | rfl | rfl | rfl | rfl | rfl | rfl | rfl | rfl | rfl | rfl | rfl | rfl | rfl | rfl | rfl | rfl | rfl | rfl | rfl | rfl | rfl | rfl | rfl | rfl | rfl | rfl | rfl | rfl | rfl | rfl | rfl | rfl | rfl | rfl | rfl | rfl | rfl | rfl | rfl | rfl <;> rfl
  · rw [pt_out h]
    repeat first | rw [up_ne _ _ (by omega)] | rw [pt_out (by omega)]
theorem i_X12_init_77 (c l : Nat) (M : MT) : Ct E0 yX12_init cX12_init 1 none rm_X12_init [.ref 77] (T1, 78, c, l) (up M 77 (fun _ => 0)) (P0 91 (pt M 77 91)) := by
  refine Ct.mk [.ref 77] (by decide) rfl (Nat.le_of_ble_eq_true rfl) (fun X K => ?_)
  refine wp_aload_n (n := 1) K dX12_init_0 rfl rfl ?_
  refine wp_objInit (n := 4) K dX12_init_1 rfl ol_X12_1 oi_i oi_c (by decide) (by decide) (Nat.le_of_ble_eq_true rfl) ?_
  refine wp_aload_n (n := 5) K dX12_init_4 rfl rfl ?_
  refine wp_sipush (n := 8) K dX12_init_5 rfl rfl ?_
  refine wp_newa0 (n := 10) (kk := 0) (k := 78) (k1 := 79) (m := 780) K dX12_init_8 rfl (by decide) rfl ar_int ⟨by decide, by decide⟩ rfl rfl rfl ⟨by show c + 1 ≤ c + 13; omega, by show l + 780 ≤ l + 18730; omega⟩ ?_
  refine wp_putR (n := 13) K dX12_init_10 rfl fl_X12_7 rfl (li0 rfl) (Or.inr ⟨rfl, rfl, fk_X12_7⟩) rfl rfl ?_
  try simp only [up_same, up_up, up_ne, pt_lt, Nat.reduceLT, ne_eq, Nat.reduceEqDiff, not_false_eq_true, Int.reduceToNat, Int.toNat_natCast]
  refine wp_aload_n (n := 14) K dX12_init_13 rfl rfl ?_
  refine wp_sipush (n := 17) K dX12_init_14 rfl rfl ?_
  refine wp_newa0 (n := 19) (kk := 0) (k := 79) (k1 := 80) (m := 780) K dX12_init_17 rfl (by decide) rfl ar_int ⟨by decide, by decide⟩ rfl rfl rfl ⟨by show c + 1 + 1 ≤ c + 13; omega, by show l + 780 + 780 ≤ l + 18730; omega⟩ ?_
  refine wp_putR (n := 22) K dX12_init_19 rfl fl_X12_13 rfl (li0 rfl) (Or.inr ⟨rfl, rfl, fk_X12_13⟩) rfl rfl ?_
  try simp only [up_same, up_up, up_ne, pt_lt, Nat.reduceLT, ne_eq, Nat.reduceEqDiff, not_false_eq_true, Int.reduceToNat, Int.toNat_natCast]
  refine wp_aload_n (n := 23) K dX12_init_22 rfl rfl ?_
  refine wp_sipush (n := 26) K dX12_init_23 rfl rfl ?_
  refine wp_newa0 (n := 28) (kk := 0) (k := 80) (k1 := 81) (m := 2720) K dX12_init_26 rfl (by decide) rfl ar_int ⟨by decide, by decide⟩ rfl rfl rfl ⟨by show c + 1 + 1 + 1 ≤ c + 13; omega, by show l + 780 + 780 + 2720 ≤ l + 18730; omega⟩ ?_
  refine wp_putR (n := 31) K dX12_init_28 rfl fl_X12_16 rfl (li0 rfl) (Or.inr ⟨rfl, rfl, fk_X12_16⟩) rfl rfl ?_
  try simp only [up_same, up_up, up_ne, pt_lt, Nat.reduceLT, ne_eq, Nat.reduceEqDiff, not_false_eq_true, Int.reduceToNat, Int.toNat_natCast]
  refine wp_aload_n (n := 32) K dX12_init_31 rfl rfl ?_
  refine wp_sipush (n := 35) K dX12_init_32 rfl rfl ?_
  refine wp_newa0 (n := 37) (kk := 0) (k := 81) (k1 := 82) (m := 300) K dX12_init_35 rfl (by decide) rfl ar_int ⟨by decide, by decide⟩ rfl rfl rfl ⟨by show c + 1 + 1 + 1 + 1 ≤ c + 13; omega, by show l + 780 + 780 + 2720 + 300 ≤ l + 18730; omega⟩ ?_
  refine wp_putR (n := 40) K dX12_init_37 rfl fl_X12_19 rfl (li0 rfl) (Or.inr ⟨rfl, rfl, fk_X12_19⟩) rfl rfl ?_
  try simp only [up_same, up_up, up_ne, pt_lt, Nat.reduceLT, ne_eq, Nat.reduceEqDiff, not_false_eq_true, Int.reduceToNat, Int.toNat_natCast]
  refine wp_aload_n (n := 41) K dX12_init_40 rfl rfl ?_
  refine wp_iconst (n := 42) K dX12_init_41 rfl ?_
  refine wp_putI (n := 45) K dX12_init_42 rfl fl_X12_22 rfl (li0 rfl) (Or.inl rfl) rfl rfl ?_
  try simp only [up_same, up_up, up_ne, pt_lt, Nat.reduceLT, ne_eq, Nat.reduceEqDiff, not_false_eq_true, Int.reduceToNat, Int.toNat_natCast]
  refine wp_aload_n (n := 46) K dX12_init_45 rfl rfl ?_
  refine wp_iconst (n := 47) K dX12_init_46 rfl ?_
  refine wp_putI (n := 50) K dX12_init_47 rfl fl_X12_26 rfl (li0 rfl) (Or.inl rfl) rfl rfl ?_
  try simp only [up_same, up_up, up_ne, pt_lt, Nat.reduceLT, ne_eq, Nat.reduceEqDiff, not_false_eq_true, Int.reduceToNat, Int.toNat_natCast]
  refine wp_aload_n (n := 51) K dX12_init_50 rfl rfl ?_
  refine wp_sipush (n := 54) K dX12_init_51 rfl rfl ?_
  refine wp_newa0 (n := 56) (kk := 0) (k := 82) (k1 := 83) (m := 160) K dX12_init_54 rfl (by decide) rfl ar_int ⟨by decide, by decide⟩ rfl rfl rfl ⟨by show c + 1 + 1 + 1 + 1 + 1 ≤ c + 13; omega, by show l + 780 + 780 + 2720 + 300 + 160 ≤ l + 18730; omega⟩ ?_
  refine wp_putR (n := 59) K dX12_init_56 rfl fl_X12_29 rfl (li0 rfl) (Or.inr ⟨rfl, rfl, fk_X12_29⟩) rfl rfl ?_
  try simp only [up_same, up_up, up_ne, pt_lt, Nat.reduceLT, ne_eq, Nat.reduceEqDiff, not_false_eq_true, Int.reduceToNat, Int.toNat_natCast]
  refine wp_aload_n (n := 60) K dX12_init_59 rfl rfl ?_
  refine wp_bipush (n := 62) K dX12_init_60 rfl rfl ?_
  refine wp_newa0 (n := 64) (kk := 0) (k := 83) (k1 := 84) (m := 8) K dX12_init_62 rfl (by decide) rfl ar_int ⟨by decide, by decide⟩ rfl rfl rfl ⟨by show c + 1 + 1 + 1 + 1 + 1 + 1 ≤ c + 13; omega, by show l + 780 + 780 + 2720 + 300 + 160 + 8 ≤ l + 18730; omega⟩ ?_
  refine wp_putR (n := 67) K dX12_init_64 rfl fl_X12_32 rfl (li0 rfl) (Or.inr ⟨rfl, rfl, fk_X12_32⟩) rfl rfl ?_
  try simp only [up_same, up_up, up_ne, pt_lt, Nat.reduceLT, ne_eq, Nat.reduceEqDiff, not_false_eq_true, Int.reduceToNat, Int.toNat_natCast]
  refine wp_aload_n (n := 68) K dX12_init_67 rfl rfl ?_
  refine wp_sipush (n := 71) K dX12_init_68 rfl rfl ?_
  refine wp_newa0 (n := 73) (kk := 3) (k := 84) (k1 := 85) (m := 330) K dX12_init_71 rfl (by decide) rfl ar_long ⟨by decide, by decide⟩ rfl rfl rfl ⟨by show c + 1 + 1 + 1 + 1 + 1 + 1 + 1 ≤ c + 13; omega, by show l + 780 + 780 + 2720 + 300 + 160 + 8 + 330 ≤ l + 18730; omega⟩ ?_
  refine wp_putR (n := 76) K dX12_init_73 rfl fl_X12_35 rfl (li0 rfl) (Or.inr ⟨rfl, rfl, fk_X12_35⟩) rfl rfl ?_
  try simp only [up_same, up_up, up_ne, pt_lt, Nat.reduceLT, ne_eq, Nat.reduceEqDiff, not_false_eq_true, Int.reduceToNat, Int.toNat_natCast]
  refine wp_aload_n (n := 77) K dX12_init_76 rfl rfl ?_
  refine wp_sipush (n := 80) K dX12_init_77 rfl rfl ?_
  refine wp_newa0 (n := 82) (kk := 2) (k := 85) (k1 := 86) (m := 330) K dX12_init_80 rfl (by decide) rfl ar_boolean ⟨by decide, by decide⟩ rfl rfl rfl ⟨by show c + 1 + 1 + 1 + 1 + 1 + 1 + 1 + 1 ≤ c + 13; omega, by show l + 780 + 780 + 2720 + 300 + 160 + 8 + 330 + 330 ≤ l + 18730; omega⟩ ?_
  refine wp_putR (n := 85) K dX12_init_82 rfl fl_X12_39 rfl (li0 rfl) (Or.inr ⟨rfl, rfl, fk_X12_39⟩) rfl rfl ?_
  try simp only [up_same, up_up, up_ne, pt_lt, Nat.reduceLT, ne_eq, Nat.reduceEqDiff, not_false_eq_true, Int.reduceToNat, Int.toNat_natCast]
  refine wp_aload_n (n := 86) K dX12_init_85 rfl rfl ?_
  refine wp_sipush (n := 89) K dX12_init_86 rfl rfl ?_
  refine wp_newa0 (n := 91) (kk := 2) (k := 86) (k1 := 87) (m := 4096) K dX12_init_89 rfl (by decide) rfl ar_boolean ⟨by decide, by decide⟩ rfl rfl rfl ⟨by show c + 1 + 1 + 1 + 1 + 1 + 1 + 1 + 1 + 1 ≤ c + 13; omega, by show l + 780 + 780 + 2720 + 300 + 160 + 8 + 330 + 330 + 4096 ≤ l + 18730; omega⟩ ?_
  refine wp_putR (n := 94) K dX12_init_91 rfl fl_X12_43 rfl (li0 rfl) (Or.inr ⟨rfl, rfl, fk_X12_43⟩) rfl rfl ?_
  try simp only [up_same, up_up, up_ne, pt_lt, Nat.reduceLT, ne_eq, Nat.reduceEqDiff, not_false_eq_true, Int.reduceToNat, Int.toNat_natCast]
  refine wp_aload_n (n := 95) K dX12_init_94 rfl rfl ?_
  refine wp_sipush (n := 98) K dX12_init_95 rfl rfl ?_
  refine wp_newa0 (n := 100) (kk := 0) (k := 87) (k1 := 88) (m := 4096) K dX12_init_98 rfl (by decide) rfl ar_int ⟨by decide, by decide⟩ rfl rfl rfl ⟨by show c + 1 + 1 + 1 + 1 + 1 + 1 + 1 + 1 + 1 + 1 ≤ c + 13; omega, by show l + 780 + 780 + 2720 + 300 + 160 + 8 + 330 + 330 + 4096 + 4096 ≤ l + 18730; omega⟩ ?_
  refine wp_putR (n := 103) K dX12_init_100 rfl fl_X12_46 rfl (li0 rfl) (Or.inr ⟨rfl, rfl, fk_X12_46⟩) rfl rfl ?_
  try simp only [up_same, up_up, up_ne, pt_lt, Nat.reduceLT, ne_eq, Nat.reduceEqDiff, not_false_eq_true, Int.reduceToNat, Int.toNat_natCast]
  refine wp_aload_n (n := 104) K dX12_init_103 rfl rfl ?_
  refine wp_sipush (n := 107) K dX12_init_104 rfl rfl ?_
  refine wp_newa0 (n := 109) (kk := 3) (k := 88) (k1 := 89) (m := 4096) K dX12_init_107 rfl (by decide) rfl ar_long ⟨by decide, by decide⟩ rfl rfl rfl ⟨by show c + 1 + 1 + 1 + 1 + 1 + 1 + 1 + 1 + 1 + 1 + 1 ≤ c + 13; omega, by show l + 780 + 780 + 2720 + 300 + 160 + 8 + 330 + 330 + 4096 + 4096 + 4096 ≤ l + 18730; omega⟩ ?_
  refine wp_putR (n := 112) K dX12_init_109 rfl fl_X12_49 rfl (li0 rfl) (Or.inr ⟨rfl, rfl, fk_X12_49⟩) rfl rfl ?_
  try simp only [up_same, up_up, up_ne, pt_lt, Nat.reduceLT, ne_eq, Nat.reduceEqDiff, not_false_eq_true, Int.reduceToNat, Int.toNat_natCast]
  refine wp_aload_n (n := 113) K dX12_init_112 rfl rfl ?_
  refine wp_bipush (n := 115) K dX12_init_113 rfl rfl ?_
  refine wp_newa0 (n := 117) (kk := 0) (k := 89) (k1 := 90) (m := 10) K dX12_init_115 rfl (by decide) rfl ar_int ⟨by decide, by decide⟩ rfl rfl rfl ⟨by show c + 1 + 1 + 1 + 1 + 1 + 1 + 1 + 1 + 1 + 1 + 1 + 1 ≤ c + 13; omega, by show l + 780 + 780 + 2720 + 300 + 160 + 8 + 330 + 330 + 4096 + 4096 + 4096 + 10 ≤ l + 18730; omega⟩ ?_
  refine wp_putR (n := 120) K dX12_init_117 rfl fl_X12_52 rfl (li0 rfl) (Or.inr ⟨rfl, rfl, fk_X12_52⟩) rfl rfl ?_
  try simp only [up_same, up_up, up_ne, pt_lt, Nat.reduceLT, ne_eq, Nat.reduceEqDiff, not_false_eq_true, Int.reduceToNat, Int.toNat_natCast]
  refine wp_aload_n (n := 121) K dX12_init_120 rfl rfl ?_
  refine wp_sipush (n := 124) K dX12_init_121 rfl rfl ?_
  refine wp_newa0 (n := 126) (kk := 0) (k := 90) (k1 := 91) (m := 1024) K dX12_init_124 rfl (by decide) rfl ar_int ⟨by decide, by decide⟩ rfl rfl rfl ⟨by show c + 1 + 1 + 1 + 1 + 1 + 1 + 1 + 1 + 1 + 1 + 1 + 1 + 1 ≤ c + 13; omega, by show l + 780 + 780 + 2720 + 300 + 160 + 8 + 330 + 330 + 4096 + 4096 + 4096 + 10 + 1024 ≤ l + 18730; omega⟩ ?_
  refine wp_putR (n := 129) K dX12_init_126 rfl fl_X12_55 rfl (li0 rfl) (Or.inr ⟨rfl, rfl, fk_X12_55⟩) rfl rfl ?_
  try simp only [up_same, up_up, up_ne, pt_lt, Nat.reduceLT, ne_eq, Nat.reduceEqDiff, not_false_eq_true, Int.reduceToNat, Int.toNat_natCast]
  refine wp_aload_n (n := 130) K dX12_init_129 rfl rfl ?_
  refine wp_getD (n := 133) K dX12_init_130 rfl fl_X12_7 rfl (li0 rfl) rfl (show _ = ((78 : Nat) : Int) from rfl) ?_
  try simp only [up_same, up_up, up_ne, pt_lt, Nat.reduceLT, ne_eq, Nat.reduceEqDiff, not_false_eq_true, Int.reduceToNat, Int.toNat_natCast]
  refine wp_iconst (n := 134) K dX12_init_133 rfl ?_
  refine wp_iconst (n := 135) K dX12_init_134 rfl ?_
  refine wp_iast (n := 136) K dX12_init_135 rfl rfl (li0 rfl) (fun _ => rfl) ⟨by omega, by omega, by omega⟩ ?_
  try simp only [up_same, up_up, up_ne, pt_lt, Nat.reduceLT, ne_eq, Nat.reduceEqDiff, not_false_eq_true, Int.reduceToNat, Int.toNat_natCast]
  refine wp_aload_n (n := 137) K dX12_init_136 rfl rfl ?_
  refine wp_getD (n := 140) K dX12_init_137 rfl fl_X12_7 rfl (li0 rfl) rfl (show _ = ((78 : Nat) : Int) from rfl) ?_
  try simp only [up_same, up_up, up_ne, pt_lt, Nat.reduceLT, ne_eq, Nat.reduceEqDiff, not_false_eq_true, Int.reduceToNat, Int.toNat_natCast]
  refine wp_aload_n (n := 141) K dX12_init_140 rfl rfl ?_
  refine wp_getD (n := 144) K dX12_init_141 rfl fl_X12_13 rfl (li0 rfl) rfl (show _ = ((79 : Nat) : Int) from rfl) ?_
  try simp only [up_same, up_up, up_ne, pt_lt, Nat.reduceLT, ne_eq, Nat.reduceEqDiff, not_false_eq_true, Int.reduceToNat, Int.toNat_natCast]
  refine wp_invS_n (n := 147) K dX12_init_144 rfl cf_X12_58 (m_copy0 _ rfl rfl _) rfl rfl (by decide) ⟨by show c + 1 + 1 + 1 + 1 + 1 + 1 + 1 + 1 + 1 + 1 + 1 + 1 + 1 + 0 ≤ c + 13; omega, by show l + 780 + 780 + 2720 + 300 + 160 + 8 + 330 + 330 + 4096 + 4096 + 4096 + 10 + 1024 + 0 ≤ l + 18730; omega⟩ (Nat.le_of_ble_eq_true rfl) ?_
  refine wp_vreturn K dX12_init_147 ⟨rfl, rfl, rfl, ?_⟩ ⟨by show c + 1 + 1 + 1 + 1 + 1 + 1 + 1 + 1 + 1 + 1 + 1 + 1 + 1 ≤ c + 13; omega, by show l + 780 + 780 + 2720 + 300 + 160 + 8 + 330 + 330 + 4096 + 4096 + 4096 + 10 + 1024 ≤ l + 18730; omega⟩
  funext a
  by_cases h : 77 ≤ a ∧ a < 91
  · rcases (show a = 77 ∨ a = 78 ∨ a = 79 ∨ a = 80 ∨ a = 81 ∨ a = 82 ∨ a = 83 ∨ a = 84 ∨ a = 85 ∨ a = 86 ∨ a = 87 ∨ a = 88 ∨ a = 89 ∨ a = 90 by omega) with rfl | rfl | rfl | rfl | rfl | rfl | rfl | rfl | rfl | rfl | rfl | rfl | rfl | rfl <;> rfl
  · rw [pt_out h]
    repeat first | rw [up_ne _ _ (by omega)] | rw [pt_out (by omega)]

