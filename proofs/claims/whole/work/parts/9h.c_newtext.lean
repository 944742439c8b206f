
theorem c_textInit (b l m f a3 nc : Nat) (S : ST) (M : MT) (hs : shp E1 S b = (1, 10)) (hl : live E1 S b) (hb : 91 ≤ b) (h3 : shp E1 S a3 = (2, 3 * nc)) (h3l : live E1 S a3) (hnc : nc ≤ 24) : Ct E1 yX10_init cX10_init 5 none rm_X10_init [.ref b, .ref l, .ref m, .ref f, .ref a3] S M (Pn S (up M b (up (up (up (up (up (M b) 0 (l : Int)) 1 (m : Int)) 2 (f : Int)) 3 (a3 : Int)) 4 (nc : Int)))) := by
  refine Ct.mk [.ref b, .ref l, .ref m, .ref f, .ref a3] (by decide) rfl (Nat.le_of_ble_eq_true rfl) (fun X K => ?_)
  have hf : ∀ j, fin E1 b j = none := fun j => fin_out (by decide) hb j
  refine wp_aload_n (n := 1) K dX10_init_0 rfl rfl ?_
  refine wp_objInit (n := 4) K dX10_init_1 rfl ol_X10_3 oi_i oi_c (by omega) (by decide) (Nat.le_of_ble_eq_true rfl) ?_
  refine wp_aload_n (n := 5) K dX10_init_4 rfl rfl ?_
  refine wp_aload_n (n := 6) K dX10_init_5 rfl rfl ?_
  refine wp_putR (n := 9) K dX10_init_6 rfl fl_X10_9 hs hl (Or.inr ⟨rfl, rfl, fk_X10_9⟩) (hf _) rfl ?_
  try simp only [up_same, up_up, up_ne, ne_eq, Nat.reduceEqDiff, not_false_eq_true, Int.reduceToNat, Int.toNat_natCast]
  refine wp_aload_n (n := 10) K dX10_init_9 rfl rfl ?_
  refine wp_aload_n (n := 11) K dX10_init_10 rfl rfl ?_
  refine wp_putR (n := 14) K dX10_init_11 rfl fl_X10_15 hs hl (Or.inr ⟨rfl, rfl, fk_X10_15⟩) (hf _) rfl ?_
  try simp only [up_same, up_up, up_ne, ne_eq, Nat.reduceEqDiff, not_false_eq_true, Int.reduceToNat, Int.toNat_natCast]
  refine wp_aload_n (n := 15) K dX10_init_14 rfl rfl ?_
  refine wp_aload_n (n := 16) K dX10_init_15 rfl rfl ?_
  refine wp_putR (n := 19) K dX10_init_16 rfl fl_X10_18 hs hl (Or.inr ⟨rfl, rfl, fk_X10_18⟩) (hf _) rfl ?_
  try simp only [up_same, up_up, up_ne, ne_eq, Nat.reduceEqDiff, not_false_eq_true, Int.reduceToNat, Int.toNat_natCast]
  refine wp_aload_n (n := 20) K dX10_init_19 rfl rfl ?_
  refine wp_aload (n := 22) K dX10_init_20 rfl rfl ?_
  refine wp_putR (n := 25) K dX10_init_22 rfl fl_X10_21 hs hl (Or.inr ⟨rfl, rfl, fk_X10_21⟩) (hf _) rfl ?_
  try simp only [up_same, up_up, up_ne, ne_eq, Nat.reduceEqDiff, not_false_eq_true, Int.reduceToNat, Int.toNat_natCast]
  refine wp_aload_n (n := 26) K dX10_init_25 rfl rfl ?_
  refine wp_aload (n := 28) K dX10_init_26 rfl rfl ?_
  refine wp_alen (n := 29) K dX10_init_28 rfl h3 (by decide) h3l ?_
  refine wp_iconst (n := 30) K dX10_init_29 rfl ?_
  refine wp_idiv (n := 31) K dX10_init_30 rfl (by decide) ?_
  rw [show bdiv ((3 * nc : Nat) : Int) 3 = (nc : Int) by rw [show (3 : Int) = ((3 : Nat) : Int) from rfl, bdiv_n (by omega) (by decide) (by decide)]; congr 1; omega]
  refine wp_putI (n := 34) K dX10_init_31 rfl fl_X10_24 hs hl (Or.inr ⟨rfl, rfl, fk_X10_24⟩) (hf _) rfl ?_
  try simp only [up_same, up_up, up_ne, ne_eq, Nat.reduceEqDiff, not_false_eq_true, Int.reduceToNat, Int.toNat_natCast]
  refine ret_n K dX10_init_34 rfl ?_ ⟨Nat.le_refl _, Nat.le_refl _⟩
  rfl
def Pnt (l m f nc : Nat) (S : ST) (M : MT) : Option Value → ST → MT → Prop := fun r S' M' => r = some (.ref S.2.1) ∧ S'.1 = up (up S.1 S.2.1 (1, 10)) (S.2.1 + 1) (2, 3 * nc) ∧ S'.2.1 = S.2.1 + 2 ∧ (∀ a, a < S.2.1 → M' a = M a) ∧ M' S.2.1 0 = (l : Int) ∧ M' S.2.1 1 = (m : Int) ∧ M' S.2.1 2 = (f : Int) ∧ M' S.2.1 3 = ((S.2.1 + 1 : Nat) : Int) ∧ M' S.2.1 4 = (nc : Int) ∧ ∀ j, j < 3 * nc → M' (S.2.1 + 1) j = M 61 j

theorem c_newText (l m f nc : Nat) (S : ST) (M : MT) (h91 : 91 ≤ S.2.1) (h3 : M 60 3 = (l : Int)) (h4 : M 60 4 = (m : Int)) (h5 : M 60 5 = (f : Int)) (h6 : M 60 6 = (nc : Int)) (hnc : nc ≤ 24) : Ct E1 yX4_newText cX4_newText 1 (some (.object "WalledIn$Text")) rm_X4_newText [.ref 60] S M (Pnt l m f nc S M) := by
  refine Ct.mk [.ref 60] (by decide) rfl (Nat.le_of_ble_eq_true rfl) (fun X K => ?_)
  have e60 : (up M S.2.1 (fun _ => 0)) 60 = M 60 := up_ne _ _ (by omega)
  refine wp_new (n := 3) K dX4_newText_0 rfl ck10 cl_X4_9 inst_X10 ini_X10 (by decide) (by decide) ⟨by show S.2.2.1 + 1 ≤ S.2.2.1 + 2; omega, by show S.2.2.2 + 5 ≤ S.2.2.2 + 305; omega⟩ ?_
  refine wp_dup (n := 4) K dX4_newText_3 rfl rfl ?_
  refine wp_aload_n (n := 5) K dX4_newText_4 rfl rfl ?_
  refine wp_getD (n := 8) K dX4_newText_5 rfl fl_X4_26 rfl (liS rfl) rfl (show _ = (l : Int) by rw [e60]; exact h3) ?_
  try simp only [up_same, up_up, up_ne, ne_eq, Nat.reduceEqDiff, not_false_eq_true, Int.reduceToNat, Int.toNat_natCast]
  refine wp_aload_n (n := 9) K dX4_newText_8 rfl rfl ?_
  refine wp_getD (n := 12) K dX4_newText_9 rfl fl_X4_29 rfl (liS rfl) rfl (show _ = (m : Int) by rw [e60]; exact h4) ?_
  try simp only [up_same, up_up, up_ne, ne_eq, Nat.reduceEqDiff, not_false_eq_true, Int.reduceToNat, Int.toNat_natCast]
  refine wp_aload_n (n := 13) K dX4_newText_12 rfl rfl ?_
  refine wp_getD (n := 16) K dX4_newText_13 rfl fl_X4_32 rfl (liS rfl) rfl (show _ = (f : Int) by rw [e60]; exact h5) ?_
  try simp only [up_same, up_up, up_ne, ne_eq, Nat.reduceEqDiff, not_false_eq_true, Int.reduceToNat, Int.toNat_natCast]
  refine wp_aload_n (n := 17) K dX4_newText_16 rfl rfl ?_
  refine wp_getF (n := 20) K dX4_newText_17 rfl fl_X4_11 rfl (liS rfl) rfl rfl ?_
  refine wp_aload_n (n := 21) K dX4_newText_20 rfl rfl ?_
  refine wp_getI (n := 24) K dX4_newText_21 rfl fl_X4_35 rfl (liS rfl) rfl ?_
  try simp only [up_same, up_up, up_ne, ne_eq, Nat.reduceEqDiff, not_false_eq_true, Int.reduceToNat, Int.toNat_natCast]
  rw [e60, h6]
  refine wp_iconst (n := 25) K dX4_newText_24 rfl ?_
  refine wp_imul (n := 26) K dX4_newText_25 rfl ?_
  rw [show (nc : Int) * 3 = ((3 * nc : Nat) : Int) by omega]
  refine wp_invS (n := 29) K dX4_newText_26 rfl cf_X4_83 (c_copyOf 61 72 (3 * nc) (by decide) (by omega) _ _ rfl (liS rfl) (by show 91 ≤ S.2.1 + 1; omega)) rfl rfl (by decide) ⟨by show S.2.2.1 + 1 + 1 ≤ S.2.2.1 + 2; omega, by show S.2.2.2 + 5 + 300 ≤ S.2.2.2 + 305; omega⟩ (Nat.le_of_ble_eq_true rfl) (fun rA SA A hA hcA hsA => ?_)
  obtain ⟨rfl, e1, e2, e3, e4⟩ := hA
  have hsb : shp E1 SA S.2.1 = (1, 10) := by
    rw [shp_out (show E1.1 ≤ S.2.1 from h91), e1]
    show up (up S.1 S.2.1 (1, 10)) (S.2.1 + 1) (2, 3 * nc) S.2.1 = _
    rw [up_ne _ _ (by omega), up_same]
  have hlb : live E1 SA S.2.1 := ⟨by omega, Or.inr (by rw [e2]; show S.2.1 < S.2.1 + 1 + 1; omega)⟩
  have hsa : shp E1 SA (S.2.1 + 1) = (2, 3 * nc) := by
    rw [shp_out (show E1.1 ≤ S.2.1 + 1 by show 91 ≤ _; omega), e1]
    exact up_same _ _ _
  have hla : live E1 SA (S.2.1 + 1) := ⟨by omega, Or.inr (by rw [e2]; show S.2.1 + 1 < S.2.1 + 1 + 1; omega)⟩
  have hc2 : SA.2.2.1 = S.2.2.1 + 1 + 1 := hcA
  have hs2 : SA.2.2.2 = S.2.2.2 + 5 + 300 := hsA
  refine wp_invI_n (n := 32) K dX4_newText_29 rfl cf_X4_89 (by omega) (c_textInit S.2.1 l m f (S.2.1 + 1) nc SA A hsb hlb h91 hsa hla hnc) rfl rfl (by decide) ⟨by show SA.2.2.1 + 0 ≤ S.2.2.1 + 2; omega, by show SA.2.2.2 + 0 ≤ S.2.2.2 + 305; omega⟩ (Nat.le_of_ble_eq_true rfl) ?_
  refine wp_areturn K dX4_newText_32 ⟨rfl, e1, e2, fun a ha => ?_, ?_, ?_, ?_, ?_, ?_, fun j hj => ?_⟩ (by omega) (Or.inl ⟨_, rfl⟩) ⟨by show SA.2.2.1 ≤ S.2.2.1 + 2; omega, by show SA.2.2.2 ≤ S.2.2.2 + 305; omega⟩
  · rw [up_ne _ _ (by omega), e3 a (by show a ≠ S.2.1 + 1; omega), up_ne _ _ (by omega)]
  · simp [up]
  · simp [up]
  · simp [up]
  · simp [up]
  · simp [up]
  · rw [up_ne _ _ (by omega)]
    refine (e4 j hj).trans ?_
    rw [up_ne _ _ (by omega)]
