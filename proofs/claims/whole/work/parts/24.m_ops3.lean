theorem up_comm {α : Type} (f : Nat → α) {a b : Nat} (v w : α) (h : a ≠ b) : up (up f a v) b w = up (up f b w) a v := by
  funext j; unfold up
  by_cases h1 : j = b
  · subst h1; rw [if_pos rfl, if_neg (fun q => h q.symm), if_pos rfl]
  · rw [if_neg h1, if_neg h1]
def by8 (v : Int) (n : Nat) : Int := band (bshr v (24 - 8 * (n : Int))) 255
def fourT (τ : Nat → Int) (t : Nat) (v : Int) (i : Nat) : Nat → Int := fun j => if t ≤ j ∧ j < t + i then by8 v (j - t) else τ j
theorem fourT_0 (τ : Nat → Int) (t : Nat) (v : Int) : fourT τ t v 0 = τ := by funext j; unfold fourT; rw [if_neg (by omega)]
theorem fourT_s (τ : Nat → Int) (t : Nat) (v : Int) (i : Nat) : up (fourT τ t v i) (t + i) (by8 v i) = fourT τ t v (i + 1) := by
  funext j; unfold up fourT
  by_cases h : j = t + i
  · subst h; rw [if_pos rfl, if_pos (by omega), show t + i - t = i by omega]
  · rw [if_neg h]
    by_cases h2 : t ≤ j ∧ j < t + i
    · rw [if_pos h2, if_pos (by omega)]
    · rw [if_neg h2, if_neg (by omega)]

theorem m_four (v : Int) (t : Nat) (ht : t + 4 ≤ 300) (S : ST) (M : MT) (h4 : M 77 4 = t) : Ct E1 yX12_four cX12_four 3 none rm_X12_four [.ref 77, .int (z v)] S M (Pn S (up (up M 81 (fourT (M 81) t v 4)) 77 (up (M 77) 4 ((t + 4 : Nat) : Int)))) := by
  refine Ct.mk [.ref 77, .int (z v), mkV] (by decide) rfl (Nat.le_of_ble_eq_true rfl) (fun X K => ?_)
  have e0 : M = up (up M 81 (fourT (M 81) t v 0)) 77 (up (M 77) 4 ((t + 0 : Nat) : Int)) := by
    rw [fourT_0, up_self, Nat.add_zero, ← h4, up_self, up_self]
  refine wp_bipush (n := 2) K dX12_four_0 rfl rfl ?_
  refine wp_istore_n (n := 3) K dX12_four_2 rfl (by decide) ?_
  rw [e0]
  refine dn 4 (Q := fun i => Wp E1 X 3 [.ref 77, .int (z v), .int (z (24 - 8 * (i : Int)))] [] S (up (up M 81 (fourT (M 81) t v i)) 77 (up (M 77) 4 ((t + i : Nat) : Int)))) (fun i hi ih => ?_) 0 (by omega)
  refine wp_iload_n (n := 4) K dX12_four_3 rfl rfl ?_
  refine wp_if_lt (n := 7) K dX12_four_4 rfl (tgt := 39) (by decide) ⟨by omega, by omega⟩ (fun c4 => ?_) (fun c4 => ?_)
  · refine ret_n K dX12_four_39 rfl ?_ ⟨Nat.le_refl _, Nat.le_refl _⟩
    rw [show i = 4 by omega]
  · have e1 : up (up M 81 (fourT (M 81) t v i)) 77 (up (M 77) 4 ((t + i : Nat) : Int)) 81 = fourT (M 81) t v i := rfl
    refine wp_aload_n (n := 8) K dX12_four_7 rfl rfl ?_
    refine wp_getF (n := 11) K dX12_four_8 rfl fl_X12_19 rfl (liS rfl) rfl rfl ?_
    refine wp_aload_n (n := 12) K dX12_four_11 rfl rfl ?_
    refine wp_getI (n := 15) K dX12_four_12 rfl fl_X12_88 rfl (liS rfl) rfl ?_
    try simp only [up_same, up_up, Int.reduceToNat, Int.toNat_natCast]
    refine wp_iload_n (n := 16) K dX12_four_15 rfl rfl ?_
    refine wp_iload_n (n := 17) K dX12_four_16 rfl rfl ?_
    refine wp_ishr (n := 18) K dX12_four_17 rfl ?_
    refine wp_sipush (n := 21) K dX12_four_18 rfl rfl ?_
    refine wp_iand (n := 22) K dX12_four_21 rfl ?_
    refine wp_iast (n := 23) K dX12_four_22 rfl rfl (liS rfl) (fun _ => rfl) ⟨by omega, by omega, by omega⟩ ?_
    rw [Int.toNat_natCast, e1, up_comm _ _ _ (by decide), up_up, show band (bshr v (24 - 8 * (i : Int))) 255 = by8 v i from rfl, fourT_s]
    refine wp_aload_n (n := 24) K dX12_four_23 rfl rfl ?_
    refine wp_dup (n := 25) K dX12_four_24 rfl rfl ?_
    refine wp_getI (n := 28) K dX12_four_25 rfl fl_X12_88 rfl (liS rfl) rfl ?_
    try simp only [up_same, up_up, Int.reduceToNat, Int.toNat_natCast]
    refine wp_iconst (n := 29) K dX12_four_28 rfl ?_
    refine wp_iadd (n := 30) K dX12_four_29 rfl ?_
    refine wp_putI (n := 33) K dX12_four_30 rfl fl_X12_88 rfl (liS rfl) (Or.inl rfl) rfl rfl ?_
    try simp only [up_same, up_up, Int.reduceToNat, Int.toNat_natCast]
    rw [show ((t + i : Nat) : Int) + 1 = ((t + (i + 1) : Nat) : Int) by omega]
    refine wp_iinc (n := 36) K dX12_four_33 rfl rfl (by decide) ?_
    refine wp_goto K dX12_four_36 (tgt := 3) (by decide) ?_
    rw [show 24 - 8 * (i : Int) + -8 = 24 - 8 * ((i + 1 : Nat) : Int) by omega]
    exact ih (by omega)

def feedT (τ : Nat → Int) (t : Nat) (a b c d e : Int) : Nat → Int := fourT (fourT (fourT (fourT (fourT τ t a 4) (t + 4) b 4) (t + 8) c 4) (t + 12) d 4) (t + 16) e 4
theorem m_feed (a b c d e : Int) (t : Nat) (ht : t ≤ 300) (S : ST) (M : MT) (h4 : M 77 4 = t) : Ct E1 yX12_feed cX12_feed 6 (some .int) rm_X12_feed [.ref 77, .int (z a), .int (z b), .int (z c), .int (z d), .int (z e)] S M (Pi (if t ≤ 280 then ((t + 20 : Nat) : Int) else -1) S (if t ≤ 280 then up (up M 81 (feedT (M 81) t a b c d e)) 77 (up (M 77) 4 ((t + 20 : Nat) : Int)) else M)) := by
  refine Ct.mk [.ref 77, .int (z a), .int (z b), .int (z c), .int (z d), .int (z e)] (by decide) rfl (Nat.le_of_ble_eq_true rfl) (fun X K => ?_)
  refine wp_aload_n (n := 1) K dX12_feed_0 rfl rfl ?_
  refine wp_getI (n := 4) K dX12_feed_1 rfl fl_X12_88 rfl (liS rfl) rfl ?_
  try simp only [up_same, up_up, Int.reduceToNat, Int.toNat_natCast]
  refine wp_bipush (n := 6) K dX12_feed_4 rfl rfl ?_
  refine wp_iadd (n := 7) K dX12_feed_6 rfl ?_
  refine wp_sipush (n := 10) K dX12_feed_7 rfl rfl ?_
  refine wp_icmp_le (n := 13) K dX12_feed_10 rfl (tgt := 15) (by decide) ⟨by omega, by omega⟩ ⟨by omega, by omega⟩ (fun c10 => ?_) (fun c10 => ?_)
  · rw [if_pos (by omega), if_pos (by omega)] at K
    have key : ∀ (τ : Nat → Int) (u : Nat) (w : Int), up (up (up (up M 81 τ) 77 (up (M 77) 4 (u : Int))) 81 (fourT (up (up M 81 τ) 77 (up (M 77) 4 (u : Int)) 81) u w 4)) 77 (up (up (up M 81 τ) 77 (up (M 77) 4 (u : Int)) 77) 4 ((u + 4 : Nat) : Int)) = up (up M 81 (fourT τ u w 4)) 77 (up (M 77) 4 ((u + 4 : Nat) : Int)) := by
      intro τ u w
      rw [show up (up M 81 τ) 77 (up (M 77) 4 (u : Int)) 81 = τ from rfl, up_same, up_up, up_comm _ _ _ (by decide : (77 : Nat) ≠ 81), up_up, up_up]
    refine wp_aload_n (n := 16) K dX12_feed_15 rfl rfl ?_
    refine wp_iload_n (n := 17) K dX12_feed_16 rfl rfl ?_
    refine wp_invV_n (n := 20) K dX12_feed_17 rfl cf_X12_91 (m_four _ t (by omega) _ _ h4) rfl rfl rfl (liS rfl) rfl (by decide) ⟨Nat.le_refl _, Nat.le_refl _⟩ (Nat.le_of_ble_eq_true rfl) ?_
    refine wp_aload_n (n := 21) K dX12_feed_20 rfl rfl ?_
    refine wp_iload_n (n := 22) K dX12_feed_21 rfl rfl ?_
    refine wp_invV_n (n := 25) K dX12_feed_22 rfl cf_X12_91 (m_four _ (t + 4) (by omega) _ _ rfl) rfl rfl rfl (liS rfl) rfl (by decide) ⟨Nat.le_refl _, Nat.le_refl _⟩ (Nat.le_of_ble_eq_true rfl) ?_
    rw [key _ (t + 4)]
    refine wp_aload_n (n := 26) K dX12_feed_25 rfl rfl ?_
    refine wp_iload_n (n := 27) K dX12_feed_26 rfl rfl ?_
    refine wp_invV_n (n := 30) K dX12_feed_27 rfl cf_X12_91 (m_four _ (t + 8) (by omega) _ _ rfl) rfl rfl rfl (liS rfl) rfl (by decide) ⟨Nat.le_refl _, Nat.le_refl _⟩ (Nat.le_of_ble_eq_true rfl) ?_
    rw [key _ (t + 4 + 4)]
    refine wp_aload_n (n := 31) K dX12_feed_30 rfl rfl ?_
    refine wp_iload (n := 33) K dX12_feed_31 rfl rfl ?_
    refine wp_invV_n (n := 36) K dX12_feed_33 rfl cf_X12_91 (m_four _ (t + 12) (by omega) _ _ rfl) rfl rfl rfl (liS rfl) rfl (by decide) ⟨Nat.le_refl _, Nat.le_refl _⟩ (Nat.le_of_ble_eq_true rfl) ?_
    rw [key _ (t + 4 + 4 + 4)]
    refine wp_aload_n (n := 37) K dX12_feed_36 rfl rfl ?_
    refine wp_iload (n := 39) K dX12_feed_37 rfl rfl ?_
    refine wp_invV_n (n := 42) K dX12_feed_39 rfl cf_X12_91 (m_four _ (t + 16) (by omega) _ _ rfl) rfl rfl rfl (liS rfl) rfl (by decide) ⟨Nat.le_refl _, Nat.le_refl _⟩ (Nat.le_of_ble_eq_true rfl) ?_
    rw [key _ (t + 4 + 4 + 4 + 4)]
    refine wp_aload_n (n := 43) K dX12_feed_42 rfl rfl ?_
    refine wp_getI (n := 46) K dX12_feed_43 rfl fl_X12_88 rfl (liS rfl) rfl ?_
    try simp only [up_same, up_up, Int.reduceToNat, Int.toNat_natCast]
    refine ret_i K dX12_feed_46 ?_ rfl ?_ ⟨Nat.le_refl _, Nat.le_refl _⟩
    · rfl
    · rfl
  · rw [if_neg (by omega), if_neg (by omega)] at K
    refine wp_iconst (n := 14) K dX12_feed_13 rfl ?_
    refine ret_i K dX12_feed_14 ?_ rfl ?_ ⟨Nat.le_refl _, Nat.le_refl _⟩
    all_goals rfl

theorem m_image (S : ST) (M : MT) (l : Nat) (hl : l < 4096) (h1 : M 78 1 = l) : Ct E1 yX12_image cX12_image 1 (some .int) rm_X12_image [.ref 77] S M (Pi (cnt 12 l : Int) S (up M 79 (fun j => if j < 780 then M 78 j else M 79 j))) := by
  refine Ct.mk [.ref 77] (by decide) rfl (Nat.le_of_ble_eq_true rfl) (fun X K => ?_)
  refine wp_aload_n (n := 1) K dX12_image_0 rfl rfl ?_
  refine wp_getF (n := 4) K dX12_image_1 rfl fl_X12_7 rfl (liS rfl) rfl rfl ?_
  refine wp_aload_n (n := 5) K dX12_image_4 rfl rfl ?_
  refine wp_getF (n := 8) K dX12_image_5 rfl fl_X12_13 rfl (liS rfl) rfl rfl ?_
  refine wp_invS_n (n := 11) K dX12_image_8 rfl cf_X12_58 (m_copy _ _ (by decide) _ _) rfl rfl (by decide) ⟨Nat.le_refl _, Nat.le_refl _⟩ (Nat.le_of_ble_eq_true rfl) ?_
  refine wp_aload_n (n := 12) K dX12_image_11 rfl rfl ?_
  refine wp_getF (n := 15) K dX12_image_12 rfl fl_X12_7 rfl (liS rfl) rfl rfl ?_
  refine wp_iconst (n := 16) K dX12_image_15 rfl ?_
  refine wp_iald (n := 17) K dX12_image_16 rfl rfl (liS rfl) ⟨by omega, by omega, by omega⟩ ?_
  try simp only [up_same, up_up, Int.reduceToNat, Int.toNat_natCast]
  rw [show up M 79 (fun j => if j < 780 then M 78 j else M 79 j) 78 1 = M 78 1 from rfl, h1]
  refine wp_invS_i (n := 20) K dX12_image_17 rfl cf_X12_70 (m_bits _ (by omega) _ _) rfl rfl (by decide) ⟨Nat.le_refl _, Nat.le_refl _⟩ (Nat.le_of_ble_eq_true rfl) ?_
  refine ret_i K dX12_image_20 ?_ rfl ?_ ⟨Nat.le_refl _, Nat.le_refl _⟩
  · rfl
  · rfl

theorem m_back (S : ST) (M : MT) (l : Nat) (hl : l < 4096) (h1 : M 79 1 = l) : Ct E1 yX12_back cX12_back 1 (some .int) rm_X12_back [.ref 77] S M (Pi (cnt 12 l : Int) S (up M 78 (fun j => if j < 780 then M 79 j else M 78 j))) := by
  refine Ct.mk [.ref 77] (by decide) rfl (Nat.le_of_ble_eq_true rfl) (fun X K => ?_)
  refine wp_aload_n (n := 1) K dX12_back_0 rfl rfl ?_
  refine wp_getF (n := 4) K dX12_back_1 rfl fl_X12_13 rfl (liS rfl) rfl rfl ?_
  refine wp_aload_n (n := 5) K dX12_back_4 rfl rfl ?_
  refine wp_getF (n := 8) K dX12_back_5 rfl fl_X12_7 rfl (liS rfl) rfl rfl ?_
  refine wp_invS_n (n := 11) K dX12_back_8 rfl cf_X12_58 (m_copy _ _ (by decide) _ _) rfl rfl (by decide) ⟨Nat.le_refl _, Nat.le_refl _⟩ (Nat.le_of_ble_eq_true rfl) ?_
  refine wp_aload_n (n := 12) K dX12_back_11 rfl rfl ?_
  refine wp_getF (n := 15) K dX12_back_12 rfl fl_X12_7 rfl (liS rfl) rfl rfl ?_
  refine wp_iconst (n := 16) K dX12_back_15 rfl ?_
  refine wp_iald (n := 17) K dX12_back_16 rfl rfl (liS rfl) ⟨by omega, by omega, by omega⟩ ?_
  try simp only [up_same, up_up, Int.reduceToNat, Int.toNat_natCast]
  rw [if_pos (by decide), h1]
  refine wp_invS_i (n := 20) K dX12_back_17 rfl cf_X12_70 (m_bits _ (by omega) _ _) rfl rfl (by decide) ⟨Nat.le_refl _, Nat.le_refl _⟩ (Nat.le_of_ble_eq_true rfl) ?_
  refine ret_i K dX12_back_20 ?_ rfl ?_ ⟨Nat.le_refl _, Nat.le_refl _⟩
  · rfl
  · rfl

theorem m_houseOf (h w : Int) (h1 : InR h) (h2 : InR w) (S : ST) (M : MT) (hw : WH (M 78)) : Ct E1 yX12_houseOf cX12_houseOf 3 (some .int) rm_X12_houseOf [.ref 77, .int (z h), .int (z w)] S M (Pi (if 0 ≤ h ∧ h < M 78 3 then (if w = 0 then M 78 (70 + 3 * h.toNat) else if w = 1 then M 78 (71 + 3 * h.toNat) else if w = 2 then (cnt 12 (nrN (M 78) h.toNat) : Int) else -1000) else -1000) S M) := by
  have h3 := hw.1
  have hn3 : M 78 3 = ((M 78 3).toNat : Int) := by omega
  refine Ct.mk [.ref 77, .int (z h), .int (z w)] (by decide) rfl (Nat.le_of_ble_eq_true rfl) (fun X K => ?_)
  refine wp_aload_n (n := 1) K dX12_houseOf_0 rfl rfl ?_
  refine wp_iload_n (n := 2) K dX12_houseOf_1 rfl rfl ?_
  refine wp_invV_i (n := 5) K dX12_houseOf_2 rfl cf_X12_80 (m_isHouse _ (by unfold InR; omega) _ (by omega) _ _ hn3) rfl rfl rfl (liS rfl) rfl (by decide) ⟨Nat.le_refl _, Nat.le_refl _⟩ (Nat.le_of_ble_eq_true rfl) ?_
  refine wp_if_eq_b (n := 8) K dX12_houseOf_5 rfl (tgt := 17) (by decide) (fun c5 => ?_) (fun c5 => ?_)
  · have c := of_decide_eq_false c5
    rw [if_neg (by omega)] at K
    refine wp_sipush (n := 20) K dX12_houseOf_17 rfl rfl ?_
    refine ret_i K dX12_houseOf_20 ?_ rfl ?_ ⟨Nat.le_refl _, Nat.le_refl _⟩
    all_goals rfl
  have g1 := of_decide_eq_true c5
  rw [if_pos (by omega)] at K
  obtain ⟨a, rfl⟩ : ∃ a : Nat, h = a := ⟨h.toNat, by omega⟩
  rw [Int.toNat_natCast] at K
  refine wp_iload_n (n := 9) K dX12_houseOf_8 rfl rfl ?_
  refine wp_iconst (n := 10) K dX12_houseOf_9 rfl ?_
  refine wp_iconst (n := 11) K dX12_houseOf_10 rfl ?_
  refine wp_invS_i (n := 14) K dX12_houseOf_11 rfl cf_X12_62 (m_isIn _ _ _ (by unfold InR; omega) (by unfold InR; omega) (by unfold InR; omega) _ _) rfl rfl (by decide) ⟨Nat.le_refl _, Nat.le_refl _⟩ (Nat.le_of_ble_eq_true rfl) ?_
  refine wp_if_ne_b (n := 17) K dX12_houseOf_14 rfl (tgt := 21) (by decide) (fun c14 => ?_) (fun c14 => ?_)
  · have g2 := of_decide_eq_true c14
    obtain ⟨n1, n2⟩ := hw.nr (show a < 10 by omega)
    refine wp_iload_n (n := 22) K dX12_houseOf_21 rfl rfl ?_
    refine wp_iconst (n := 23) K dX12_houseOf_22 rfl ?_
    refine wp_icmp_ne (n := 26) K dX12_houseOf_23 rfl (tgt := 43) (by decide) ⟨by omega, by omega⟩ ⟨by omega, by omega⟩ (fun c23 => ?_) (fun c23 => ?_)
    · have hw2 : w = 0 ∨ w = 1 := by omega
      refine wp_aload_n (n := 44) K dX12_houseOf_43 rfl rfl ?_
      refine wp_getF (n := 47) K dX12_houseOf_44 rfl fl_X12_7 rfl (liS rfl) rfl rfl ?_
      refine wp_iload_n (n := 48) K dX12_houseOf_47 rfl rfl ?_
      refine wp_invS_i (n := 51) K dX12_houseOf_48 rfl cf_X12_77 (m_houseAt _ _ _) rfl rfl (by decide) ⟨Nat.le_refl _, Nat.le_refl _⟩ (Nat.le_of_ble_eq_true rfl) ?_
      refine wp_iload_n (n := 52) K dX12_houseOf_51 rfl rfl ?_
      refine wp_iadd (n := 53) K dX12_houseOf_52 rfl ?_
      refine wp_iald (n := 54) K dX12_houseOf_53 rfl rfl (liS rfl) ⟨by omega, by omega, by omega⟩ ?_
      try simp only [up_same, up_up, Int.reduceToNat, Int.toNat_natCast]
      refine ret_i K dX12_houseOf_54 ?_ rfl ?_ ⟨Nat.le_refl _, Nat.le_refl _⟩
      · rcases hw2 with rfl | rfl
        · rw [if_pos rfl, show (70 + 3 * (a : Int) + 0).toNat = 70 + 3 * a by omega]
        · rw [if_neg (by decide), if_pos rfl, show (70 + 3 * (a : Int) + 1).toNat = 71 + 3 * a by omega]
      · rfl
    · subst c23
      refine wp_aload_n (n := 27) K dX12_houseOf_26 rfl rfl ?_
      refine wp_getF (n := 30) K dX12_houseOf_27 rfl fl_X12_7 rfl (liS rfl) rfl rfl ?_
      refine wp_iload_n (n := 31) K dX12_houseOf_30 rfl rfl ?_
      refine wp_invS_i (n := 34) K dX12_houseOf_31 rfl cf_X12_77 (m_houseAt _ _ _) rfl rfl (by decide) ⟨Nat.le_refl _, Nat.le_refl _⟩ (Nat.le_of_ble_eq_true rfl) ?_
      refine wp_iconst (n := 35) K dX12_houseOf_34 rfl ?_
      refine wp_iadd (n := 36) K dX12_houseOf_35 rfl ?_
      refine wp_iald (n := 37) K dX12_houseOf_36 rfl rfl (liS rfl) ⟨by omega, by omega, by omega⟩ ?_
      try simp only [up_same, up_up, Int.reduceToNat, Int.toNat_natCast]
      rw [show (70 + 3 * (a : Int) + 2).toNat = 72 + 3 * a by omega, n1]
      refine wp_invS_i (n := 40) K dX12_houseOf_37 rfl cf_X12_70 (m_bits _ (by omega) _ _) rfl rfl (by decide) ⟨Nat.le_refl _, Nat.le_refl _⟩ (Nat.le_of_ble_eq_true rfl) ?_
      refine wp_goto K dX12_houseOf_40 (tgt := 54) (by decide) ?_
      refine ret_i K dX12_houseOf_54 ?_ rfl ?_ ⟨Nat.le_refl _, Nat.le_refl _⟩
      · rfl
      · rfl
  · have g2 := of_decide_eq_false c14
    rw [if_neg (by omega), if_neg (by omega), if_neg (by omega)] at K
    refine wp_sipush (n := 20) K dX12_houseOf_17 rfl rfl ?_
    refine ret_i K dX12_houseOf_20 ?_ rfl ?_ ⟨Nat.le_refl _, Nat.le_refl _⟩
    all_goals rfl

def aboutF (σ : Nat → Int) (taped : Int) (w : Int) : Int := if 10 ≤ w ∧ w < 10 + σ 0 then σ (13 + 5 * (w - 10).toNat) else if 30 ≤ w ∧ w < 30 + σ 0 then σ (14 + 5 * (w - 30).toNat) else if 0 ≤ w ∧ w ≤ 7 then σ w.toNat else if w = 8 then taped else -2
theorem m_about (w : Int) (h2 : InR w) (S : ST) (M : MT) (hw : WS (M 78)) : Ct E1 yX12_about cX12_about 2 (some .int) rm_X12_about [.ref 77, .int (z w)] S M (Pi (aboutF (M 78) (M 77 4) w) S M) := by
  have h3 := hw.1
  refine Ct.mk [.ref 77, .int (z w)] (by decide) rfl (Nat.le_of_ble_eq_true rfl) (fun X K => ?_)
  unfold aboutF at K
  refine wp_iload_n (n := 1) K dX12_about_0 rfl rfl ?_
  refine wp_bipush (n := 3) K dX12_about_1 rfl rfl ?_
  refine wp_bipush (n := 5) K dX12_about_3 rfl rfl ?_
  refine wp_aload_n (n := 6) K dX12_about_5 rfl rfl ?_
  refine wp_getF (n := 9) K dX12_about_6 rfl fl_X12_7 rfl (liS rfl) rfl rfl ?_
  refine wp_iconst (n := 10) K dX12_about_9 rfl ?_
  refine wp_iald (n := 11) K dX12_about_10 rfl rfl (liS rfl) ⟨by omega, by omega, by omega⟩ ?_
  try simp only [up_same, up_up, Int.reduceToNat, Int.toNat_natCast]
  refine wp_iadd (n := 12) K dX12_about_11 rfl ?_
  refine wp_invS_i (n := 15) K dX12_about_12 rfl cf_X12_62 (m_isIn _ _ _ (by unfold InR; omega) (by unfold InR; omega) (by unfold InR; omega) _ _) rfl rfl (by decide) ⟨Nat.le_refl _, Nat.le_refl _⟩ (Nat.le_of_ble_eq_true rfl) ?_
  refine wp_if_eq_b (n := 18) K dX12_about_15 rfl (tgt := 33) (by decide) (fun c15 => ?_) (fun c15 => ?_)
  · have g1 := of_decide_eq_false c15
    rw [if_neg (by omega)] at K
    refine wp_iload_n (n := 34) K dX12_about_33 rfl rfl ?_
    refine wp_bipush (n := 36) K dX12_about_34 rfl rfl ?_
    refine wp_bipush (n := 38) K dX12_about_36 rfl rfl ?_
    refine wp_aload_n (n := 39) K dX12_about_38 rfl rfl ?_
    refine wp_getF (n := 42) K dX12_about_39 rfl fl_X12_7 rfl (liS rfl) rfl rfl ?_
    refine wp_iconst (n := 43) K dX12_about_42 rfl ?_
    refine wp_iald (n := 44) K dX12_about_43 rfl rfl (liS rfl) ⟨by omega, by omega, by omega⟩ ?_
    try simp only [up_same, up_up, Int.reduceToNat, Int.toNat_natCast]
    refine wp_iadd (n := 45) K dX12_about_44 rfl ?_
    refine wp_invS_i (n := 48) K dX12_about_45 rfl cf_X12_62 (m_isIn _ _ _ (by unfold InR; omega) (by unfold InR; omega) (by unfold InR; omega) _ _) rfl rfl (by decide) ⟨Nat.le_refl _, Nat.le_refl _⟩ (Nat.le_of_ble_eq_true rfl) ?_
    refine wp_if_eq_b (n := 51) K dX12_about_48 rfl (tgt := 66) (by decide) (fun c48 => ?_) (fun c48 => ?_)
    · have g2 := of_decide_eq_false c48
      rw [if_neg (by omega)] at K
      by_cases hi : 0 ≤ w ∧ w ≤ 8
      · by_cases h8 : w = 8
        · rw [if_neg (by omega), if_pos h8] at K
          subst h8
          refine wp_iload_n (n := 67) K dX12_about_66 rfl rfl ?_
          refine wp_tswIn K dX12_about_67 (tgt := 123) h2 (by decide) (by decide) (off := 56) rfl (by decide) ?_
          refine wp_aload_n (n := 124) K dX12_about_123 rfl rfl ?_
          refine wp_getI (n := 127) K dX12_about_124 rfl fl_X12_88 rfl (liS rfl) rfl ?_
          try simp only [up_same, up_up, Int.reduceToNat, Int.toNat_natCast]
          refine ret_i K dX12_about_127 ?_ rfl ?_ ⟨Nat.le_refl _, Nat.le_refl _⟩
          all_goals rfl
        · rw [if_pos (by omega)] at K
          refine wp_iload_n (n := 67) K dX12_about_66 rfl rfl ?_
          refine wp_tswIn K dX12_about_67 (tgt := 116) h2 hi.1 hi.2 (off := 49) ?_ (by decide) ?_
          · rcases (show w = 0 ∨ w = 1 ∨ w = 2 ∨ w = 3 ∨ w = 4 ∨ w = 5 ∨ w = 6 ∨ w = 7 by omega) with rfl | rfl | rfl | rfl | rfl | rfl | rfl | rfl <;> rfl
          · refine wp_aload_n (n := 117) K dX12_about_116 rfl rfl ?_
            refine wp_getF (n := 120) K dX12_about_117 rfl fl_X12_7 rfl (liS rfl) rfl rfl ?_
            refine wp_iload_n (n := 121) K dX12_about_120 rfl rfl ?_
            refine wp_iald (n := 122) K dX12_about_121 rfl rfl (liS rfl) ⟨by omega, by omega, by omega⟩ ?_
            try simp only [up_same, up_up, Int.reduceToNat, Int.toNat_natCast]
            refine ret_i K dX12_about_122 ?_ rfl ?_ ⟨Nat.le_refl _, Nat.le_refl _⟩
            all_goals rfl
      · rw [if_neg (by omega), if_neg (by omega)] at K
        refine wp_iload_n (n := 67) K dX12_about_66 rfl rfl ?_
        refine wp_tswOut K dX12_about_67 (tgt := 128) h2 (by omega) (by decide) ?_
        refine wp_bipush (n := 130) K dX12_about_128 rfl rfl ?_
        refine ret_i K dX12_about_130 ?_ rfl ?_ ⟨Nat.le_refl _, Nat.le_refl _⟩
        all_goals rfl
    · have g2 := of_decide_eq_true c48
      rw [if_pos (by omega)] at K
      refine wp_aload_n (n := 52) K dX12_about_51 rfl rfl ?_
      refine wp_getF (n := 55) K dX12_about_52 rfl fl_X12_7 rfl (liS rfl) rfl rfl ?_
      refine wp_iload_n (n := 56) K dX12_about_55 rfl rfl ?_
      refine wp_bipush (n := 58) K dX12_about_56 rfl rfl ?_
      refine wp_isub (n := 59) K dX12_about_58 rfl ?_
      refine wp_invS_i (n := 62) K dX12_about_59 rfl cf_X12_74 (m_stoneAt _ _ _) rfl rfl (by decide) ⟨Nat.le_refl _, Nat.le_refl _⟩ (Nat.le_of_ble_eq_true rfl) ?_
      refine wp_iconst (n := 63) K dX12_about_62 rfl ?_
      refine wp_iadd (n := 64) K dX12_about_63 rfl ?_
      refine wp_iald (n := 65) K dX12_about_64 rfl rfl (liS rfl) ⟨by omega, by omega, by omega⟩ ?_
      try simp only [up_same, up_up, Int.reduceToNat, Int.toNat_natCast]
      refine ret_i K dX12_about_65 ?_ rfl ?_ ⟨Nat.le_refl _, Nat.le_refl _⟩
      · rw [show (10 + 5 * (w - 30) + 4).toNat = 14 + 5 * (w - 30).toNat by omega]
      · rfl
  · have g2 := of_decide_eq_true c15
    rw [if_pos (by omega)] at K
    refine wp_aload_n (n := 19) K dX12_about_18 rfl rfl ?_
    refine wp_getF (n := 22) K dX12_about_19 rfl fl_X12_7 rfl (liS rfl) rfl rfl ?_
    refine wp_iload_n (n := 23) K dX12_about_22 rfl rfl ?_
    refine wp_bipush (n := 25) K dX12_about_23 rfl rfl ?_
    refine wp_isub (n := 26) K dX12_about_25 rfl ?_
    refine wp_invS_i (n := 29) K dX12_about_26 rfl cf_X12_74 (m_stoneAt _ _ _) rfl rfl (by decide) ⟨Nat.le_refl _, Nat.le_refl _⟩ (Nat.le_of_ble_eq_true rfl) ?_
    refine wp_iconst (n := 30) K dX12_about_29 rfl ?_
    refine wp_iadd (n := 31) K dX12_about_30 rfl ?_
    refine wp_iald (n := 32) K dX12_about_31 rfl rfl (liS rfl) ⟨by omega, by omega, by omega⟩ ?_
    try simp only [up_same, up_up, Int.reduceToNat, Int.toNat_natCast]
    refine ret_i K dX12_about_32 ?_ rfl ?_ ⟨Nat.le_refl _, Nat.le_refl _⟩
    · rw [show (10 + 5 * (w - 10) + 3).toNat = 13 + 5 * (w - 10).toNat by omega]
    · rfl
