theorem bv_byte (x : BitVec 32) (s : Nat) (hs : s ≤ 24) : ((((x >>> s).signExtend 8).signExtend 32).signExtend 8).signExtend 32 &&& 255#32 = x.sshiftRight s &&& 255#32 := by
  apply BitVec.eq_of_getLsbD_eq
  intro i hi
  have h255 : (255#32).getLsbD i = decide (i < 8) := by
    rw [BitVec.getLsbD_ofNat, show (255 : Nat) = 2 ^ 8 - 1 from rfl, Nat.testBit_two_pow_sub_one]; simp [hi]
  rw [BitVec.getLsbD_and, BitVec.getLsbD_and, h255]
  by_cases h8 : i < 8
  · simp only [BitVec.getLsbD_signExtend, BitVec.getLsbD_setWidth, BitVec.getLsbD_ushiftRight, BitVec.getLsbD_sshiftRight]
    simp [h8, hi, show s + i < 32 by omega, show ¬ 32 ≤ i by omega]
  · simp [h8]
theorem i8_r (x : Int) : -128 ≤ bi2b x ∧ bi2b x ≤ 127 := by
  unfold bi2b
  rw [Int8.toInt_toInt32]
  have h1 := (z x).toInt8.le_toInt
  have h2 := (z x).toInt8.toInt_lt
  constructor
  · simpa using h1
  · have : (z x).toInt8.toInt < 128 := by simpa using h2
    omega
theorem byte_eq (v : Int) (k : Nat) (hk : k < 4) : band (bi2b (bi2b (bushr v (24 - 8 * (k : Int))))) 255 = by8 v k := by
  unfold by8 band bi2b bushr bshr
  rw [z_self, z_self, z_self, z_self]
  congr 1
  apply Int32.toBitVec_inj.mp
  have e : ∀ s : Nat, s ≤ 24 → z (24 - 8 * (k : Int)) = z (s : Int) → (((z v).toUInt32 >>> ((z (s : Int)).toUInt32 &&& Int32.toUInt32 31)).toInt32.toInt8.toInt32.toInt8.toInt32 &&& z 255).toBitVec = (z v >>> (z (s : Int) &&& 31) &&& z 255).toBitVec → (((z v).toUInt32 >>> ((z (24 - 8 * (k : Int))).toUInt32 &&& Int32.toUInt32 31)).toInt32.toInt8.toInt32.toInt8.toInt32 &&& z 255).toBitVec = (z v >>> (z (24 - 8 * (k : Int)) &&& 31) &&& z 255).toBitVec := fun s _ h h2 => by rw [h]; exact h2
  refine e (24 - 8 * k) (by omega) (by congr 1; omega) ?_
  have hs : 24 - 8 * k ≤ 24 := by omega
  generalize 24 - 8 * k = s at hs
  have e1 : ((z v).toUInt32 >>> ((z (s : Int)).toUInt32 &&& Int32.toUInt32 31)).toBitVec = (z v).toBitVec >>> s := by
    have : (z (s : Int)).toUInt32 &&& Int32.toUInt32 31 = (z (s : Int)).toUInt32 := congrArg Int32.toUInt32 (sh31 (k := s) (by omega))
    rw [this, UInt32.toBitVec_shiftRight]
    show (z v).toBitVec >>> ((z (s : Int)).toBitVec % 32) = _
    rw [BitVec.ushiftRight_eq', zn_bv, BitVec.toNat_umod, bvn (by omega)]
    congr 1
    exact Nat.mod_eq_of_lt (show s < 32 by omega)
  have e2 : (z v >>> (z (s : Int) &&& 31)).toBitVec = (z v).toBitVec.sshiftRight s := by
    rw [sh31 (by omega), Int32.toBitVec_shiftRight]
    show (z v).toBitVec.sshiftRight _ = _
    rw [smod32 (by omega)]
  rw [Int32.toBitVec_and, Int32.toBitVec_and, e2]
  refine Eq.trans ?_ (bv_byte (z v).toBitVec s hs)
  rw [← e1]; rfl
def TB (M : MT) (τ : Nat → Int) (t : Int) : Prop := M 55 4 = t ∧ ∀ j, j < 300 → (-128 ≤ M 56 j ∧ M 56 j ≤ 127) ∧ band (M 56 j) 255 = τ j

theorem c_addFour (v : Int) (t : Nat) (ht : t + 4 ≤ 300) (S : ST) (M : MT) (τ : Nat → Int) (h : TB M τ t) : Ct E1 yX9_addFour cX9_addFour 3 none rm_X9_addFour [.ref 55, .int (z v)] S M (Qn [55, 56] S M (fun M1 => TB M1 (fourT τ t v 4) ((t + 4 : Nat) : Int))) := by
  refine Ct.mk [.ref 55, .int (z v), mkV] (by decide) rfl (Nat.le_of_ble_eq_true rfl) (fun X K => ?_)
  refine wp_bipush (n := 2) K dX9_addFour_0 rfl rfl ?_
  refine wp_istore_n (n := 3) K dX9_addFour_2 rfl (by decide) ?_
  refine dn 4 (Q := fun k => ∀ B : MT, (∀ a, a ∉ [55, 56] → B a = M a) → TB B (fourT τ t v k) ((t + k : Nat) : Int) → Wp E1 X 3 [.ref 55, .int (z v), .int (z (24 - 8 * (k : Int)))] [] S B) (fun k hk ih B hB hT => ?_) 0 (by omega) M (fun _ _ => rfl) (by rw [fourT_0]; exact h)
  obtain ⟨h4, hT2⟩ := hT
  refine wp_iload_n (n := 4) K dX9_addFour_3 rfl rfl ?_
  refine wp_if_lt (n := 7) K dX9_addFour_4 rfl (tgt := 46) (by decide) ⟨by omega, by omega⟩ (fun c4 => ?_) (fun c4 => ?_)
  · have : k = 4 := by omega
    subst this
    refine ret_qn K dX9_addFour_46 rfl ?_ ?_ ⟨Nat.le_refl _, Nat.le_refl _⟩
    · exact hB
    · exact ⟨h4, hT2⟩
  · refine wp_aload_n (n := 8) K dX9_addFour_7 rfl rfl ?_
    refine wp_getI (n := 11) K dX9_addFour_8 rfl fl_X9_25 rfl (liS rfl) rfl ?_
    try simp only [up_same, up_up, up_ne, ne_eq, Nat.reduceEqDiff, not_false_eq_true, Int.reduceToNat, Int.toNat_natCast]
    refine wp_sipush (n := 14) K dX9_addFour_11 rfl rfl ?_
    refine wp_icmp_ge (n := 17) K dX9_addFour_14 rfl (tgt := 46) (by decide) ⟨by omega, by omega⟩ ⟨by omega, by omega⟩ (fun c14 => ?_) (fun c14 => ?_)
    · omega
    · refine wp_aload_n (n := 18) K dX9_addFour_17 rfl rfl ?_
      refine wp_getF (n := 21) K dX9_addFour_18 rfl fl_X9_9 rfl (liS rfl) rfl rfl ?_
      refine wp_aload_n (n := 22) K dX9_addFour_21 rfl rfl ?_
      refine wp_getI (n := 25) K dX9_addFour_22 rfl fl_X9_25 rfl (liS rfl) rfl ?_
      try simp only [up_same, up_up, up_ne, ne_eq, Nat.reduceEqDiff, not_false_eq_true, Int.reduceToNat, Int.toNat_natCast]
      refine wp_iload_n (n := 26) K dX9_addFour_25 rfl rfl ?_
      refine wp_iload_n (n := 27) K dX9_addFour_26 rfl rfl ?_
      refine wp_iushr (n := 28) K dX9_addFour_27 rfl ?_
      refine wp_i2b (n := 29) K dX9_addFour_28 rfl ?_
      refine wp_bast (n := 30) K dX9_addFour_29 rfl rfl (liS rfl) (fun _ => rfl) ⟨by omega, by omega, by omega⟩ ?_
      try simp only [up_same, up_up, up_ne, ne_eq, Nat.reduceEqDiff, not_false_eq_true, Int.reduceToNat, Int.toNat_natCast]
      refine wp_aload_n (n := 31) K dX9_addFour_30 rfl rfl ?_
      refine wp_dup (n := 32) K dX9_addFour_31 rfl rfl ?_
      refine wp_getI (n := 35) K dX9_addFour_32 rfl fl_X9_25 rfl (liS rfl) rfl ?_
      try simp only [up_same, up_up, up_ne, ne_eq, Nat.reduceEqDiff, not_false_eq_true, Int.reduceToNat, Int.toNat_natCast]
      refine wp_iconst (n := 36) K dX9_addFour_35 rfl ?_
      refine wp_iadd (n := 37) K dX9_addFour_36 rfl ?_
      refine wp_putI (n := 40) K dX9_addFour_37 rfl fl_X9_25 rfl (liS rfl) (Or.inl rfl) rfl rfl ?_
      try simp only [up_same, up_up, up_ne, ne_eq, Nat.reduceEqDiff, not_false_eq_true, Int.reduceToNat, Int.toNat_natCast]
      refine wp_iinc (n := 43) K dX9_addFour_40 rfl rfl (by decide) ?_
      refine wp_goto K dX9_addFour_43 (tgt := 3) (by decide) ?_
      rw [show 24 - 8 * (k : Int) + -8 = 24 - 8 * ((k + 1 : Nat) : Int) by omega]
      refine ih (by omega) _ (fun a ha => ?_) ⟨?_, fun j hj => ?_⟩
      · rw [← hB a ha]
        simp only [List.mem_cons, List.not_mem_nil, or_false, not_or] at ha
        simp [up, ha]
      · simp [up, h4]; omega
      · have e : (B 55 4).toNat = t + k := by omega
        rw [← fourT_s]
        simp [up, e]
        by_cases hj2 : j = t + k
        · rw [if_pos hj2, if_pos hj2]
          exact ⟨i8_r _, byte_eq v k (by omega)⟩
        · rw [if_neg hj2, if_neg hj2]
          exact hT2 j hj

theorem c_feed (a b c d e : Int) (t : Nat) (ht : t ≤ 300) (S : ST) (M : MT) (τ : Nat → Int) (h : TB M τ t) : (t ≤ 280 → Ct E1 yX11_feed cX11_feed 6 (some .int) rm_X11_feed [.ref 16, .int (z a), .int (z b), .int (z c), .int (z d), .int (z e)] S M (Qi ((t + 20 : Nat) : Int) [55, 56] S M (fun M1 => TB M1 (feedT τ t a b c d e) ((t + 20 : Nat) : Int)))) ∧ (¬ t ≤ 280 → Ct E1 yX11_feed cX11_feed 6 (some .int) rm_X11_feed [.ref 16, .int (z a), .int (z b), .int (z c), .int (z d), .int (z e)] S M (Pi (-1) S M)) := by
  have h4 := h.1
  refine ⟨fun q => ?_, fun q => ?_⟩
  · refine Ct.mk [.ref 16, .int (z a), .int (z b), .int (z c), .int (z d), .int (z e)] (by decide) rfl (Nat.le_of_ble_eq_true rfl) (fun X K => ?_)
    refine wp_aload_n (n := 1) K dX11_feed_0 rfl rfl ?_
    refine wp_getF (n := 4) K dX11_feed_1 rfl fl_X11_22 rfl (liS rfl) rfl rfl ?_
    refine wp_getI (n := 7) K dX11_feed_4 rfl fl_X11_129 rfl (liS rfl) rfl ?_
    try simp only [up_same, up_up, up_ne, ne_eq, Nat.reduceEqDiff, not_false_eq_true, Int.reduceToNat, Int.toNat_natCast]
    refine wp_sipush (n := 10) K dX11_feed_7 rfl rfl ?_
    refine wp_icmp_le (n := 13) K dX11_feed_10 rfl (tgt := 15) (by decide) ⟨by omega, by omega⟩ ⟨by omega, by omega⟩ (fun c10 => ?_) (fun c10 => ?_)
    · refine wp_aload_n (n := 16) K dX11_feed_15 rfl rfl ?_
      refine wp_getF (n := 19) K dX11_feed_16 rfl fl_X11_22 rfl (liS rfl) rfl rfl ?_
      refine wp_iload_n (n := 20) K dX11_feed_19 rfl rfl ?_
      refine wp_invV_qn (n := 23) K dX11_feed_20 rfl cf_X11_132 (c_addFour a t (by omega) _ _ τ h) rfl rfl rfl (liS rfl) rfl (by decide) ⟨Nat.le_refl _, Nat.le_refl _⟩ (Nat.le_of_ble_eq_true rfl) (fun A1 hA1 gA1 => ?_)
      refine wp_aload_n (n := 24) K dX11_feed_23 rfl rfl ?_
      refine wp_getF (n := 27) K dX11_feed_24 rfl fl_X11_22 rfl (liS rfl) rfl rfl ?_
      refine wp_iload_n (n := 28) K dX11_feed_27 rfl rfl ?_
      refine wp_invV_qn (n := 31) K dX11_feed_28 rfl cf_X11_132 (c_addFour b (t + 4) (by omega) _ _ _ gA1) rfl rfl rfl (liS rfl) rfl (by decide) ⟨Nat.le_refl _, Nat.le_refl _⟩ (Nat.le_of_ble_eq_true rfl) (fun A2 hA2 gA2 => ?_)
      refine wp_aload_n (n := 32) K dX11_feed_31 rfl rfl ?_
      refine wp_getF (n := 35) K dX11_feed_32 rfl fl_X11_22 rfl (liS rfl) rfl rfl ?_
      refine wp_iload_n (n := 36) K dX11_feed_35 rfl rfl ?_
      refine wp_invV_qn (n := 39) K dX11_feed_36 rfl cf_X11_132 (c_addFour c (t + 8) (by omega) _ _ _ gA2) rfl rfl rfl (liS rfl) rfl (by decide) ⟨Nat.le_refl _, Nat.le_refl _⟩ (Nat.le_of_ble_eq_true rfl) (fun A3 hA3 gA3 => ?_)
      refine wp_aload_n (n := 40) K dX11_feed_39 rfl rfl ?_
      refine wp_getF (n := 43) K dX11_feed_40 rfl fl_X11_22 rfl (liS rfl) rfl rfl ?_
      refine wp_iload (n := 45) K dX11_feed_43 rfl rfl ?_
      refine wp_invV_qn (n := 48) K dX11_feed_45 rfl cf_X11_132 (c_addFour d (t + 12) (by omega) _ _ _ gA3) rfl rfl rfl (liS rfl) rfl (by decide) ⟨Nat.le_refl _, Nat.le_refl _⟩ (Nat.le_of_ble_eq_true rfl) (fun A4 hA4 gA4 => ?_)
      refine wp_aload_n (n := 49) K dX11_feed_48 rfl rfl ?_
      refine wp_getF (n := 52) K dX11_feed_49 rfl fl_X11_22 rfl (liS rfl) rfl rfl ?_
      refine wp_iload (n := 54) K dX11_feed_52 rfl rfl ?_
      refine wp_invV_qn (n := 57) K dX11_feed_54 rfl cf_X11_132 (c_addFour e (t + 16) (by omega) _ _ _ gA4) rfl rfl rfl (liS rfl) rfl (by decide) ⟨Nat.le_refl _, Nat.le_refl _⟩ (Nat.le_of_ble_eq_true rfl) (fun A5 hA5 gA5 => ?_)
      refine wp_aload_n (n := 58) K dX11_feed_57 rfl rfl ?_
      refine wp_getF (n := 61) K dX11_feed_58 rfl fl_X11_22 rfl (liS rfl) rfl rfl ?_
      refine wp_getI (n := 64) K dX11_feed_61 rfl fl_X11_129 rfl (liS rfl) rfl ?_
      try simp only [up_same, up_up, up_ne, ne_eq, Nat.reduceEqDiff, not_false_eq_true, Int.reduceToNat, Int.toNat_natCast]
      refine ret_qi K dX11_feed_64 ?_ rfl ?_ ?_ ⟨Nat.le_refl _, Nat.le_refl _⟩
      · exact gA5.1
      · intro a ha; rw [hA5 a ha, hA4 a ha, hA3 a ha, hA2 a ha, hA1 a ha]
      · exact gA5
    · omega
  · refine Ct.mk [.ref 16, .int (z a), .int (z b), .int (z c), .int (z d), .int (z e)] (by decide) rfl (Nat.le_of_ble_eq_true rfl) (fun X K => ?_)
    refine wp_aload_n (n := 1) K dX11_feed_0 rfl rfl ?_
    refine wp_getF (n := 4) K dX11_feed_1 rfl fl_X11_22 rfl (liS rfl) rfl rfl ?_
    refine wp_getI (n := 7) K dX11_feed_4 rfl fl_X11_129 rfl (liS rfl) rfl ?_
    try simp only [up_same, up_up, up_ne, ne_eq, Nat.reduceEqDiff, not_false_eq_true, Int.reduceToNat, Int.toNat_natCast]
    refine wp_sipush (n := 10) K dX11_feed_7 rfl rfl ?_
    refine wp_icmp_le (n := 13) K dX11_feed_10 rfl (tgt := 15) (by decide) ⟨by omega, by omega⟩ ⟨by omega, by omega⟩ (fun c10 => ?_) (fun c10 => ?_)
    · omega
    · refine wp_iconst (n := 14) K dX11_feed_13 rfl ?_
      refine ret_i K dX11_feed_14 ?_ rfl ?_ ⟨Nat.le_refl _, Nat.le_refl _⟩
      · rfl
      · rfl
