
def ordF (σ τ : Nat → Int) (N : Nat) (W : Nat → Int) : Int := wyT (okW σ τ false) N N W (2 ^ N) (2 ^ N - 1)
theorem m_orders (N : Nat) (hN : N ≤ 12) (S : ST) (M : MT) (hL : LW (M 78) (M 80)) (h0 : M 78 0 = N) (hnb : NB M) (hso : ∀ u : Nat, u < 12 → InR (M 78 (100 + 2 * u)) ∧ InR (M 78 (101 + 2 * u))) : Ct E1 yX12_orders cX12_orders 1 (some .long) rm_X12_orders [.ref 77] S M (Ql (ordF (M 78) (M 80) N (M 88)) scrW S M NB) := by
  have hp := p2_le hN
  have hp1 : 1 ≤ (2 ^ N : Nat) := Nat.one_le_two_pow
  refine Ct.mk [.ref 77] (by decide) rfl (Nat.le_of_ble_eq_true rfl) (fun X K => ?_)
  refine wp_aload_n (n := 1) K dX12_orders_0 rfl rfl ?_
  refine wp_aload_n (n := 2) K dX12_orders_1 rfl rfl ?_
  refine wp_getF (n := 5) K dX12_orders_2 rfl fl_X12_7 rfl (liS rfl) rfl rfl ?_
  refine wp_iconst (n := 6) K dX12_orders_5 rfl ?_
  refine wp_iald (n := 7) K dX12_orders_6 rfl rfl (liS rfl) ⟨by omega, by omega, by omega⟩ ?_
  try simp only [up_same, up_up, up_ne, ne_eq, Nat.reduceEqDiff, not_false_eq_true, Int.reduceToNat, Int.toNat_natCast]
  rw [h0]
  refine wp_iconst (n := 8) K dX12_orders_7 rfl ?_
  refine wp_invV_qn (n := 11) K dX12_orders_8 rfl cf_X12_315 (m_count N N false hN hN _ _ hL h0 hnb hso) rfl rfl rfl (liS rfl) rfl (by decide) ⟨Nat.le_refl _, Nat.le_refl _⟩ (Nat.le_of_ble_eq_true rfl) (fun M1 hM1 gM1 => ?_)
  refine wp_aload_n (n := 12) K dX12_orders_11 rfl rfl ?_
  refine wp_getF (n := 15) K dX12_orders_12 rfl fl_X12_49 rfl (liS rfl) rfl rfl ?_
  refine wp_aload_n (n := 16) K dX12_orders_15 rfl rfl ?_
  refine wp_invV_i (n := 19) K dX12_orders_16 rfl cf_X12_66 (m_all N hN _ _ (by rw [hM1 _ (by decide)]; exact h0)) rfl rfl rfl (liS rfl) rfl (by decide) ⟨Nat.le_refl _, Nat.le_refl _⟩ (Nat.le_of_ble_eq_true rfl) ?_
  refine wp_lald (n := 20) K dX12_orders_19 rfl rfl (liS rfl) ⟨by omega, by omega, by omega⟩ ?_
  try simp only [up_same, up_up, up_ne, ne_eq, Nat.reduceEqDiff, not_false_eq_true, Int.reduceToNat, Int.toNat_natCast]
  refine ret_ql K dX12_orders_20 ?_ rfl ?_ ?_ ⟨Nat.le_refl _, Nat.le_refl _⟩
  · rw [gM1.2]; rfl
  · exact hM1
  · exact gM1.1
def hrT (W : Nat → Int) (most all : Nat) : Nat → Int × Nat × Nat
  | 0 => (0, all, 0)
  | k + 1 => if cnt 12 k = most ∧ W k ≠ 0 then ((hrT W most all k).1 + W k, (hrT W most all k).2.1 &&& k, (hrT W most all k).2.2 ||| k) else hrT W most all k
theorem hrT_r {W : Nat → Int} {most all N : Nat} (ha : all < 2 ^ N) (hW : ∀ j, j < 2 ^ N → 0 ≤ W j ∧ W j ≤ 479001600) : ∀ k, k ≤ 2 ^ N → (0 ≤ (hrT W most all k).1 ∧ (hrT W most all k).1 ≤ 479001600 * (k : Int)) ∧ (hrT W most all k).2.1 < 2 ^ N ∧ (hrT W most all k).2.2 < 2 ^ N := by
  intro k
  induction k with
  | zero => intro _; exact ⟨⟨by show (0 : Int) ≤ 0; omega, by show (0 : Int) ≤ _; omega⟩, ha, Nat.two_pow_pos _⟩
  | succ k ih =>
    intro hk
    obtain ⟨a, b, c⟩ := ih (by omega)
    have := hW k (by omega)
    unfold hrT
    split
    · exact ⟨by dsimp only; omega, Nat.lt_of_le_of_lt Nat.and_le_left b, Nat.or_lt_two_pow c (by omega)⟩
    · exact ⟨by omega, b, c⟩
def heardF (W : Nat → Int) (most N : Nat) (w : Int) : Int := if w = 0 then (hrT W most (2 ^ N - 1) (2 ^ N)).1 else if w = 2 then ((hrT W most (2 ^ N - 1) (2 ^ N)).2.2 : Int) else if w = 1 then (if (hrT W most (2 ^ N - 1) (2 ^ N)).1 = 0 then 0 else ((hrT W most (2 ^ N - 1) (2 ^ N)).2.1 : Int)) else -1

theorem m_heard (w : Int) (h1 : InR w) (N U : Nat) (hN : N ≤ 12) (hU : U ≤ 8) (S : ST) (M : MT) (hL : LW (M 78) (M 80)) (h0 : M 78 0 = N) (h7 : M 78 7 = U) (hnb : NB M) (hso : ∀ u : Nat, u < 12 → InR (M 78 (100 + 2 * u)) ∧ InR (M 78 (101 + 2 * u))) : Ct E1 yX12_heard cX12_heard 7 (some .long) rm_X12_heard [.ref 77, .int (z w)] S M (Ql (heardF (wyT (okW (M 78) (M 80) true) N U (M 88) (2 ^ N)) U N w) scrW S M NB) := by
  have hp := p2_le hN
  have hp1 : 1 ≤ (2 ^ N : Nat) := Nat.one_le_two_pow
  have hWr := fun T (hT : T < 2 ^ N) => wyT_r (okW_b (M 78) (M 80) true) hN (most := U) (W := M 88) (Nat.le_refl _) hT
  refine Ct.mk [.ref 77, .int (z w), mkV, mkV, mkV, mkV, mkV] (by decide) rfl (Nat.le_of_ble_eq_true rfl) (fun X K => ?_)
  unfold heardF at K
  refine wp_iload_n (n := 1) K dX12_heard_0 rfl rfl ?_
  refine wp_iconst (n := 2) K dX12_heard_1 rfl ?_
  refine wp_iconst (n := 3) K dX12_heard_2 rfl ?_
  refine wp_invS_i (n := 6) K dX12_heard_3 rfl cf_X12_62 (m_isIn _ _ _ (by unfold InR; omega) (by unfold InR; omega) (by unfold InR; omega) _ _) rfl rfl (by decide) ⟨Nat.le_refl _, Nat.le_refl _⟩ (Nat.le_of_ble_eq_true rfl) ?_
  refine wp_if_ne_b (n := 9) K dX12_heard_6 rfl (tgt := 13) (by decide) (fun c6 => ?_) (fun c6 => ?_)
  rotate_left
  · have := of_decide_eq_false c6
    rw [if_neg (by omega), if_neg (by omega), if_neg (by omega)] at K
    refine wp_ldc2 (n := 12) K dX12_heard_9 rfl (-1) co_X12_319 ?_
    refine ret_ql K dX12_heard_12 ?_ rfl ?_ ?_ ⟨Nat.le_refl _, Nat.le_refl _⟩
    · rfl
    · exact fun _ _ => rfl
    · exact hnb
  have hw := of_decide_eq_true c6
  refine wp_aload_n (n := 14) K dX12_heard_13 rfl rfl ?_
  refine wp_aload_n (n := 15) K dX12_heard_14 rfl rfl ?_
  refine wp_getF (n := 18) K dX12_heard_15 rfl fl_X12_7 rfl (liS rfl) rfl rfl ?_
  refine wp_bipush (n := 20) K dX12_heard_18 rfl rfl ?_
  refine wp_iald (n := 21) K dX12_heard_20 rfl rfl (liS rfl) ⟨by omega, by omega, by omega⟩ ?_
  try simp only [up_same, up_up, up_ne, ne_eq, Nat.reduceEqDiff, not_false_eq_true, Int.reduceToNat, Int.toNat_natCast]
  rw [h7]
  refine wp_iconst (n := 22) K dX12_heard_21 rfl ?_
  refine wp_invV_qn (n := 25) K dX12_heard_22 rfl cf_X12_315 (m_count N U true hN (by omega) _ _ hL h0 hnb hso) rfl rfl rfl (liS rfl) rfl (by decide) ⟨Nat.le_refl _, Nat.le_refl _⟩ (Nat.le_of_ble_eq_true rfl) (fun M1 hM1 gM1 => ?_)
  have e78 : M1 78 = M 78 := hM1 _ (by decide)
  obtain ⟨g1, g2⟩ := gM1
  generalize wyT (okW (M 78) (M 80) true) N U (M 88) (2 ^ N) = W at *
  have hr := hrT_r (W := W) (most := U) (all := 2 ^ N - 1) (N := N) (by omega) hWr
  refine wp_lconst (n := 26) (a := 0) K dX12_heard_25 rfl rfl ?_
  refine wp_lstore_n (n := 27) K dX12_heard_26 rfl (by decide) ?_
  refine wp_aload_n (n := 28) K dX12_heard_27 rfl rfl ?_
  refine wp_invV_i (n := 31) K dX12_heard_28 rfl cf_X12_66 (m_all N hN _ _ (by rw [e78]; exact h0)) rfl rfl rfl (liS rfl) rfl (by decide) ⟨Nat.le_refl _, Nat.le_refl _⟩ (Nat.le_of_ble_eq_true rfl) ?_
  refine wp_istore (n := 33) K dX12_heard_31 rfl (by decide) ?_
  refine wp_iconst (n := 34) K dX12_heard_33 rfl ?_
  refine wp_istore (n := 36) K dX12_heard_34 rfl (by decide) ?_
  refine wp_iconst (n := 37) K dX12_heard_36 rfl ?_
  refine wp_istore (n := 39) K dX12_heard_37 rfl (by decide) ?_
  refine dn (2 ^ N) (Q := fun k => Wp E1 X 39 [.ref 77, .int (z w), .long (zl (hrT W U (2 ^ N - 1) k).1), mkV, .int (z ((hrT W U (2 ^ N - 1) k).2.1 : Int)), .int (z ((hrT W U (2 ^ N - 1) k).2.2 : Int)), .int (z (k : Int))] [] S M1) (fun k hk ih => ?_) 0 (by omega)
  obtain ⟨b1, b2, b3⟩ := hr k hk
  have hcl := cnt_le 12 k
  refine wp_iload (n := 41) K dX12_heard_39 rfl rfl ?_
  refine wp_aload_n (n := 42) K dX12_heard_41 rfl rfl ?_
  refine wp_invV_i (n := 45) K dX12_heard_42 rfl cf_X12_66 (m_all N hN _ _ (by rw [e78]; exact h0)) rfl rfl rfl (liS rfl) rfl (by decide) ⟨Nat.le_refl _, Nat.le_refl _⟩ (Nat.le_of_ble_eq_true rfl) ?_
  refine wp_icmp_gt (n := 48) K dX12_heard_45 rfl (tgt := 108) (by decide) ⟨by omega, by omega⟩ ⟨by omega, by omega⟩ (fun c45 => ?_) (fun c45 => ?_)
  · have hk2 : k = 2 ^ N := by omega
    rw [← hk2] at K
    rw [show 2 ^ N - 1 = k - 1 by omega] at b1 b2 b3 ⊢
    generalize hrT W U (k - 1) k = R at *
    refine wp_iload_n (n := 109) K dX12_heard_108 rfl rfl ?_
    refine wp_if_ne (n := 112) K dX12_heard_109 rfl (tgt := 116) (by decide) ⟨by omega, by omega⟩ (fun c109 => ?_) (fun c109 => ?_)
    · rw [if_neg c109] at K
      refine wp_iload_n (n := 117) K dX12_heard_116 rfl rfl ?_
      refine wp_iconst (n := 118) K dX12_heard_117 rfl ?_
      refine wp_icmp_ne (n := 121) K dX12_heard_118 rfl (tgt := 127) (by decide) ⟨by omega, by omega⟩ ⟨by omega, by omega⟩ (fun c118 => ?_) (fun c118 => ?_)
      · rw [if_neg c118, if_pos (by omega)] at K
        refine wp_lload_n (n := 128) K dX12_heard_127 rfl rfl ?_
        refine wp_lconst (n := 129) (a := 0) K dX12_heard_128 rfl rfl ?_
        refine wp_lcmp (n := 130) K dX12_heard_129 rfl ?_
        refine wp_if_ne (n := 133) K dX12_heard_130 rfl (tgt := 137) (by decide) (lcmp_r _ _) (fun c130 => ?_) (fun c130 => ?_)
        · have c : ¬ R.1 = 0 := fun q => c130 (lcmp_eq.mpr (by rw [q]))
          rw [if_neg c] at K
          refine wp_iload (n := 139) K dX12_heard_137 rfl rfl ?_
          refine wp_i2l (n := 140) K dX12_heard_139 rfl ⟨by omega, by omega⟩ ?_
          refine ret_ql K dX12_heard_140 ?_ rfl ?_ ?_ ⟨Nat.le_refl _, Nat.le_refl _⟩
          · rfl
          · exact hM1
          · exact g1
        · have c := lcmp_eq.mp c130
          rw [w64_id (by omega) (by omega), show w64 0 = 0 from rfl] at c
          rw [if_pos c] at K
          refine wp_lconst (n := 134) (a := 0) K dX12_heard_133 rfl rfl ?_
          refine wp_goto K dX12_heard_134 (tgt := 140) (by decide) ?_
          refine ret_ql K dX12_heard_140 ?_ rfl ?_ ?_ ⟨Nat.le_refl _, Nat.le_refl _⟩
          · rfl
          · exact hM1
          · exact g1
      · rw [if_pos c118] at K
        refine wp_iload (n := 123) K dX12_heard_121 rfl rfl ?_
        refine wp_i2l (n := 124) K dX12_heard_123 rfl ⟨by omega, by omega⟩ ?_
        refine wp_goto K dX12_heard_124 (tgt := 140) (by decide) ?_
        refine ret_ql K dX12_heard_140 ?_ rfl ?_ ?_ ⟨Nat.le_refl _, Nat.le_refl _⟩
        · rfl
        · exact hM1
        · exact g1
    · rw [if_pos c109] at K
      refine wp_lload_n (n := 113) K dX12_heard_112 rfl rfl ?_
      refine wp_goto K dX12_heard_113 (tgt := 140) (by decide) ?_
      refine ret_ql K dX12_heard_140 ?_ rfl ?_ ?_ ⟨Nat.le_refl _, Nat.le_refl _⟩
      · rfl
      · exact hM1
      · exact g1
  · have ih := ih (by omega)
    unfold hrT at ih
    generalize hrT W U (2 ^ N - 1) k = R at *
    have hWk := hWr k (by omega)
    refine wp_iload (n := 50) K dX12_heard_48 rfl rfl ?_
    refine wp_invS_i (n := 53) K dX12_heard_50 rfl cf_X12_70 (m_bits _ (by omega) _ _) rfl rfl (by decide) ⟨Nat.le_refl _, Nat.le_refl _⟩ (Nat.le_of_ble_eq_true rfl) ?_
    refine wp_aload_n (n := 54) K dX12_heard_53 rfl rfl ?_
    refine wp_getF (n := 57) K dX12_heard_54 rfl fl_X12_7 rfl (liS rfl) rfl rfl ?_
    refine wp_bipush (n := 59) K dX12_heard_57 rfl rfl ?_
    refine wp_iald (n := 60) K dX12_heard_59 rfl rfl (liS rfl) ⟨by omega, by omega, by omega⟩ ?_
    try simp only [up_same, up_up, up_ne, ne_eq, Nat.reduceEqDiff, not_false_eq_true, Int.reduceToNat, Int.toNat_natCast]
    rw [e78, h7]
    refine wp_icmp_ne (n := 63) K dX12_heard_60 rfl (tgt := 102) (by decide) ⟨by omega, by omega⟩ ⟨by omega, by omega⟩ (fun c60 => ?_) (fun c60 => ?_)
    · rw [if_neg (fun q => c60 (by rw [q.1]))] at ih
      refine wp_iinc (n := 105) K dX12_heard_102 rfl rfl (by decide) ?_
      refine wp_goto K dX12_heard_105 (tgt := 39) (by decide) ?_
      exact ih
    · refine wp_aload_n (n := 64) K dX12_heard_63 rfl rfl ?_
      refine wp_getF (n := 67) K dX12_heard_64 rfl fl_X12_49 rfl (liS rfl) rfl rfl ?_
      refine wp_iload (n := 69) K dX12_heard_67 rfl rfl ?_
      refine wp_lald (n := 70) K dX12_heard_69 rfl rfl (liS rfl) ⟨by omega, by omega, by omega⟩ ?_
      try simp only [up_same, up_up, up_ne, ne_eq, Nat.reduceEqDiff, not_false_eq_true, Int.reduceToNat, Int.toNat_natCast]
      rw [g2]
      refine wp_lconst (n := 71) (a := 0) K dX12_heard_70 rfl rfl ?_
      refine wp_lcmp (n := 72) K dX12_heard_71 rfl ?_
      refine wp_if_ne (n := 75) K dX12_heard_72 rfl (tgt := 78) (by decide) (lcmp_r _ _) (fun c72 => ?_) (fun c72 => ?_)
      · have c : W k ≠ 0 := fun q => c72 (lcmp_eq.mpr (by rw [q]))
        rw [if_pos ⟨by omega, c⟩] at ih
        refine wp_lload_n (n := 79) K dX12_heard_78 rfl rfl ?_
        refine wp_aload_n (n := 80) K dX12_heard_79 rfl rfl ?_
        refine wp_getF (n := 83) K dX12_heard_80 rfl fl_X12_49 rfl (liS rfl) rfl rfl ?_
        refine wp_iload (n := 85) K dX12_heard_83 rfl rfl ?_
        refine wp_lald (n := 86) K dX12_heard_85 rfl rfl (liS rfl) ⟨by omega, by omega, by omega⟩ ?_
        try simp only [up_same, up_up, up_ne, ne_eq, Nat.reduceEqDiff, not_false_eq_true, Int.reduceToNat, Int.toNat_natCast]
        rw [g2]
        refine wp_ladd (n := 87) K dX12_heard_86 rfl ?_
        refine wp_lstore_n (n := 88) K dX12_heard_87 rfl (by decide) ?_
        refine wp_iload (n := 90) K dX12_heard_88 rfl rfl ?_
        refine wp_iload (n := 92) K dX12_heard_90 rfl rfl ?_
        refine wp_iand (n := 93) K dX12_heard_92 rfl ?_
        rw [band_n (by omega) (by omega)]
        refine wp_istore (n := 95) K dX12_heard_93 rfl (by decide) ?_
        refine wp_iload (n := 97) K dX12_heard_95 rfl rfl ?_
        refine wp_iload (n := 99) K dX12_heard_97 rfl rfl ?_
        refine wp_ior (n := 100) K dX12_heard_99 rfl ?_
        rw [bor_n (by omega) (by omega)]
        refine wp_istore (n := 102) K dX12_heard_100 rfl (by decide) ?_
        refine wp_iinc (n := 105) K dX12_heard_102 rfl rfl (by decide) ?_
        refine wp_goto K dX12_heard_105 (tgt := 39) (by decide) ?_
        exact ih
      · have c := lcmp_eq.mp c72
        rw [w64_id (by omega) (by omega), show w64 0 = 0 from rfl] at c
        rw [if_neg (fun q => q.2 c)] at ih
        refine wp_goto K dX12_heard_75 (tgt := 102) (by decide) ?_
        refine wp_iinc (n := 105) K dX12_heard_102 rfl rfl (by decide) ?_
        refine wp_goto K dX12_heard_105 (tgt := 39) (by decide) ?_
        exact ih
