theorem ne5 {s n i j : Nat} (h : s ≠ n) (hi : i < 5) (hj : j < 5) : 10 + i + 5 * s ≠ 10 + j + 5 * n := by omega

theorem HR.house {M : MT} {σ : Nat → Int} (h : HN M σ) (sp : Int) (n : Nat) (hn : σ 3 = n) (h10 : n < 10) : HN (up (up (up (up M 25 (up (M 25) n sp)) 26 (up (M 26) n 0)) 27 (up (M 27) n 0)) 24 (up (M 24) 4 ((n : Int) + 1))) (houseA σ sp) := by
  refine ⟨by simp [up, houseA, hn], fun k hk => ?_⟩
  obtain ⟨g1, g2, g3⟩ := h.2 k hk
  simp only [houseA, up, hn, Int.toNat_natCast]
  refine ⟨?_, ?_, ?_⟩ <;> simp [up] <;> (repeat' split) <;> first | omega | assumption | rfl
theorem c_house (sp : Int) (hs : InR sp) (S : ST) (M : MT) (σ : Nat → Int) (h : HN M σ) (hw : WH σ) : ((0 ≤ sp ∧ sp ≤ 99) ∧ σ 3 ≠ 10 → Ct E1 yX11_house cX11_house 4 (some .int) rm_X11_house [.ref 16, .int (z sp)] S M (Qi (σ 3) [24, 25, 26, 27] S M (fun M1 => HN M1 (houseA σ sp)))) ∧ (¬ ((0 ≤ sp ∧ sp ≤ 99) ∧ σ 3 ≠ 10) → Ct E1 yX11_house cX11_house 4 (some .int) rm_X11_house [.ref 16, .int (z sp)] S M (Pi (-1) S M)) := by
  have h3 := hw.1
  have h4 := h.1
  have hn : σ 3 = ((σ 3).toNat : Int) := by omega
  refine ⟨fun c => ?_, fun c => ?_⟩
  · refine Ct.mk [.ref 16, .int (z sp), mkV, mkV] (by decide) rfl (Nat.le_of_ble_eq_true rfl) (fun X K => ?_)
    refine wp_aload_n (n := 1) K dX11_house_0 rfl rfl ?_
    refine wp_getF (n := 4) K dX11_house_1 rfl fl_X11_12 rfl (liS rfl) rfl rfl ?_
    refine wp_getF (n := 7) K dX11_house_4 rfl fl_X11_106 rfl (liS rfl) rfl rfl ?_
    refine wp_astore_n (n := 8) K dX11_house_7 rfl (by decide) (by decide) ?_
    refine wp_iload_n (n := 9) K dX11_house_8 rfl rfl ?_
    refine wp_if_lt (n := 12) K dX11_house_9 rfl (tgt := 27) (by decide) ⟨by omega, by omega⟩ (fun c9 => ?_) (fun c9 => ?_)
    · omega
    · refine wp_iload_n (n := 13) K dX11_house_12 rfl rfl ?_
      refine wp_bipush (n := 15) K dX11_house_13 rfl rfl ?_
      refine wp_icmp_gt (n := 18) K dX11_house_15 rfl (tgt := 27) (by decide) ⟨by omega, by omega⟩ ⟨by omega, by omega⟩ (fun c15 => ?_) (fun c15 => ?_)
      · omega
      · refine wp_aload_n (n := 19) K dX11_house_18 rfl rfl ?_
        refine wp_getI (n := 22) K dX11_house_19 rfl fl_X11_110 rfl (liS rfl) rfl ?_
        try simp only [up_same, up_up, up_ne, ne_eq, Nat.reduceEqDiff, not_false_eq_true, Int.reduceToNat, Int.toNat_natCast]
        refine wp_bipush (n := 24) K dX11_house_22 rfl rfl ?_
        refine wp_icmp_lt (n := 27) K dX11_house_24 rfl (tgt := 29) (by decide) ⟨by omega, by omega⟩ ⟨by omega, by omega⟩ (fun c24 => ?_) (fun c24 => ?_)
        · refine wp_aload_n (n := 30) K dX11_house_29 rfl rfl ?_
          refine wp_getI (n := 33) K dX11_house_30 rfl fl_X11_110 rfl (liS rfl) rfl ?_
          try simp only [up_same, up_up, up_ne, ne_eq, Nat.reduceEqDiff, not_false_eq_true, Int.reduceToNat, Int.toNat_natCast]
          refine wp_istore_n (n := 34) K dX11_house_33 rfl (by decide) ?_
          rw [h4, hn]
          refine wp_aload_n (n := 35) K dX11_house_34 rfl rfl ?_
          refine wp_getF (n := 38) K dX11_house_35 rfl fl_X11_113 rfl (liS rfl) rfl rfl ?_
          refine wp_iload_n (n := 39) K dX11_house_38 rfl rfl ?_
          refine wp_iload_n (n := 40) K dX11_house_39 rfl rfl ?_
          refine wp_iast (n := 41) K dX11_house_40 rfl rfl (liS rfl) (fun _ => rfl) ⟨by omega, by omega, by omega⟩ ?_
          try simp only [up_same, up_up, up_ne, ne_eq, Nat.reduceEqDiff, not_false_eq_true, Int.reduceToNat, Int.toNat_natCast]
          refine wp_aload_n (n := 42) K dX11_house_41 rfl rfl ?_
          refine wp_getF (n := 45) K dX11_house_42 rfl fl_X11_116 rfl (liS rfl) rfl rfl ?_
          refine wp_iload_n (n := 46) K dX11_house_45 rfl rfl ?_
          refine wp_iconst (n := 47) K dX11_house_46 rfl ?_
          refine wp_iast (n := 48) K dX11_house_47 rfl rfl (liS rfl) (fun _ => rfl) ⟨by omega, by omega, by omega⟩ ?_
          try simp only [up_same, up_up, up_ne, ne_eq, Nat.reduceEqDiff, not_false_eq_true, Int.reduceToNat, Int.toNat_natCast]
          refine wp_aload_n (n := 49) K dX11_house_48 rfl rfl ?_
          refine wp_getF (n := 52) K dX11_house_49 rfl fl_X11_119 rfl (liS rfl) rfl rfl ?_
          refine wp_iload_n (n := 53) K dX11_house_52 rfl rfl ?_
          refine wp_iconst (n := 54) K dX11_house_53 rfl ?_
          refine wp_iast (n := 55) K dX11_house_54 rfl rfl (liS rfl) (fun _ => rfl) ⟨by omega, by omega, by omega⟩ ?_
          try simp only [up_same, up_up, up_ne, ne_eq, Nat.reduceEqDiff, not_false_eq_true, Int.reduceToNat, Int.toNat_natCast]
          refine wp_aload_n (n := 56) K dX11_house_55 rfl rfl ?_
          refine wp_iload_n (n := 57) K dX11_house_56 rfl rfl ?_
          refine wp_iconst (n := 58) K dX11_house_57 rfl ?_
          refine wp_iadd (n := 59) K dX11_house_58 rfl ?_
          refine wp_putI (n := 62) K dX11_house_59 rfl fl_X11_110 rfl (liS rfl) (Or.inl rfl) rfl rfl ?_
          try simp only [up_same, up_up, up_ne, ne_eq, Nat.reduceEqDiff, not_false_eq_true, Int.reduceToNat, Int.toNat_natCast]
          refine wp_iload_n (n := 63) K dX11_house_62 rfl rfl ?_
          refine ret_qi K dX11_house_63 ?_ rfl ?_ ?_ ⟨Nat.le_refl _, Nat.le_refl _⟩
          · exact hn.symm
          · (intro a ha; simp only [List.mem_cons, List.not_mem_nil, or_false, not_or] at ha; simp [up, ha])
          · exact h.house sp _ hn (by omega)
        · omega
  · refine Ct.mk [.ref 16, .int (z sp), mkV, mkV] (by decide) rfl (Nat.le_of_ble_eq_true rfl) (fun X K => ?_)
    refine wp_aload_n (n := 1) K dX11_house_0 rfl rfl ?_
    refine wp_getF (n := 4) K dX11_house_1 rfl fl_X11_12 rfl (liS rfl) rfl rfl ?_
    refine wp_getF (n := 7) K dX11_house_4 rfl fl_X11_106 rfl (liS rfl) rfl rfl ?_
    refine wp_astore_n (n := 8) K dX11_house_7 rfl (by decide) (by decide) ?_
    refine wp_iload_n (n := 9) K dX11_house_8 rfl rfl ?_
    refine wp_if_lt (n := 12) K dX11_house_9 rfl (tgt := 27) (by decide) ⟨by omega, by omega⟩ (fun c9 => ?_) (fun c9 => ?_)
    · refine wp_iconst (n := 28) K dX11_house_27 rfl ?_
      refine ret_i K dX11_house_28 ?_ rfl ?_ ⟨Nat.le_refl _, Nat.le_refl _⟩
      all_goals rfl
    · refine wp_iload_n (n := 13) K dX11_house_12 rfl rfl ?_
      refine wp_bipush (n := 15) K dX11_house_13 rfl rfl ?_
      refine wp_icmp_gt (n := 18) K dX11_house_15 rfl (tgt := 27) (by decide) ⟨by omega, by omega⟩ ⟨by omega, by omega⟩ (fun c15 => ?_) (fun c15 => ?_)
      · refine wp_iconst (n := 28) K dX11_house_27 rfl ?_
        refine ret_i K dX11_house_28 ?_ rfl ?_ ⟨Nat.le_refl _, Nat.le_refl _⟩
        all_goals rfl
      · refine wp_aload_n (n := 19) K dX11_house_18 rfl rfl ?_
        refine wp_getI (n := 22) K dX11_house_19 rfl fl_X11_110 rfl (liS rfl) rfl ?_
        try simp only [up_same, up_up, up_ne, ne_eq, Nat.reduceEqDiff, not_false_eq_true, Int.reduceToNat, Int.toNat_natCast]
        refine wp_bipush (n := 24) K dX11_house_22 rfl rfl ?_
        refine wp_icmp_lt (n := 27) K dX11_house_24 rfl (tgt := 29) (by decide) ⟨by omega, by omega⟩ ⟨by omega, by omega⟩ (fun c24 => ?_) (fun c24 => ?_)
        · omega
        · refine wp_iconst (n := 28) K dX11_house_27 rfl ?_
          refine ret_i K dX11_house_28 ?_ rfl ?_ ⟨Nat.le_refl _, Nat.le_refl _⟩
          all_goals rfl

theorem c_setNear (one other : Nat) (is : Bool) (h1 : one < 10) (h2 : other < 10) (S : ST) (M : MT) (σ : Nat → Int) (h : HN M σ) (hw : WH σ) : Ct E1 yX1_setNear cX1_setNear 4 none rm_X1_setNear [.ref 24, .int (z (one : Int)), .int (z (other : Int)), .int (z (bI is))] S M (Qn [27] S M (fun M1 => HN M1 (touchA σ one other is))) := by
  have g := (h.2 one h1).2.2
  have hr := hw.nr h1
  have ho : 2 ^ other < 1024 := Nat.lt_of_le_of_lt (Nat.pow_le_pow_right (n := 2) (by decide) (show other ≤ 9 by omega)) (by decide)
  have key : ∀ v : Int, v = (((if is then nrN σ one ||| 2 ^ other else wo (nrN σ one) (2 ^ other)) : Nat) : Int) → HN (up M 27 (up (M 27) one v)) (touchA σ one other is) := by
    intro v hv
    refine ⟨by simpa [up, touchA, show ¬ (3 = 72 + 3 * one) by omega] using h.1, fun k hk => ?_⟩
    obtain ⟨g1, g2, g3⟩ := h.2 k hk
    simp only [touchA, up, ← hv]
    refine ⟨?_, ?_, ?_⟩ <;> simp [up] <;> (repeat' split) <;> first | omega | assumption | rfl
  refine Ct.mk [.ref 24, .int (z (one : Int)), .int (z (other : Int)), .int (z (bI is))] (by decide) rfl (Nat.le_of_ble_eq_true rfl) (fun X K => ?_)
  refine wp_iload_n (n := 1) K dX1_setNear_0 rfl rfl ?_
  refine wp_if_eq_b (n := 4) K dX1_setNear_1 rfl (tgt := 19) (by decide) (fun c1 => ?_) (fun c1 => ?_)
  · subst c1
    refine wp_aload_n (n := 20) K dX1_setNear_19 rfl rfl ?_
    refine wp_getF (n := 23) K dX1_setNear_20 rfl fl_X1_18 rfl (liS rfl) rfl rfl ?_
    refine wp_iload_n (n := 24) K dX1_setNear_23 rfl rfl ?_
    refine wp_dup2 (n := 25) K dX1_setNear_24 rfl rfl rfl ?_
    refine wp_iald (n := 26) K dX1_setNear_25 rfl rfl (liS rfl) ⟨by omega, by omega, by omega⟩ ?_
    try simp only [up_same, up_up, up_ne, ne_eq, Nat.reduceEqDiff, not_false_eq_true, Int.reduceToNat, Int.toNat_natCast]
    refine wp_iconst (n := 27) K dX1_setNear_26 rfl ?_
    refine wp_iload_n (n := 28) K dX1_setNear_27 rfl rfl ?_
    refine wp_ishl (n := 29) K dX1_setNear_28 rfl ?_
    refine wp_iconst (n := 30) K dX1_setNear_29 rfl ?_
    refine wp_ixor (n := 31) K dX1_setNear_30 rfl ?_
    refine wp_iand (n := 32) K dX1_setNear_31 rfl ?_
    refine wp_iast (n := 33) K dX1_setNear_32 rfl rfl (liS rfl) (fun _ => rfl) ⟨by omega, by omega, by omega⟩ ?_
    try simp only [up_same, up_up, up_ne, ne_eq, Nat.reduceEqDiff, not_false_eq_true, Int.reduceToNat, Int.toNat_natCast]
    refine ret_qn K dX1_setNear_33 rfl ?_ ?_ ⟨Nat.le_refl _, Nat.le_refl _⟩
    · (intro a ha; simp only [List.mem_cons, List.not_mem_nil, or_false, not_or] at ha; simp [up, ha])
    · refine key _ ?_
      rw [g, hr.1, bshl_1 (by omega), bandn_n (by omega) (by omega)]; rfl
  · subst c1
    refine wp_aload_n (n := 5) K dX1_setNear_4 rfl rfl ?_
    refine wp_getF (n := 8) K dX1_setNear_5 rfl fl_X1_18 rfl (liS rfl) rfl rfl ?_
    refine wp_iload_n (n := 9) K dX1_setNear_8 rfl rfl ?_
    refine wp_dup2 (n := 10) K dX1_setNear_9 rfl rfl rfl ?_
    refine wp_iald (n := 11) K dX1_setNear_10 rfl rfl (liS rfl) ⟨by omega, by omega, by omega⟩ ?_
    try simp only [up_same, up_up, up_ne, ne_eq, Nat.reduceEqDiff, not_false_eq_true, Int.reduceToNat, Int.toNat_natCast]
    refine wp_iconst (n := 12) K dX1_setNear_11 rfl ?_
    refine wp_iload_n (n := 13) K dX1_setNear_12 rfl rfl ?_
    refine wp_ishl (n := 14) K dX1_setNear_13 rfl ?_
    refine wp_ior (n := 15) K dX1_setNear_14 rfl ?_
    refine wp_iast (n := 16) K dX1_setNear_15 rfl rfl (liS rfl) (fun _ => rfl) ⟨by omega, by omega, by omega⟩ ?_
    try simp only [up_same, up_up, up_ne, ne_eq, Nat.reduceEqDiff, not_false_eq_true, Int.reduceToNat, Int.toNat_natCast]
    refine wp_goto K dX1_setNear_16 (tgt := 33) (by decide) ?_
    refine ret_qn K dX1_setNear_33 rfl ?_ ?_ ⟨Nat.le_refl _, Nat.le_refl _⟩
    · (intro a ha; simp only [List.mem_cons, List.not_mem_nil, or_false, not_or] at ha; simp [up, ha])
    · refine key _ ?_
      rw [g, hr.1, bshl_1 (by omega), bor_n (by omega) (by omega)]; rfl

theorem c_canLend (a t : Int) (h1 : InR a) (h2 : InR t) (S : ST) (M : MT) (σ : Nat → Int) (h : HN M σ) (hw : WH σ) (b : Bool) (hb : b = true ↔ canL σ a t) : Ct E1 yX1_canLend cX1_canLend 3 (some .boolean) rm_X1_canLend [.ref 24, .int (z a), .int (z t)] S M (Pi (bI b) S M) := by
  have h3 := hw.1
  have hf : ¬ canL σ a t → b = false := fun q => by cases b; rfl; exact absurd (hb.mp rfl) q
  refine Ct.mk [.ref 24, .int (z a), .int (z t)] (by decide) rfl (Nat.le_of_ble_eq_true rfl) (fun X K => ?_)
  refine wp_aload_n (n := 1) K dX1_canLend_0 rfl rfl ?_
  refine wp_iload_n (n := 2) K dX1_canLend_1 rfl rfl ?_
  refine wp_invV_i (n := 5) K dX1_canLend_2 rfl cf_X1_28 (c_hasH a h1 _ _ _ h3 h.1) rfl rfl rfl (liS rfl) rfl (by decide) ⟨Nat.le_refl _, Nat.le_refl _⟩ (Nat.le_of_ble_eq_true rfl) ?_
  refine wp_if_eq_b (n := 8) K dX1_canLend_5 rfl (tgt := 44) (by decide) (fun c5 => ?_) (fun c5 => ?_)
  · rw [hf (fun q => by have := of_decide_eq_false c5; exact this q.1)] at K
    refine wp_iconst (n := 45) K dX1_canLend_44 rfl ?_
    refine ret_z K dX1_canLend_45 ?_ rfl ?_ ⟨Nat.le_refl _, Nat.le_refl _⟩
    · rfl
    · rfl
  · have e1 := of_decide_eq_true c5
    refine wp_aload_n (n := 9) K dX1_canLend_8 rfl rfl ?_
    refine wp_iload_n (n := 10) K dX1_canLend_9 rfl rfl ?_
    refine wp_invV_i (n := 13) K dX1_canLend_10 rfl cf_X1_28 (c_hasH t h2 _ _ _ h3 h.1) rfl rfl rfl (liS rfl) rfl (by decide) ⟨Nat.le_refl _, Nat.le_refl _⟩ (Nat.le_of_ble_eq_true rfl) ?_
    refine wp_if_eq_b (n := 16) K dX1_canLend_13 rfl (tgt := 44) (by decide) (fun c13 => ?_) (fun c13 => ?_)
    · rw [hf (fun q => by have := of_decide_eq_false c13; exact this q.2.1)] at K
      refine wp_iconst (n := 45) K dX1_canLend_44 rfl ?_
      refine ret_z K dX1_canLend_45 ?_ rfl ?_ ⟨Nat.le_refl _, Nat.le_refl _⟩
      · rfl
      · rfl
    · have e2 := of_decide_eq_true c13
      have ea : a = (a.toNat : Int) := by omega
      have et : t = (t.toNat : Int) := by omega
      have g := h.2 a.toNat (by omega)
      have hr := hw.nr (h := a.toNat) (by omega)
      obtain ⟨w1, -⟩ := hw.2 a.toNat (by omega)
      refine wp_aload_n (n := 17) K dX1_canLend_16 rfl rfl ?_
      refine wp_getF (n := 20) K dX1_canLend_17 rfl fl_X1_18 rfl (liS rfl) rfl rfl ?_
      refine wp_iload_n (n := 21) K dX1_canLend_20 rfl rfl ?_
      refine wp_iald (n := 22) K dX1_canLend_21 rfl rfl (liS rfl) ⟨by omega, by omega, by omega⟩ ?_
      try simp only [up_same, up_up, Int.reduceToNat, Int.toNat_natCast]
      refine wp_iload_n (n := 23) K dX1_canLend_22 rfl rfl ?_
      refine wp_ishr (n := 24) K dX1_canLend_23 rfl ?_
      refine wp_iconst (n := 25) K dX1_canLend_24 rfl ?_
      refine wp_iand (n := 26) K dX1_canLend_25 rfl ?_
      refine wp_iconst (n := 27) K dX1_canLend_26 rfl ?_
      have eb : band (bshr (M 27 a.toNat) t) 1 = (((nrN σ a.toNat).testBit t.toNat).toNat : Int) := by
        rw [g.2.2, hr.1, et]; exact bit_n (by omega) (by omega)
      rw [eb]
      have hl := Bool.toNat_le ((nrN σ a.toNat).testBit t.toNat)
      refine wp_icmp_ne (n := 30) K dX1_canLend_27 rfl (tgt := 44) (by decide) ⟨by omega, by omega⟩ ⟨by omega, by omega⟩ (fun c27 => ?_) (fun c27 => ?_)
      · rw [hf (fun q => by rw [q.2.2.1] at c27; exact c27 rfl)] at K
        refine wp_iconst (n := 45) K dX1_canLend_44 rfl ?_
        refine ret_z K dX1_canLend_45 ?_ rfl ?_ ⟨Nat.le_refl _, Nat.le_refl _⟩
        · rfl
        · rfl
      · have ht : (nrN σ a.toNat).testBit t.toNat = true := by
          cases hq : (nrN σ a.toNat).testBit t.toNat with
          | true => rfl
          | false => rw [hq] at c27; cases c27
        refine wp_aload_n (n := 31) K dX1_canLend_30 rfl rfl ?_
        refine wp_getF (n := 34) K dX1_canLend_31 rfl fl_X1_9 rfl (liS rfl) rfl rfl ?_
        refine wp_iload_n (n := 35) K dX1_canLend_34 rfl rfl ?_
        refine wp_iald (n := 36) K dX1_canLend_35 rfl rfl (liS rfl) ⟨by omega, by omega, by omega⟩ ?_
        try simp only [up_same, up_up, Int.reduceToNat, Int.toNat_natCast]
        refine wp_iconst (n := 37) K dX1_canLend_36 rfl ?_
        rw [g.1]
        refine wp_icmp_lt (n := 40) K dX1_canLend_37 rfl (tgt := 44) (by decide) ⟨by omega, by omega⟩ ⟨by omega, by omega⟩ (fun c37 => ?_) (fun c37 => ?_)
        · rw [hf (fun q => by have := q.2.2.2; omega)] at K
          refine wp_iconst (n := 45) K dX1_canLend_44 rfl ?_
          refine ret_z K dX1_canLend_45 ?_ rfl ?_ ⟨Nat.le_refl _, Nat.le_refl _⟩
          · rfl
          · rfl
        · rw [hb.mpr ⟨e1, e2, ht, by omega⟩] at K
          refine wp_iconst (n := 41) K dX1_canLend_40 rfl ?_
          refine wp_goto K dX1_canLend_41 (tgt := 45) (by decide) ?_
          refine ret_z K dX1_canLend_45 ?_ rfl ?_ ⟨Nat.le_refl _, Nat.le_refl _⟩
          · rfl
          · rfl
theorem HR.lend {M : MT} {σ : Nat → Int} (h : HN M σ) (a t : Nat) (ha : a < 10) (ht : t < 10) : HN (up (up M 25 (up (up (M 25) a (M 25 a - 1)) t (up (M 25) a (M 25 a - 1) t + 1))) 26 (up (up (M 26) a (M 26 a - 1)) t (up (M 26) a (M 26 a - 1) t + 1))) (lendsA σ a t) := by
  refine ⟨by have := h.1; simp only [lendsA, up]; simp [up]; (repeat' split) <;> first | omega | assumption | rfl, fun k hk => ?_⟩
  obtain ⟨g1, g2, g3⟩ := h.2 k hk
  obtain ⟨a1, a2, -⟩ := h.2 a ha
  obtain ⟨t1, t2, -⟩ := h.2 t ht
  simp only [lendsA, up]
  refine ⟨?_, ?_, ?_⟩ <;> simp [up] <;> (repeat' split) <;> (try subst_vars) <;> first | omega | assumption | rfl

theorem c_moveOne (a t : Nat) (h1 : a < 10) (h2 : t < 10) (S : ST) (M : MT) (σ : Nat → Int) (h : HN M σ) : Ct E1 yX1_moveOne cX1_moveOne 3 none rm_X1_moveOne [.ref 24, .int (z (a : Int)), .int (z (t : Int))] S M (Qn [25, 26] S M (fun M1 => HN M1 (lendsA σ a t))) := by
  refine Ct.mk [.ref 24, .int (z (a : Int)), .int (z (t : Int))] (by decide) rfl (Nat.le_of_ble_eq_true rfl) (fun X K => ?_)
  refine wp_aload_n (n := 1) K dX1_moveOne_0 rfl rfl ?_
  refine wp_getF (n := 4) K dX1_moveOne_1 rfl fl_X1_9 rfl (liS rfl) rfl rfl ?_
  refine wp_iload_n (n := 5) K dX1_moveOne_4 rfl rfl ?_
  refine wp_dup2 (n := 6) K dX1_moveOne_5 rfl rfl rfl ?_
  refine wp_iald (n := 7) K dX1_moveOne_6 rfl rfl (liS rfl) ⟨by omega, by omega, by omega⟩ ?_
  try simp only [up_same, up_up, up_ne, ne_eq, Nat.reduceEqDiff, not_false_eq_true, Int.reduceToNat, Int.toNat_natCast]
  refine wp_iconst (n := 8) K dX1_moveOne_7 rfl ?_
  refine wp_isub (n := 9) K dX1_moveOne_8 rfl ?_
  refine wp_iast (n := 10) K dX1_moveOne_9 rfl rfl (liS rfl) (fun _ => rfl) ⟨by omega, by omega, by omega⟩ ?_
  try simp only [up_same, up_up, up_ne, ne_eq, Nat.reduceEqDiff, not_false_eq_true, Int.reduceToNat, Int.toNat_natCast]
  refine wp_aload_n (n := 11) K dX1_moveOne_10 rfl rfl ?_
  refine wp_getF (n := 14) K dX1_moveOne_11 rfl fl_X1_15 rfl (liS rfl) rfl rfl ?_
  refine wp_iload_n (n := 15) K dX1_moveOne_14 rfl rfl ?_
  refine wp_dup2 (n := 16) K dX1_moveOne_15 rfl rfl rfl ?_
  refine wp_iald (n := 17) K dX1_moveOne_16 rfl rfl (liS rfl) ⟨by omega, by omega, by omega⟩ ?_
  try simp only [up_same, up_up, up_ne, ne_eq, Nat.reduceEqDiff, not_false_eq_true, Int.reduceToNat, Int.toNat_natCast]
  refine wp_iconst (n := 18) K dX1_moveOne_17 rfl ?_
  refine wp_isub (n := 19) K dX1_moveOne_18 rfl ?_
  refine wp_iast (n := 20) K dX1_moveOne_19 rfl rfl (liS rfl) (fun _ => rfl) ⟨by omega, by omega, by omega⟩ ?_
  try simp only [up_same, up_up, up_ne, ne_eq, Nat.reduceEqDiff, not_false_eq_true, Int.reduceToNat, Int.toNat_natCast]
  refine wp_aload_n (n := 21) K dX1_moveOne_20 rfl rfl ?_
  refine wp_getF (n := 24) K dX1_moveOne_21 rfl fl_X1_9 rfl (liS rfl) rfl rfl ?_
  refine wp_iload_n (n := 25) K dX1_moveOne_24 rfl rfl ?_
  refine wp_dup2 (n := 26) K dX1_moveOne_25 rfl rfl rfl ?_
  refine wp_iald (n := 27) K dX1_moveOne_26 rfl rfl (liS rfl) ⟨by omega, by omega, by omega⟩ ?_
  try simp only [up_same, up_up, up_ne, ne_eq, Nat.reduceEqDiff, not_false_eq_true, Int.reduceToNat, Int.toNat_natCast]
  refine wp_iconst (n := 28) K dX1_moveOne_27 rfl ?_
  refine wp_iadd (n := 29) K dX1_moveOne_28 rfl ?_
  refine wp_iast (n := 30) K dX1_moveOne_29 rfl rfl (liS rfl) (fun _ => rfl) ⟨by omega, by omega, by omega⟩ ?_
  try simp only [up_same, up_up, up_ne, ne_eq, Nat.reduceEqDiff, not_false_eq_true, Int.reduceToNat, Int.toNat_natCast]
  refine wp_aload_n (n := 31) K dX1_moveOne_30 rfl rfl ?_
  refine wp_getF (n := 34) K dX1_moveOne_31 rfl fl_X1_15 rfl (liS rfl) rfl rfl ?_
  refine wp_iload_n (n := 35) K dX1_moveOne_34 rfl rfl ?_
  refine wp_dup2 (n := 36) K dX1_moveOne_35 rfl rfl rfl ?_
  refine wp_iald (n := 37) K dX1_moveOne_36 rfl rfl (liS rfl) ⟨by omega, by omega, by omega⟩ ?_
  try simp only [up_same, up_up, up_ne, ne_eq, Nat.reduceEqDiff, not_false_eq_true, Int.reduceToNat, Int.toNat_natCast]
  refine wp_iconst (n := 38) K dX1_moveOne_37 rfl ?_
  refine wp_iadd (n := 39) K dX1_moveOne_38 rfl ?_
  refine wp_iast (n := 40) K dX1_moveOne_39 rfl rfl (liS rfl) (fun _ => rfl) ⟨by omega, by omega, by omega⟩ ?_
  try simp only [up_same, up_up, up_ne, ne_eq, Nat.reduceEqDiff, not_false_eq_true, Int.reduceToNat, Int.toNat_natCast]
  refine ret_qn K dX1_moveOne_40 rfl ?_ ?_ ⟨Nat.le_refl _, Nat.le_refl _⟩
  · (intro a ha; simp only [List.mem_cons, List.not_mem_nil, or_false, not_or] at ha; simp [up, ha])
  · have e := h.lend a t h1 h2
    refine cast (congrArg (fun m => HN m (lendsA σ a t)) ?_) e
    funext q
    simp only [up]
    (repeat' split) <;> first | rfl | simp_all | omega
