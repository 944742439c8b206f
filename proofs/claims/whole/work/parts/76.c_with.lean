
theorem c_with (s : Int) (hs : InR s) (S : ST) (M : MT) (σ : Nat → Int) (h : SN M σ) (hw : WS σ) (L : Nat) (hL : M 17 9 = (L : Int)) (hL2 : L < 2 ^ (σ 0).toNat) : ((0 ≤ s ∧ s < σ 0) ∧ L.testBit s.toNat = true → Ct E1 yX11_with cX11_with 7 (some .int) rm_X11_with [.ref 16, .int (z s)] S M (Pi (withT σ L s.toNat (2 ^ (σ 0).toNat)) S M)) ∧ (¬ ((0 ≤ s ∧ s < σ 0) ∧ L.testBit s.toNat = true) → Ct E1 yX11_with cX11_with 7 (some .int) rm_X11_with [.ref 16, .int (z s)] S M (Pi (-1) S M)) := by
  have h0 := hw.1
  have hp := p12 (n := (σ 0).toNat) (by omega)
  have hL4 : L < 4096 := by omega
  refine ⟨fun c => ?_, fun c => ?_⟩
  · obtain ⟨c1, c2⟩ := c
    obtain ⟨n, rfl⟩ : ∃ n : Nat, s = n := ⟨s.toNat, by omega⟩
    rw [Int.toNat_natCast] at c2 ⊢
    have hn12 : n < 12 := by omega
    have hpn : 2 ^ n < 4096 := Nat.lt_of_lt_of_le (Nat.pow_lt_pow_right (by decide) hn12) (by decide)
    generalize ho : wo L (2 ^ n) = o
    have ho4 : o < 4096 := by rw [← ho]; exact wo_ltn hL4
    have obit : ∀ i, o.testBit i = (L.testBit i && !decide (n = i)) := fun i => by rw [← ho, wo_bit, bit_ne]
    have cs : ∀ c, c &&& o = c → c.testBit n = false := fun c hc => by
      cases hq : c.testBit n with
      | false => rfl
      | true => have := (sub_iff c o).mp hc n hq; rw [obit] at this; simp at this
    have cor : ∀ c, c &&& o = c → c ||| 2 ^ n = c + 2 ^ n := fun c hc => or_add n c (cs c hc)
    have osub : ∀ j, OKs σ L n j → (wo j (2 ^ n)) &&& o = wo j (2 ^ n) ∧ j = wo j (2 ^ n) ||| 2 ^ n := fun j hj => by
      refine ⟨(sub_iff _ _).mpr (fun i hi => ?_), ?_⟩
      · rw [wo_bit, bit_ne, Bool.and_eq_true] at hi
        rw [obit, (wo0_iff j L).mp hj.2.1 i hi.1, hi.2]; rfl
      · apply Nat.eq_of_testBit_eq
        intro i
        rw [Nat.testBit_or, wo_bit, bit_ne]
        by_cases he : n = i
        · subst he; simp [hj.1]
        · simp [he]
    have ksub : ∀ c, c &&& o = c → (c ||| 2 ^ n).testBit n = true ∧ wo (c ||| 2 ^ n) L = 0 ∧ wo L (c ||| 2 ^ n) = wo o c ∧ wo (c ||| 2 ^ n) (2 ^ n) = c ∧ cnt 12 (c ||| 2 ^ n) = cnt 12 c + 1 := fun c hc => by
      refine ⟨by rw [Nat.testBit_or, bit_ne]; simp, (wo0_iff _ _).mpr (fun i hi => ?_), ?_, wo_back (cs c hc), by rw [cnt_or 12 c n (cs c hc), if_pos hn12]⟩
      · rw [Nat.testBit_or, bit_ne, Bool.or_eq_true] at hi
        rcases hi with q | q
        · have := (sub_iff c o).mp hc i q; rw [obit, Bool.and_eq_true] at this; exact this.1
        · have e : n = i := of_decide_eq_true q
          rw [← e]; exact c2
      · apply Nat.eq_of_testBit_eq
        intro i
        rw [wo_bit, wo_bit, Nat.testBit_or, bit_ne, obit]
        cases L.testBit i <;> cases c.testBit i <;> cases decide (n = i) <;> rfl
    have eo : band (M 17 9) (bxor (bshl 1 ((n : Nat) : Int)) (-1)) = (o : Int) := by
      rw [hL, bshl_1 (by omega), bandn_n (by omega) (by omega), ho]
    refine Ct.mk [.ref 16, .int (z (n : Int)), mkV, mkV, mkV, mkV, mkV] (by decide) rfl (Nat.le_of_ble_eq_true rfl) (fun X K => ?_)
    refine wp_aload_n (n := 1) K dX11_with_0 rfl rfl ?_
    refine wp_getF (n := 4) K dX11_with_1 rfl fl_X11_12 rfl (liS rfl) rfl rfl ?_
    refine wp_getF (n := 7) K dX11_with_4 rfl fl_X11_65 rfl (liS rfl) rfl rfl ?_
    refine wp_iload_n (n := 8) K dX11_with_7 rfl rfl ?_
    refine wp_invV_i (n := 11) K dX11_with_8 rfl cf_X11_163 (c_hasS _ hs _ _ σ h.1 hw.1) rfl rfl rfl (liS rfl) rfl (by decide) ⟨Nat.le_refl _, Nat.le_refl _⟩ (Nat.le_of_ble_eq_true rfl) ?_
    refine wp_if_eq_b (n := 14) K dX11_with_11 rfl (tgt := 25) (by decide) (fun c11 => ?_) (fun c11 => ?_)
    · have := of_decide_eq_false c11; omega
    · refine wp_aload_n (n := 15) K dX11_with_14 rfl rfl ?_
      refine wp_getF (n := 18) K dX11_with_15 rfl fl_X11_12 rfl (liS rfl) rfl rfl ?_
      refine wp_iload_n (n := 19) K dX11_with_18 rfl rfl ?_
      refine wp_invV_i (n := 22) K dX11_with_19 rfl cf_X11_164 (c_isLaid n L (by omega) hL4 _ _ hL) rfl rfl rfl (liS rfl) rfl (by decide) ⟨Nat.le_refl _, Nat.le_refl _⟩ (Nat.le_of_ble_eq_true rfl) ?_
      refine wp_if_ne_b (n := 25) K dX11_with_22 rfl (tgt := 27) (by decide) (fun c22 => ?_) (fun c22 => ?_)
      · refine wp_aload_n (n := 28) K dX11_with_27 rfl rfl ?_
        refine wp_getF (n := 31) K dX11_with_28 rfl fl_X11_12 rfl (liS rfl) rfl rfl ?_
        refine wp_getI (n := 34) K dX11_with_31 rfl fl_X11_177 rfl (liS rfl) rfl ?_
        try simp only [up_same, up_up, Int.reduceToNat, Int.toNat_natCast]
        refine wp_iconst (n := 35) K dX11_with_34 rfl ?_
        refine wp_iload_n (n := 36) K dX11_with_35 rfl rfl ?_
        refine wp_ishl (n := 37) K dX11_with_36 rfl ?_
        refine wp_iconst (n := 38) K dX11_with_37 rfl ?_
        refine wp_ixor (n := 39) K dX11_with_38 rfl ?_
        refine wp_iand (n := 40) K dX11_with_39 rfl ?_
        rw [eo]
        refine wp_istore_n (n := 41) K dX11_with_40 rfl (by decide) ?_
        refine wp_aload_n (n := 42) K dX11_with_41 rfl rfl ?_
        refine wp_getF (n := 45) K dX11_with_42 rfl fl_X11_12 rfl (liS rfl) rfl rfl ?_
        refine wp_getI (n := 48) K dX11_with_45 rfl fl_X11_177 rfl (liS rfl) rfl ?_
        try simp only [up_same, up_up, Int.reduceToNat, Int.toNat_natCast]
        rw [hL]
        refine wp_istore_n (n := 49) K dX11_with_48 rfl (by decide) ?_
        refine wp_iconst (n := 50) K dX11_with_49 rfl ?_
        refine wp_istore (n := 52) K dX11_with_50 rfl (by decide) ?_
        refine wp_iconst (n := 53) K dX11_with_52 rfl ?_
        refine wp_istore (n := 55) K dX11_with_53 rfl (by decide) ?_
        refine (dn 4096 (Q := fun i => ∀ (c b : Nat) (w6 : Value), c &&& o = c → i ≤ c → OKs σ L n b → (∀ j, OKs σ L n j → wo j (2 ^ n) < c → cnt 12 b ≤ cnt 12 j) → (b = L ∨ ∀ j, OKs σ L n j → j < b → cnt 12 b < cnt 12 j) → Wp E1 X 55 [.ref 16, .int (z (n : Int)), .int (z (o : Int)), .int (z (b : Int)), .int (z (c : Int)), .int (z (i : Int)), w6] [] S M) (fun i hi ih c b w6 hc hic hb I2 I3 => ?_) 0 (by omega)) 0 L mkV (by simp) (by omega) (OKs_L σ c2) (fun j _ hj => by omega) (Or.inl rfl)
        have hco := sub_le hc
        have hb4 : b < 4096 := by have := wo0_le hb.2.1; omega
        obtain ⟨k1, k2, k3, k4, k5⟩ := ksub c hc
        have hk4 : (c ||| 2 ^ n) < 4096 := by have := wo0_le k2; omega
        have cl1 := cnt_le 12 c
        have cl2 := cnt_le 12 b
        have k115 : ∀ (b' : Nat) (w6 : Value), OKs σ L n b' → (∀ j, OKs σ L n j → wo j (2 ^ n) ≤ c → cnt 12 b' ≤ cnt 12 j) → (b' = L ∨ ∀ j, OKs σ L n j → j < b' → cnt 12 b' < cnt 12 j) → Wp E1 X 115 [.ref 16, .int (z (n : Int)), .int (z (o : Int)), .int (z (b' : Int)), .int (z (c : Int)), .int (z (i : Int)), w6] [] S M := by
          intro b' w6 g1 g2 g3
          refine wp_iload (n := 117) K dX11_with_115 rfl rfl ?_
          refine wp_iload_n (n := 118) K dX11_with_117 rfl rfl ?_
          refine wp_icmp_ne (n := 121) K dX11_with_118 rfl (tgt := 124) (by decide) ⟨by omega, by omega⟩ ⟨by omega, by omega⟩ (fun c118 => ?_) (fun c118 => ?_)
          · have hne : c ≠ o := fun e => c118 (by rw [e])
            have e1 : band ((c : Int) - (o : Int)) (o : Int) = (((4096 - (o - c)) &&& o : Nat) : Int) := by
              have := band_neg (d := o - c) (o := o) (by omega) (by omega) ho4
              rw [show (c : Int) - (o : Int) = -((o - c : Nat) : Int) by omega]
              exact this
            have hx := nxt_ok 12 o c (by omega) hc hne
            rw [show (2 : Nat) ^ 12 = 4096 from rfl] at hx
            obtain ⟨x1, x2⟩ := hx
            refine wp_iload (n := 126) K dX11_with_124 rfl rfl ?_
            refine wp_iload_n (n := 127) K dX11_with_126 rfl rfl ?_
            refine wp_isub (n := 128) K dX11_with_127 rfl ?_
            refine wp_iload_n (n := 129) K dX11_with_128 rfl rfl ?_
            refine wp_iand (n := 130) K dX11_with_129 rfl ?_
            rw [e1]
            refine wp_istore (n := 132) K dX11_with_130 rfl (by decide) ?_
            refine wp_iinc (n := 135) K dX11_with_132 rfl rfl (by decide) ?_
            refine wp_goto K dX11_with_135 (tgt := 55) (by decide) ?_
            refine ih (by omega) _ b' _ (nxt_sub _ o) (by omega) g1 (fun j hj hlt => g2 j hj ?_) g3
            rcases Nat.lt_or_ge c (wo j (2 ^ n)) with q | q
            · have := x2 _ (osub j hj).1 q
              omega
            · exact q
          · have he : c = o := by omega
            have hbest : BestU σ L n b' := ⟨g1, fun j hj => by
              have hj2 := g2 j hj (by rw [he]; exact sub_le (osub j hj).1)
              refine ⟨hj2, fun hlt => ?_⟩
              rcases g3 with q | q
              · subst q
                have := cnt_sub_eq hj.2.1 hL4 (by omega) hj2
                omega
              · exact q j hj hlt⟩
            rw [with_eq σ hL2 c2 hbest] at K
            refine wp_goto K dX11_with_121 (tgt := 138) (by decide) ?_
            refine wp_iload_n (n := 139) K dX11_with_138 rfl rfl ?_
            refine ret_i K dX11_with_139 ?_ rfl ?_ ⟨Nat.le_refl _, Nat.le_refl _⟩
            · rfl
            · rfl
        refine wp_iload (n := 57) K dX11_with_55 rfl rfl ?_
        refine wp_sipush (n := 60) K dX11_with_57 rfl rfl ?_
        refine wp_icmp_ge (n := 63) K dX11_with_60 rfl (tgt := 138) (by decide) ⟨by omega, by omega⟩ ⟨by omega, by omega⟩ (fun c60 => ?_) (fun c60 => ?_)
        · omega
        · refine wp_iload (n := 65) K dX11_with_63 rfl rfl ?_
          refine wp_invS_i (n := 68) K dX11_with_65 rfl cf_X11_75 (j_bitCount c (by omega) _ _) rfl rfl (by decide) ⟨Nat.le_refl _, Nat.le_refl _⟩ (Nat.le_of_ble_eq_true rfl) ?_
          refine wp_iconst (n := 69) K dX11_with_68 rfl ?_
          refine wp_iadd (n := 70) K dX11_with_69 rfl ?_
          refine wp_iload_n (n := 71) K dX11_with_70 rfl rfl ?_
          refine wp_invS_i (n := 74) K dX11_with_71 rfl cf_X11_75 (j_bitCount b hb4 _ _) rfl rfl (by decide) ⟨Nat.le_refl _, Nat.le_refl _⟩ (Nat.le_of_ble_eq_true rfl) ?_
          refine wp_icmp_ge (n := 77) K dX11_with_74 rfl (tgt := 81) (by decide) ⟨by omega, by omega⟩ ⟨by omega, by omega⟩ (fun c74 => ?_) (fun c74 => ?_)
          · refine wp_iconst (n := 82) K dX11_with_81 rfl ?_
            refine wp_istore (n := 84) K dX11_with_82 rfl (by decide) ?_
            refine wp_iload (n := 86) K dX11_with_84 rfl rfl ?_
            refine wp_if_eq (n := 89) K dX11_with_86 rfl (tgt := 115) (by decide) ⟨by omega, by omega⟩ (fun c86 => ?_) (fun c86 => ?_)
            · refine k115 b _ hb (fun j hj hle => ?_) I3
              rcases Nat.lt_or_eq_of_le hle with q | q
              · exact I2 j hj q
              · have := (osub j hj).2
                rw [q] at this
                rw [this, k5]; omega
            · omega
          · refine wp_iconst (n := 78) K dX11_with_77 rfl ?_
            refine wp_goto K dX11_with_78 (tgt := 82) (by decide) ?_
            refine wp_istore (n := 84) K dX11_with_82 rfl (by decide) ?_
            refine wp_iload (n := 86) K dX11_with_84 rfl rfl ?_
            refine wp_if_eq (n := 89) K dX11_with_86 rfl (tgt := 115) (by decide) ⟨by omega, by omega⟩ (fun c86 => ?_) (fun c86 => ?_)
            · omega
            · have e2 : band (o : Int) (bxor (c : Int) (-1)) = ((wo o c : Nat) : Int) := bandn_n (by omega) (by omega)
              have hwo : wo o c < 4096 := wo_ltn ho4
              refine wp_aload_n (n := 90) K dX11_with_89 rfl rfl ?_
              refine wp_getF (n := 93) K dX11_with_90 rfl fl_X11_12 rfl (liS rfl) rfl rfl ?_
              refine wp_getF (n := 96) K dX11_with_93 rfl fl_X11_65 rfl (liS rfl) rfl rfl ?_
              refine wp_iload_n (n := 97) K dX11_with_96 rfl rfl ?_
              refine wp_iload (n := 99) K dX11_with_97 rfl rfl ?_
              refine wp_iconst (n := 100) K dX11_with_99 rfl ?_
              refine wp_ixor (n := 101) K dX11_with_100 rfl ?_
              refine wp_iand (n := 102) K dX11_with_101 rfl ?_
              rw [e2]
              refine wp_invV_i (n := 105) K dX11_with_102 rfl cf_X11_184 (c_isStanding _ hwo _ _ σ h hw) rfl rfl rfl (liS rfl) rfl (by decide) ⟨Nat.le_refl _, Nat.le_refl _⟩ (Nat.le_of_ble_eq_true rfl) ?_
              refine wp_if_eq_b (n := 108) K dX11_with_105 rfl (tgt := 115) (by decide) (fun c105 => ?_) (fun c105 => ?_)
              · refine k115 b _ hb (fun j hj hle => ?_) I3
                rcases Nat.lt_or_eq_of_le hle with q | q
                · exact I2 j hj q
                · have := (osub j hj).2
                  rw [q] at this
                  have hst := hj.2.2
                  rw [this, k3, c105] at hst; cases hst
              · refine wp_iload (n := 110) K dX11_with_108 rfl rfl ?_
                refine wp_iconst (n := 111) K dX11_with_110 rfl ?_
                refine wp_iload_n (n := 112) K dX11_with_111 rfl rfl ?_
                refine wp_ishl (n := 113) K dX11_with_112 rfl ?_
                refine wp_ior (n := 114) K dX11_with_113 rfl ?_
                rw [bshl_1 (by omega), bor_n (by omega) (by omega)]
                refine wp_istore_n (n := 115) K dX11_with_114 rfl (by decide) ?_
                refine k115 (c ||| 2 ^ n) _ ⟨k1, k2, by rw [k3]; exact c105⟩ (fun j hj hle => ?_) (Or.inr (fun j hj hlt => ?_))
                · rcases Nat.lt_or_eq_of_le hle with q | q
                  · have := I2 j hj q; omega
                  · have := (osub j hj).2
                    rw [q] at this
                    rw [← this]; exact Nat.le_refl _
                · obtain ⟨o1, o2⟩ := osub j hj
                  have : wo j (2 ^ n) < c := by rw [cor c hc, o2, cor _ o1] at hlt; omega
                  have := I2 j hj this
                  omega
      · rw [c2] at c22; cases c22
  · refine Ct.mk [.ref 16, .int (z s), mkV, mkV, mkV, mkV, mkV] (by decide) rfl (Nat.le_of_ble_eq_true rfl) (fun X K => ?_)
    refine wp_aload_n (n := 1) K dX11_with_0 rfl rfl ?_
    refine wp_getF (n := 4) K dX11_with_1 rfl fl_X11_12 rfl (liS rfl) rfl rfl ?_
    refine wp_getF (n := 7) K dX11_with_4 rfl fl_X11_65 rfl (liS rfl) rfl rfl ?_
    refine wp_iload_n (n := 8) K dX11_with_7 rfl rfl ?_
    refine wp_invV_i (n := 11) K dX11_with_8 rfl cf_X11_163 (c_hasS _ hs _ _ σ h.1 hw.1) rfl rfl rfl (liS rfl) rfl (by decide) ⟨Nat.le_refl _, Nat.le_refl _⟩ (Nat.le_of_ble_eq_true rfl) ?_
    refine wp_if_eq_b (n := 14) K dX11_with_11 rfl (tgt := 25) (by decide) (fun c11 => ?_) (fun c11 => ?_)
    · refine wp_iconst (n := 26) K dX11_with_25 rfl ?_
      refine ret_i K dX11_with_26 ?_ rfl ?_ ⟨Nat.le_refl _, Nat.le_refl _⟩
      · rfl
      · rfl
    · have c1 := of_decide_eq_true c11
      obtain ⟨n, rfl⟩ : ∃ n : Nat, s = n := ⟨s.toNat, by omega⟩
      rw [Int.toNat_natCast] at c
      refine wp_aload_n (n := 15) K dX11_with_14 rfl rfl ?_
      refine wp_getF (n := 18) K dX11_with_15 rfl fl_X11_12 rfl (liS rfl) rfl rfl ?_
      refine wp_iload_n (n := 19) K dX11_with_18 rfl rfl ?_
      refine wp_invV_i (n := 22) K dX11_with_19 rfl cf_X11_164 (c_isLaid n L (by omega) hL4 _ _ hL) rfl rfl rfl (liS rfl) rfl (by decide) ⟨Nat.le_refl _, Nat.le_refl _⟩ (Nat.le_of_ble_eq_true rfl) ?_
      refine wp_if_ne_b (n := 25) K dX11_with_22 rfl (tgt := 27) (by decide) (fun c22 => ?_) (fun c22 => ?_)
      · exact absurd ⟨c1, c22⟩ c
      · refine wp_iconst (n := 26) K dX11_with_25 rfl ?_
        refine ret_i K dX11_with_26 ?_ rfl ?_ ⟨Nat.le_refl _, Nat.le_refl _⟩
        · rfl
        · rfl
