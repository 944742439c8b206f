theorem j_bitCountI {E : ET} (b : Int) (h : 0 ≤ b ∧ b < 4096) (S : ST) (M : MT) : Ct E yJ6_bitCount_0f7a4 cJ6_bitCount_0f7a4 1 (some .int) rm_J6_bitCount_0f7a4 [.int (z b)] S M (Pi (cnt 12 b.toNat : Int) S M) := by
  obtain ⟨n, rfl⟩ := Int.eq_ofNat_of_zero_le h.1
  exact j_bitCount n (by omega) S M
theorem SR.stone {M : MT} {σ : Nat → Int} (h : SN M σ) (w e v b nd : Int) (n : Nat) (hn : σ 0 = n) (h12 : n < 12) : SN (up (up (up (up (up (up M 19 (up (M 19) n w)) 20 (up (M 20) n e)) 21 (up (M 21) n v)) 22 (up (M 22) n b)) 23 (up (M 23) n nd)) 18 (up (M 18) 5 ((n : Int) + 1))) (stoneA σ w e v b nd) := by
  refine ⟨by simp [up, stoneA, hn], fun k hk => ?_⟩
  obtain ⟨g1, g2, g3, g4, g5⟩ := h.2 k hk
  simp only [stoneA, up, hn, Int.toNat_natCast]
  refine ⟨?_, ?_, ?_, ?_, ?_⟩ <;> simp [up] <;> (repeat' split) <;> first | omega | assumption | rfl

theorem c_stone (w e v b nd : Int) (h1 : InR w) (h2 : InR e) (h3 : InR v) (h4 : InR b) (h5 : InR nd) (S : ST) (M : MT) (σ : Nat → Int) (h : SN M σ) (hw : WS σ) : (okStone σ w e v b nd → Ct E1 yX11_stone cX11_stone 9 (some .int) rm_X11_stone [.ref 16, .int (z w), .int (z e), .int (z v), .int (z b), .int (z nd)] S M (Qi (σ 0) [18, 19, 20, 21, 22, 23, 67] S M (fun M1 => SN M1 (stoneA σ w e v b nd) ∧ M1 67 = up (M 67) 4 0))) ∧ (¬ okStone σ w e v b nd → Ct E1 yX11_stone cX11_stone 9 (some .int) rm_X11_stone [.ref 16, .int (z w), .int (z e), .int (z v), .int (z b), .int (z nd)] S M (Pi (-1) S M)) := by
  have h0 := hw.1
  have g0 := h.1
  have hn : M 18 5 = ((σ 0).toNat : Int) := by omega
  have hn' : σ 0 = ((σ 0).toNat : Int) := by omega
  have hp := p12 (n := (σ 0).toNat) (by omega)
  have hc : (2 : Int) ^ (σ 0).toNat = ((2 ^ (σ 0).toNat : Nat) : Int) := by rw [Int.natCast_pow]; rfl
  have hbc := cnt_le 12 b.toNat
  
  refine ⟨fun c => ?_, fun c => ?_⟩
  · obtain ⟨c1, c2, c3, c4, c5, c6⟩ := c
    rw [hc] at c5
    refine Ct.mk [.ref 16, .int (z w), .int (z e), .int (z v), .int (z b), .int (z nd), mkV, mkV, mkV] (by decide) rfl (Nat.le_of_ble_eq_true rfl) (fun X K => ?_)
    have k65 : Wp E1 X 65 [.ref 16, .int (z w), .int (z e), .int (z v), .int (z b), .int (z nd), .ref 18, mkV, mkV] [] S M := by
      refine wp_iconst (n := 66) K dX11_stone_65 rfl ?_
      refine wp_goto K dX11_stone_66 (tgt := 70) (by decide) ?_
      refine wp_istore (n := 72) K dX11_stone_70 rfl (by decide) ?_
      refine wp_iload (n := 74) K dX11_stone_72 rfl rfl ?_
      refine wp_if_eq (n := 77) K dX11_stone_74 rfl (tgt := 87) (by decide) ⟨by omega, by omega⟩ (fun c74 => ?_) (fun c74 => ?_)
      · omega
      · refine wp_aload (n := 79) K dX11_stone_77 rfl rfl ?_
        refine wp_getI (n := 82) K dX11_stone_79 rfl fl_X11_81 rfl (liS rfl) rfl ?_
        try simp only [up_same, up_up, up_ne, ne_eq, Nat.reduceEqDiff, not_false_eq_true, Int.reduceToNat, Int.toNat_natCast]
        refine wp_bipush (n := 84) K dX11_stone_82 rfl rfl ?_
        refine wp_icmp_lt (n := 87) K dX11_stone_84 rfl (tgt := 89) (by decide) ⟨by omega, by omega⟩ ⟨by omega, by omega⟩ (fun c84 => ?_) (fun c84 => ?_)
        · refine wp_aload_n (n := 90) K dX11_stone_89 rfl rfl ?_
          refine wp_getF (n := 93) K dX11_stone_90 rfl fl_X11_43 rfl (liS rfl) rfl rfl ?_
          refine wp_invV_n (n := 96) K dX11_stone_93 rfl cf_X11_84 (c_forget _ _) rfl rfl rfl (liS rfl) rfl (by decide) ⟨Nat.le_refl _, Nat.le_refl _⟩ (Nat.le_of_ble_eq_true rfl) ?_
          refine wp_aload (n := 98) K dX11_stone_96 rfl rfl ?_
          refine wp_getI (n := 101) K dX11_stone_98 rfl fl_X11_81 rfl (liS rfl) rfl ?_
          try simp only [up_same, up_up, up_ne, ne_eq, Nat.reduceEqDiff, not_false_eq_true, Int.reduceToNat, Int.toNat_natCast]
          rw [hn]
          refine wp_istore (n := 103) K dX11_stone_101 rfl (by decide) ?_
          refine wp_aload (n := 105) K dX11_stone_103 rfl rfl ?_
          refine wp_getF (n := 108) K dX11_stone_105 rfl fl_X11_87 rfl (liS rfl) rfl rfl ?_
          refine wp_iload (n := 110) K dX11_stone_108 rfl rfl ?_
          refine wp_iload_n (n := 111) K dX11_stone_110 rfl rfl ?_
          refine wp_iast (n := 112) K dX11_stone_111 rfl rfl (liS rfl) (fun _ => rfl) ⟨by omega, by omega, by omega⟩ ?_
          try simp only [up_same, up_up, up_ne, ne_eq, Nat.reduceEqDiff, not_false_eq_true, Int.reduceToNat, Int.toNat_natCast]
          refine wp_aload (n := 114) K dX11_stone_112 rfl rfl ?_
          refine wp_getF (n := 117) K dX11_stone_114 rfl fl_X11_91 rfl (liS rfl) rfl rfl ?_
          refine wp_iload (n := 119) K dX11_stone_117 rfl rfl ?_
          refine wp_iload_n (n := 120) K dX11_stone_119 rfl rfl ?_
          refine wp_iast (n := 121) K dX11_stone_120 rfl rfl (liS rfl) (fun _ => rfl) ⟨by omega, by omega, by omega⟩ ?_
          try simp only [up_same, up_up, up_ne, ne_eq, Nat.reduceEqDiff, not_false_eq_true, Int.reduceToNat, Int.toNat_natCast]
          refine wp_aload (n := 123) K dX11_stone_121 rfl rfl ?_
          refine wp_getF (n := 126) K dX11_stone_123 rfl fl_X11_94 rfl (liS rfl) rfl rfl ?_
          refine wp_iload (n := 128) K dX11_stone_126 rfl rfl ?_
          refine wp_iload_n (n := 129) K dX11_stone_128 rfl rfl ?_
          refine wp_iast (n := 130) K dX11_stone_129 rfl rfl (liS rfl) (fun _ => rfl) ⟨by omega, by omega, by omega⟩ ?_
          try simp only [up_same, up_up, up_ne, ne_eq, Nat.reduceEqDiff, not_false_eq_true, Int.reduceToNat, Int.toNat_natCast]
          refine wp_aload (n := 132) K dX11_stone_130 rfl rfl ?_
          refine wp_getF (n := 135) K dX11_stone_132 rfl fl_X11_97 rfl (liS rfl) rfl rfl ?_
          refine wp_iload (n := 137) K dX11_stone_135 rfl rfl ?_
          refine wp_iload (n := 139) K dX11_stone_137 rfl rfl ?_
          refine wp_iast (n := 140) K dX11_stone_139 rfl rfl (liS rfl) (fun _ => rfl) ⟨by omega, by omega, by omega⟩ ?_
          try simp only [up_same, up_up, up_ne, ne_eq, Nat.reduceEqDiff, not_false_eq_true, Int.reduceToNat, Int.toNat_natCast]
          refine wp_aload (n := 142) K dX11_stone_140 rfl rfl ?_
          refine wp_getF (n := 145) K dX11_stone_142 rfl fl_X11_100 rfl (liS rfl) rfl rfl ?_
          refine wp_iload (n := 147) K dX11_stone_145 rfl rfl ?_
          refine wp_iload (n := 149) K dX11_stone_147 rfl rfl ?_
          refine wp_iast (n := 150) K dX11_stone_149 rfl rfl (liS rfl) (fun _ => rfl) ⟨by omega, by omega, by omega⟩ ?_
          try simp only [up_same, up_up, up_ne, ne_eq, Nat.reduceEqDiff, not_false_eq_true, Int.reduceToNat, Int.toNat_natCast]
          refine wp_aload (n := 152) K dX11_stone_150 rfl rfl ?_
          refine wp_iload (n := 154) K dX11_stone_152 rfl rfl ?_
          refine wp_iconst (n := 155) K dX11_stone_154 rfl ?_
          refine wp_iadd (n := 156) K dX11_stone_155 rfl ?_
          refine wp_putI (n := 159) K dX11_stone_156 rfl fl_X11_81 rfl (liS rfl) (Or.inl rfl) rfl rfl ?_
          try simp only [up_same, up_up, up_ne, ne_eq, Nat.reduceEqDiff, not_false_eq_true, Int.reduceToNat, Int.toNat_natCast]
          refine wp_iload (n := 161) K dX11_stone_159 rfl rfl ?_
          refine ret_qi K dX11_stone_161 ?_ rfl ?_ ?_ ⟨Nat.le_refl _, Nat.le_refl _⟩
          · exact hn'.symm
          · (intro a ha; simp only [List.mem_cons, List.not_mem_nil, or_false, not_or] at ha; simp [up, ha])
          · refine ⟨?_, by simp [up]⟩
            have hM67 : SN (up M 67 (up (M 67) 4 0)) σ := by unfold SN SR; rw [up_ne _ _ (by decide), up_ne _ _ (by decide), up_ne _ _ (by decide), up_ne _ _ (by decide), up_ne _ _ (by decide), up_ne _ _ (by decide)]; exact h
            simpa [up_ne] using hM67.stone w e v b nd _ hn' (by omega)
        · omega
    refine wp_aload_n (n := 1) K dX11_stone_0 rfl rfl ?_
    refine wp_getF (n := 4) K dX11_stone_1 rfl fl_X11_12 rfl (liS rfl) rfl rfl ?_
    refine wp_getF (n := 7) K dX11_stone_4 rfl fl_X11_65 rfl (liS rfl) rfl rfl ?_
    refine wp_astore (n := 9) K dX11_stone_7 rfl (by decide) (by decide) ?_
    refine wp_iload_n (n := 10) K dX11_stone_9 rfl rfl ?_
    refine wp_iconst (n := 11) K dX11_stone_10 rfl ?_
    refine wp_icmp_lt (n := 14) K dX11_stone_11 rfl (tgt := 69) (by decide) ⟨by omega, by omega⟩ ⟨by omega, by omega⟩ (fun c11 => ?_) (fun c11 => ?_)
    · (first | omega | (have := of_decide_eq_false c47; omega))
    · refine wp_iload_n (n := 15) K dX11_stone_14 rfl rfl ?_
      refine wp_bipush (n := 17) K dX11_stone_15 rfl rfl ?_
      refine wp_icmp_gt (n := 20) K dX11_stone_17 rfl (tgt := 69) (by decide) ⟨by omega, by omega⟩ ⟨by omega, by omega⟩ (fun c17 => ?_) (fun c17 => ?_)
      · (first | omega | (have := of_decide_eq_false c47; omega))
      · refine wp_iload_n (n := 21) K dX11_stone_20 rfl rfl ?_
        refine wp_if_lt (n := 24) K dX11_stone_21 rfl (tgt := 69) (by decide) ⟨by omega, by omega⟩ (fun c21 => ?_) (fun c21 => ?_)
        · (first | omega | (have := of_decide_eq_false c47; omega))
        · refine wp_iload_n (n := 25) K dX11_stone_24 rfl rfl ?_
          refine wp_bipush (n := 27) K dX11_stone_25 rfl rfl ?_
          refine wp_icmp_gt (n := 30) K dX11_stone_27 rfl (tgt := 69) (by decide) ⟨by omega, by omega⟩ ⟨by omega, by omega⟩ (fun c27 => ?_) (fun c27 => ?_)
          · (first | omega | (have := of_decide_eq_false c47; omega))
          · refine wp_iload_n (n := 31) K dX11_stone_30 rfl rfl ?_
            refine wp_if_lt (n := 34) K dX11_stone_31 rfl (tgt := 69) (by decide) ⟨by omega, by omega⟩ (fun c31 => ?_) (fun c31 => ?_)
            · (first | omega | (have := of_decide_eq_false c47; omega))
            · refine wp_iload_n (n := 35) K dX11_stone_34 rfl rfl ?_
              refine wp_bipush (n := 37) K dX11_stone_35 rfl rfl ?_
              refine wp_icmp_gt (n := 40) K dX11_stone_37 rfl (tgt := 69) (by decide) ⟨by omega, by omega⟩ ⟨by omega, by omega⟩ (fun c37 => ?_) (fun c37 => ?_)
              · (first | omega | (have := of_decide_eq_false c47; omega))
              · refine wp_aload (n := 42) K dX11_stone_40 rfl rfl ?_
                refine wp_iload (n := 44) K dX11_stone_42 rfl rfl ?_
                refine wp_invV_i (n := 47) K dX11_stone_44 rfl cf_X11_69 (c_areTold b h4 (σ 0).toNat (by omega) _ _ hn) rfl rfl rfl (liS rfl) rfl (by decide) ⟨Nat.le_refl _, Nat.le_refl _⟩ (Nat.le_of_ble_eq_true rfl) ?_
                refine wp_if_eq_b (n := 50) K dX11_stone_47 rfl (tgt := 69) (by decide) (fun c47 => ?_) (fun c47 => ?_)
                · (first | omega | (have := of_decide_eq_false c47; omega))
                · refine wp_iload (n := 52) K dX11_stone_50 rfl rfl ?_
                  refine wp_if_lt (n := 55) K dX11_stone_52 rfl (tgt := 69) (by decide) ⟨by omega, by omega⟩ (fun c52 => ?_) (fun c52 => ?_)
                  · (first | omega | (have := of_decide_eq_false c47; omega))
                  · refine wp_iload (n := 57) K dX11_stone_55 rfl rfl ?_
                    refine wp_iload (n := 59) K dX11_stone_57 rfl rfl ?_
                    refine wp_invS_i (n := 62) K dX11_stone_59 rfl cf_X11_75 (j_bitCountI _ (by have := of_decide_eq_true c47; omega) _ _) rfl rfl (by decide) ⟨Nat.le_refl _, Nat.le_refl _⟩ (Nat.le_of_ble_eq_true rfl) ?_
                    refine wp_icmp_gt (n := 65) K dX11_stone_62 rfl (tgt := 69) (by decide) ⟨by omega, by omega⟩ ⟨by omega, by omega⟩ (fun c62 => ?_) (fun c62 => ?_)
                    · (first | omega | (have := of_decide_eq_false c47; omega))
                    · exact k65
  · refine Ct.mk [.ref 16, .int (z w), .int (z e), .int (z v), .int (z b), .int (z nd), mkV, mkV, mkV] (by decide) rfl (Nat.le_of_ble_eq_true rfl) (fun X K => ?_)
    refine wp_aload_n (n := 1) K dX11_stone_0 rfl rfl ?_
    refine wp_getF (n := 4) K dX11_stone_1 rfl fl_X11_12 rfl (liS rfl) rfl rfl ?_
    refine wp_getF (n := 7) K dX11_stone_4 rfl fl_X11_65 rfl (liS rfl) rfl rfl ?_
    refine wp_astore (n := 9) K dX11_stone_7 rfl (by decide) (by decide) ?_
    refine wp_iload_n (n := 10) K dX11_stone_9 rfl rfl ?_
    refine wp_iconst (n := 11) K dX11_stone_10 rfl ?_
    refine wp_icmp_lt (n := 14) K dX11_stone_11 rfl (tgt := 69) (by decide) ⟨by omega, by omega⟩ ⟨by omega, by omega⟩ (fun c11 => ?_) (fun c11 => ?_)
    · refine wp_iconst (n := 70) K dX11_stone_69 rfl ?_
      refine wp_istore (n := 72) K dX11_stone_70 rfl (by decide) ?_
      refine wp_iload (n := 74) K dX11_stone_72 rfl rfl ?_
      refine wp_if_eq (n := 77) K dX11_stone_74 rfl (tgt := 87) (by decide) ⟨by omega, by omega⟩ (fun c74 => ?_) (fun c74 => ?_)
      · refine wp_iconst (n := 88) K dX11_stone_87 rfl ?_
        refine ret_i K dX11_stone_88 ?_ rfl ?_ ⟨Nat.le_refl _, Nat.le_refl _⟩
        all_goals rfl
      · refine wp_aload (n := 79) K dX11_stone_77 rfl rfl ?_
        refine wp_getI (n := 82) K dX11_stone_79 rfl fl_X11_81 rfl (liS rfl) rfl ?_
        try simp only [up_same, up_up, up_ne, ne_eq, Nat.reduceEqDiff, not_false_eq_true, Int.reduceToNat, Int.toNat_natCast]
        refine wp_bipush (n := 84) K dX11_stone_82 rfl rfl ?_
        refine wp_icmp_lt (n := 87) K dX11_stone_84 rfl (tgt := 89) (by decide) ⟨by omega, by omega⟩ ⟨by omega, by omega⟩ (fun c84 => ?_) (fun c84 => ?_)
        · (first | omega | (have q := of_decide_eq_true c47; exact absurd ⟨⟨by omega, by omega⟩, ⟨by omega, by omega⟩, ⟨by omega, by omega⟩, by omega, ⟨by omega, by rw [hc]; omega⟩, by omega, by omega⟩ c))
        · refine wp_iconst (n := 88) K dX11_stone_87 rfl ?_
          refine ret_i K dX11_stone_88 ?_ rfl ?_ ⟨Nat.le_refl _, Nat.le_refl _⟩
          all_goals rfl
    · refine wp_iload_n (n := 15) K dX11_stone_14 rfl rfl ?_
      refine wp_bipush (n := 17) K dX11_stone_15 rfl rfl ?_
      refine wp_icmp_gt (n := 20) K dX11_stone_17 rfl (tgt := 69) (by decide) ⟨by omega, by omega⟩ ⟨by omega, by omega⟩ (fun c17 => ?_) (fun c17 => ?_)
      · refine wp_iconst (n := 70) K dX11_stone_69 rfl ?_
        refine wp_istore (n := 72) K dX11_stone_70 rfl (by decide) ?_
        refine wp_iload (n := 74) K dX11_stone_72 rfl rfl ?_
        refine wp_if_eq (n := 77) K dX11_stone_74 rfl (tgt := 87) (by decide) ⟨by omega, by omega⟩ (fun c74 => ?_) (fun c74 => ?_)
        · refine wp_iconst (n := 88) K dX11_stone_87 rfl ?_
          refine ret_i K dX11_stone_88 ?_ rfl ?_ ⟨Nat.le_refl _, Nat.le_refl _⟩
          all_goals rfl
        · refine wp_aload (n := 79) K dX11_stone_77 rfl rfl ?_
          refine wp_getI (n := 82) K dX11_stone_79 rfl fl_X11_81 rfl (liS rfl) rfl ?_
          try simp only [up_same, up_up, up_ne, ne_eq, Nat.reduceEqDiff, not_false_eq_true, Int.reduceToNat, Int.toNat_natCast]
          refine wp_bipush (n := 84) K dX11_stone_82 rfl rfl ?_
          refine wp_icmp_lt (n := 87) K dX11_stone_84 rfl (tgt := 89) (by decide) ⟨by omega, by omega⟩ ⟨by omega, by omega⟩ (fun c84 => ?_) (fun c84 => ?_)
          · (first | omega | (have q := of_decide_eq_true c47; exact absurd ⟨⟨by omega, by omega⟩, ⟨by omega, by omega⟩, ⟨by omega, by omega⟩, by omega, ⟨by omega, by rw [hc]; omega⟩, by omega, by omega⟩ c))
          · refine wp_iconst (n := 88) K dX11_stone_87 rfl ?_
            refine ret_i K dX11_stone_88 ?_ rfl ?_ ⟨Nat.le_refl _, Nat.le_refl _⟩
            all_goals rfl
      · refine wp_iload_n (n := 21) K dX11_stone_20 rfl rfl ?_
        refine wp_if_lt (n := 24) K dX11_stone_21 rfl (tgt := 69) (by decide) ⟨by omega, by omega⟩ (fun c21 => ?_) (fun c21 => ?_)
        · refine wp_iconst (n := 70) K dX11_stone_69 rfl ?_
          refine wp_istore (n := 72) K dX11_stone_70 rfl (by decide) ?_
          refine wp_iload (n := 74) K dX11_stone_72 rfl rfl ?_
          refine wp_if_eq (n := 77) K dX11_stone_74 rfl (tgt := 87) (by decide) ⟨by omega, by omega⟩ (fun c74 => ?_) (fun c74 => ?_)
          · refine wp_iconst (n := 88) K dX11_stone_87 rfl ?_
            refine ret_i K dX11_stone_88 ?_ rfl ?_ ⟨Nat.le_refl _, Nat.le_refl _⟩
            all_goals rfl
          · refine wp_aload (n := 79) K dX11_stone_77 rfl rfl ?_
            refine wp_getI (n := 82) K dX11_stone_79 rfl fl_X11_81 rfl (liS rfl) rfl ?_
            try simp only [up_same, up_up, up_ne, ne_eq, Nat.reduceEqDiff, not_false_eq_true, Int.reduceToNat, Int.toNat_natCast]
            refine wp_bipush (n := 84) K dX11_stone_82 rfl rfl ?_
            refine wp_icmp_lt (n := 87) K dX11_stone_84 rfl (tgt := 89) (by decide) ⟨by omega, by omega⟩ ⟨by omega, by omega⟩ (fun c84 => ?_) (fun c84 => ?_)
            · (first | omega | (have q := of_decide_eq_true c47; exact absurd ⟨⟨by omega, by omega⟩, ⟨by omega, by omega⟩, ⟨by omega, by omega⟩, by omega, ⟨by omega, by rw [hc]; omega⟩, by omega, by omega⟩ c))
            · refine wp_iconst (n := 88) K dX11_stone_87 rfl ?_
              refine ret_i K dX11_stone_88 ?_ rfl ?_ ⟨Nat.le_refl _, Nat.le_refl _⟩
              all_goals rfl
        · refine wp_iload_n (n := 25) K dX11_stone_24 rfl rfl ?_
          refine wp_bipush (n := 27) K dX11_stone_25 rfl rfl ?_
          refine wp_icmp_gt (n := 30) K dX11_stone_27 rfl (tgt := 69) (by decide) ⟨by omega, by omega⟩ ⟨by omega, by omega⟩ (fun c27 => ?_) (fun c27 => ?_)
          · refine wp_iconst (n := 70) K dX11_stone_69 rfl ?_
            refine wp_istore (n := 72) K dX11_stone_70 rfl (by decide) ?_
            refine wp_iload (n := 74) K dX11_stone_72 rfl rfl ?_
            refine wp_if_eq (n := 77) K dX11_stone_74 rfl (tgt := 87) (by decide) ⟨by omega, by omega⟩ (fun c74 => ?_) (fun c74 => ?_)
            · refine wp_iconst (n := 88) K dX11_stone_87 rfl ?_
              refine ret_i K dX11_stone_88 ?_ rfl ?_ ⟨Nat.le_refl _, Nat.le_refl _⟩
              all_goals rfl
            · refine wp_aload (n := 79) K dX11_stone_77 rfl rfl ?_
              refine wp_getI (n := 82) K dX11_stone_79 rfl fl_X11_81 rfl (liS rfl) rfl ?_
              try simp only [up_same, up_up, up_ne, ne_eq, Nat.reduceEqDiff, not_false_eq_true, Int.reduceToNat, Int.toNat_natCast]
              refine wp_bipush (n := 84) K dX11_stone_82 rfl rfl ?_
              refine wp_icmp_lt (n := 87) K dX11_stone_84 rfl (tgt := 89) (by decide) ⟨by omega, by omega⟩ ⟨by omega, by omega⟩ (fun c84 => ?_) (fun c84 => ?_)
              · (first | omega | (have q := of_decide_eq_true c47; exact absurd ⟨⟨by omega, by omega⟩, ⟨by omega, by omega⟩, ⟨by omega, by omega⟩, by omega, ⟨by omega, by rw [hc]; omega⟩, by omega, by omega⟩ c))
              · refine wp_iconst (n := 88) K dX11_stone_87 rfl ?_
                refine ret_i K dX11_stone_88 ?_ rfl ?_ ⟨Nat.le_refl _, Nat.le_refl _⟩
                all_goals rfl
          · refine wp_iload_n (n := 31) K dX11_stone_30 rfl rfl ?_
            refine wp_if_lt (n := 34) K dX11_stone_31 rfl (tgt := 69) (by decide) ⟨by omega, by omega⟩ (fun c31 => ?_) (fun c31 => ?_)
            · refine wp_iconst (n := 70) K dX11_stone_69 rfl ?_
              refine wp_istore (n := 72) K dX11_stone_70 rfl (by decide) ?_
              refine wp_iload (n := 74) K dX11_stone_72 rfl rfl ?_
              refine wp_if_eq (n := 77) K dX11_stone_74 rfl (tgt := 87) (by decide) ⟨by omega, by omega⟩ (fun c74 => ?_) (fun c74 => ?_)
              · refine wp_iconst (n := 88) K dX11_stone_87 rfl ?_
                refine ret_i K dX11_stone_88 ?_ rfl ?_ ⟨Nat.le_refl _, Nat.le_refl _⟩
                all_goals rfl
              · refine wp_aload (n := 79) K dX11_stone_77 rfl rfl ?_
                refine wp_getI (n := 82) K dX11_stone_79 rfl fl_X11_81 rfl (liS rfl) rfl ?_
                try simp only [up_same, up_up, up_ne, ne_eq, Nat.reduceEqDiff, not_false_eq_true, Int.reduceToNat, Int.toNat_natCast]
                refine wp_bipush (n := 84) K dX11_stone_82 rfl rfl ?_
                refine wp_icmp_lt (n := 87) K dX11_stone_84 rfl (tgt := 89) (by decide) ⟨by omega, by omega⟩ ⟨by omega, by omega⟩ (fun c84 => ?_) (fun c84 => ?_)
                · (first | omega | (have q := of_decide_eq_true c47; exact absurd ⟨⟨by omega, by omega⟩, ⟨by omega, by omega⟩, ⟨by omega, by omega⟩, by omega, ⟨by omega, by rw [hc]; omega⟩, by omega, by omega⟩ c))
                · refine wp_iconst (n := 88) K dX11_stone_87 rfl ?_
                  refine ret_i K dX11_stone_88 ?_ rfl ?_ ⟨Nat.le_refl _, Nat.le_refl _⟩
                  all_goals rfl
            · refine wp_iload_n (n := 35) K dX11_stone_34 rfl rfl ?_
              refine wp_bipush (n := 37) K dX11_stone_35 rfl rfl ?_
              refine wp_icmp_gt (n := 40) K dX11_stone_37 rfl (tgt := 69) (by decide) ⟨by omega, by omega⟩ ⟨by omega, by omega⟩ (fun c37 => ?_) (fun c37 => ?_)
              · refine wp_iconst (n := 70) K dX11_stone_69 rfl ?_
                refine wp_istore (n := 72) K dX11_stone_70 rfl (by decide) ?_
                refine wp_iload (n := 74) K dX11_stone_72 rfl rfl ?_
                refine wp_if_eq (n := 77) K dX11_stone_74 rfl (tgt := 87) (by decide) ⟨by omega, by omega⟩ (fun c74 => ?_) (fun c74 => ?_)
                · refine wp_iconst (n := 88) K dX11_stone_87 rfl ?_
                  refine ret_i K dX11_stone_88 ?_ rfl ?_ ⟨Nat.le_refl _, Nat.le_refl _⟩
                  all_goals rfl
                · refine wp_aload (n := 79) K dX11_stone_77 rfl rfl ?_
                  refine wp_getI (n := 82) K dX11_stone_79 rfl fl_X11_81 rfl (liS rfl) rfl ?_
                  try simp only [up_same, up_up, up_ne, ne_eq, Nat.reduceEqDiff, not_false_eq_true, Int.reduceToNat, Int.toNat_natCast]
                  refine wp_bipush (n := 84) K dX11_stone_82 rfl rfl ?_
                  refine wp_icmp_lt (n := 87) K dX11_stone_84 rfl (tgt := 89) (by decide) ⟨by omega, by omega⟩ ⟨by omega, by omega⟩ (fun c84 => ?_) (fun c84 => ?_)
                  · (first | omega | (have q := of_decide_eq_true c47; exact absurd ⟨⟨by omega, by omega⟩, ⟨by omega, by omega⟩, ⟨by omega, by omega⟩, by omega, ⟨by omega, by rw [hc]; omega⟩, by omega, by omega⟩ c))
                  · refine wp_iconst (n := 88) K dX11_stone_87 rfl ?_
                    refine ret_i K dX11_stone_88 ?_ rfl ?_ ⟨Nat.le_refl _, Nat.le_refl _⟩
                    all_goals rfl
              · refine wp_aload (n := 42) K dX11_stone_40 rfl rfl ?_
                refine wp_iload (n := 44) K dX11_stone_42 rfl rfl ?_
                refine wp_invV_i (n := 47) K dX11_stone_44 rfl cf_X11_69 (c_areTold b h4 (σ 0).toNat (by omega) _ _ hn) rfl rfl rfl (liS rfl) rfl (by decide) ⟨Nat.le_refl _, Nat.le_refl _⟩ (Nat.le_of_ble_eq_true rfl) ?_
                refine wp_if_eq_b (n := 50) K dX11_stone_47 rfl (tgt := 69) (by decide) (fun c47 => ?_) (fun c47 => ?_)
                · refine wp_iconst (n := 70) K dX11_stone_69 rfl ?_
                  refine wp_istore (n := 72) K dX11_stone_70 rfl (by decide) ?_
                  refine wp_iload (n := 74) K dX11_stone_72 rfl rfl ?_
                  refine wp_if_eq (n := 77) K dX11_stone_74 rfl (tgt := 87) (by decide) ⟨by omega, by omega⟩ (fun c74 => ?_) (fun c74 => ?_)
                  · refine wp_iconst (n := 88) K dX11_stone_87 rfl ?_
                    refine ret_i K dX11_stone_88 ?_ rfl ?_ ⟨Nat.le_refl _, Nat.le_refl _⟩
                    all_goals rfl
                  · refine wp_aload (n := 79) K dX11_stone_77 rfl rfl ?_
                    refine wp_getI (n := 82) K dX11_stone_79 rfl fl_X11_81 rfl (liS rfl) rfl ?_
                    try simp only [up_same, up_up, up_ne, ne_eq, Nat.reduceEqDiff, not_false_eq_true, Int.reduceToNat, Int.toNat_natCast]
                    refine wp_bipush (n := 84) K dX11_stone_82 rfl rfl ?_
                    refine wp_icmp_lt (n := 87) K dX11_stone_84 rfl (tgt := 89) (by decide) ⟨by omega, by omega⟩ ⟨by omega, by omega⟩ (fun c84 => ?_) (fun c84 => ?_)
                    · (first | omega | (have q := of_decide_eq_true c47; exact absurd ⟨⟨by omega, by omega⟩, ⟨by omega, by omega⟩, ⟨by omega, by omega⟩, by omega, ⟨by omega, by rw [hc]; omega⟩, by omega, by omega⟩ c))
                    · refine wp_iconst (n := 88) K dX11_stone_87 rfl ?_
                      refine ret_i K dX11_stone_88 ?_ rfl ?_ ⟨Nat.le_refl _, Nat.le_refl _⟩
                      all_goals rfl
                · refine wp_iload (n := 52) K dX11_stone_50 rfl rfl ?_
                  refine wp_if_lt (n := 55) K dX11_stone_52 rfl (tgt := 69) (by decide) ⟨by omega, by omega⟩ (fun c52 => ?_) (fun c52 => ?_)
                  · refine wp_iconst (n := 70) K dX11_stone_69 rfl ?_
                    refine wp_istore (n := 72) K dX11_stone_70 rfl (by decide) ?_
                    refine wp_iload (n := 74) K dX11_stone_72 rfl rfl ?_
                    refine wp_if_eq (n := 77) K dX11_stone_74 rfl (tgt := 87) (by decide) ⟨by omega, by omega⟩ (fun c74 => ?_) (fun c74 => ?_)
                    · refine wp_iconst (n := 88) K dX11_stone_87 rfl ?_
                      refine ret_i K dX11_stone_88 ?_ rfl ?_ ⟨Nat.le_refl _, Nat.le_refl _⟩
                      all_goals rfl
                    · refine wp_aload (n := 79) K dX11_stone_77 rfl rfl ?_
                      refine wp_getI (n := 82) K dX11_stone_79 rfl fl_X11_81 rfl (liS rfl) rfl ?_
                      try simp only [up_same, up_up, up_ne, ne_eq, Nat.reduceEqDiff, not_false_eq_true, Int.reduceToNat, Int.toNat_natCast]
                      refine wp_bipush (n := 84) K dX11_stone_82 rfl rfl ?_
                      refine wp_icmp_lt (n := 87) K dX11_stone_84 rfl (tgt := 89) (by decide) ⟨by omega, by omega⟩ ⟨by omega, by omega⟩ (fun c84 => ?_) (fun c84 => ?_)
                      · (first | omega | (have q := of_decide_eq_true c47; exact absurd ⟨⟨by omega, by omega⟩, ⟨by omega, by omega⟩, ⟨by omega, by omega⟩, by omega, ⟨by omega, by rw [hc]; omega⟩, by omega, by omega⟩ c))
                      · refine wp_iconst (n := 88) K dX11_stone_87 rfl ?_
                        refine ret_i K dX11_stone_88 ?_ rfl ?_ ⟨Nat.le_refl _, Nat.le_refl _⟩
                        all_goals rfl
                  · refine wp_iload (n := 57) K dX11_stone_55 rfl rfl ?_
                    refine wp_iload (n := 59) K dX11_stone_57 rfl rfl ?_
                    refine wp_invS_i (n := 62) K dX11_stone_59 rfl cf_X11_75 (j_bitCountI _ (by have := of_decide_eq_true c47; omega) _ _) rfl rfl (by decide) ⟨Nat.le_refl _, Nat.le_refl _⟩ (Nat.le_of_ble_eq_true rfl) ?_
                    refine wp_icmp_gt (n := 65) K dX11_stone_62 rfl (tgt := 69) (by decide) ⟨by omega, by omega⟩ ⟨by omega, by omega⟩ (fun c62 => ?_) (fun c62 => ?_)
                    · refine wp_iconst (n := 70) K dX11_stone_69 rfl ?_
                      refine wp_istore (n := 72) K dX11_stone_70 rfl (by decide) ?_
                      refine wp_iload (n := 74) K dX11_stone_72 rfl rfl ?_
                      refine wp_if_eq (n := 77) K dX11_stone_74 rfl (tgt := 87) (by decide) ⟨by omega, by omega⟩ (fun c74 => ?_) (fun c74 => ?_)
                      · refine wp_iconst (n := 88) K dX11_stone_87 rfl ?_
                        refine ret_i K dX11_stone_88 ?_ rfl ?_ ⟨Nat.le_refl _, Nat.le_refl _⟩
                        all_goals rfl
                      · refine wp_aload (n := 79) K dX11_stone_77 rfl rfl ?_
                        refine wp_getI (n := 82) K dX11_stone_79 rfl fl_X11_81 rfl (liS rfl) rfl ?_
                        try simp only [up_same, up_up, up_ne, ne_eq, Nat.reduceEqDiff, not_false_eq_true, Int.reduceToNat, Int.toNat_natCast]
                        refine wp_bipush (n := 84) K dX11_stone_82 rfl rfl ?_
                        refine wp_icmp_lt (n := 87) K dX11_stone_84 rfl (tgt := 89) (by decide) ⟨by omega, by omega⟩ ⟨by omega, by omega⟩ (fun c84 => ?_) (fun c84 => ?_)
                        · (first | omega | (have q := of_decide_eq_true c47; exact absurd ⟨⟨by omega, by omega⟩, ⟨by omega, by omega⟩, ⟨by omega, by omega⟩, by omega, ⟨by omega, by rw [hc]; omega⟩, by omega, by omega⟩ c))
                        · refine wp_iconst (n := 88) K dX11_stone_87 rfl ?_
                          refine ret_i K dX11_stone_88 ?_ rfl ?_ ⟨Nat.le_refl _, Nat.le_refl _⟩
                          all_goals rfl
                    · refine wp_iconst (n := 66) K dX11_stone_65 rfl ?_
                      refine wp_goto K dX11_stone_66 (tgt := 70) (by decide) ?_
                      refine wp_istore (n := 72) K dX11_stone_70 rfl (by decide) ?_
                      refine wp_iload (n := 74) K dX11_stone_72 rfl rfl ?_
                      refine wp_if_eq (n := 77) K dX11_stone_74 rfl (tgt := 87) (by decide) ⟨by omega, by omega⟩ (fun c74 => ?_) (fun c74 => ?_)
                      · refine wp_iconst (n := 88) K dX11_stone_87 rfl ?_
                        refine ret_i K dX11_stone_88 ?_ rfl ?_ ⟨Nat.le_refl _, Nat.le_refl _⟩
                        all_goals rfl
                      · refine wp_aload (n := 79) K dX11_stone_77 rfl rfl ?_
                        refine wp_getI (n := 82) K dX11_stone_79 rfl fl_X11_81 rfl (liS rfl) rfl ?_
                        try simp only [up_same, up_up, up_ne, ne_eq, Nat.reduceEqDiff, not_false_eq_true, Int.reduceToNat, Int.toNat_natCast]
                        refine wp_bipush (n := 84) K dX11_stone_82 rfl rfl ?_
                        refine wp_icmp_lt (n := 87) K dX11_stone_84 rfl (tgt := 89) (by decide) ⟨by omega, by omega⟩ ⟨by omega, by omega⟩ (fun c84 => ?_) (fun c84 => ?_)
                        · (first | omega | (have q := of_decide_eq_true c47; exact absurd ⟨⟨by omega, by omega⟩, ⟨by omega, by omega⟩, ⟨by omega, by omega⟩, by omega, ⟨by omega, by rw [hc]; omega⟩, by omega, by omega⟩ c))
                        · refine wp_iconst (n := 88) K dX11_stone_87 rfl ?_
                          refine ret_i K dX11_stone_88 ?_ rfl ?_ ⟨Nat.le_refl _, Nat.le_refl _⟩
                          all_goals rfl

theorem touchA_H (σ : Nat → Int) (o t : Nat) (b : Bool) (hw : WH σ) (ho : o < 10) (ht : t < 10) : WH (touchA σ o t b) := by
  exact hw.touch ho ht
theorem c_touch (one other : Int) (is : Bool) (h1 : InR one) (h2 : InR other) (S : ST) (M : MT) (σ : Nat → Int) (h : HN M σ) (hw : WH σ) : ((0 ≤ one ∧ one < σ 3) ∧ (0 ≤ other ∧ other < σ 3) ∧ one ≠ other → Ct E1 yX11_touch cX11_touch 4 (some .boolean) rm_X11_touch [.ref 16, .int (z one), .int (z other), .int (z (bI is))] S M (Qi (bI true) [27] S M (fun M1 => HN M1 (touchA (touchA σ one.toNat other.toNat is) other.toNat one.toNat is)))) ∧ (¬ ((0 ≤ one ∧ one < σ 3) ∧ (0 ≤ other ∧ other < σ 3) ∧ one ≠ other) → Ct E1 yX11_touch cX11_touch 4 (some .boolean) rm_X11_touch [.ref 16, .int (z one), .int (z other), .int (z (bI is))] S M (Pi (bI false) S M)) := by
  have h3 := hw.1
  
  refine ⟨fun c => ?_, fun c => ?_⟩
  · refine Ct.mk [.ref 16, .int (z one), .int (z other), .int (z (bI is))] (by decide) rfl (Nat.le_of_ble_eq_true rfl) (fun X K => ?_)
    refine wp_aload_n (n := 1) K dX11_touch_0 rfl rfl ?_
    refine wp_getF (n := 4) K dX11_touch_1 rfl fl_X11_12 rfl (liS rfl) rfl rfl ?_
    refine wp_getF (n := 7) K dX11_touch_4 rfl fl_X11_106 rfl (liS rfl) rfl rfl ?_
    refine wp_iload_n (n := 8) K dX11_touch_7 rfl rfl ?_
    refine wp_invV_i (n := 11) K dX11_touch_8 rfl cf_X11_122 (c_hasH one h1 _ _ _ h3 h.1) rfl rfl rfl (liS rfl) rfl (by decide) ⟨Nat.le_refl _, Nat.le_refl _⟩ (Nat.le_of_ble_eq_true rfl) ?_
    refine wp_if_eq_b (n := 14) K dX11_touch_11 rfl (tgt := 33) (by decide) (fun c11 => ?_) (fun c11 => ?_)
    · have := of_decide_eq_false c11; omega
    · refine wp_aload_n (n := 15) K dX11_touch_14 rfl rfl ?_
      refine wp_getF (n := 18) K dX11_touch_15 rfl fl_X11_12 rfl (liS rfl) rfl rfl ?_
      refine wp_getF (n := 21) K dX11_touch_18 rfl fl_X11_106 rfl (liS rfl) rfl rfl ?_
      refine wp_iload_n (n := 22) K dX11_touch_21 rfl rfl ?_
      refine wp_invV_i (n := 25) K dX11_touch_22 rfl cf_X11_122 (c_hasH other h2 _ _ _ h3 h.1) rfl rfl rfl (liS rfl) rfl (by decide) ⟨Nat.le_refl _, Nat.le_refl _⟩ (Nat.le_of_ble_eq_true rfl) ?_
      refine wp_if_eq_b (n := 28) K dX11_touch_25 rfl (tgt := 33) (by decide) (fun c25 => ?_) (fun c25 => ?_)
      · have := of_decide_eq_false c25; omega
      · refine wp_iload_n (n := 29) K dX11_touch_28 rfl rfl ?_
        refine wp_iload_n (n := 30) K dX11_touch_29 rfl rfl ?_
        refine wp_icmp_ne (n := 33) K dX11_touch_30 rfl (tgt := 35) (by decide) ⟨by omega, by omega⟩ ⟨by omega, by omega⟩ (fun c30 => ?_) (fun c30 => ?_)
        · have e1 : one = (one.toNat : Int) := by omega
          have e2 : other = (other.toNat : Int) := by omega
          generalize one.toNat = o at e1 K ⊢
          generalize other.toNat = t at e2 K ⊢
          subst e1 e2
          refine wp_aload_n (n := 36) K dX11_touch_35 rfl rfl ?_
          refine wp_getF (n := 39) K dX11_touch_36 rfl fl_X11_12 rfl (liS rfl) rfl rfl ?_
          refine wp_getF (n := 42) K dX11_touch_39 rfl fl_X11_106 rfl (liS rfl) rfl rfl ?_
          refine wp_iload_n (n := 43) K dX11_touch_42 rfl rfl ?_
          refine wp_iload_n (n := 44) K dX11_touch_43 rfl rfl ?_
          refine wp_iload_n (n := 45) K dX11_touch_44 rfl rfl ?_
          refine wp_invV_qn (n := 48) K dX11_touch_45 rfl cf_X11_125 (c_setNear o t is (by omega) (by omega) _ _ σ h hw) rfl rfl rfl (liS rfl) rfl (by decide) ⟨Nat.le_refl _, Nat.le_refl _⟩ (Nat.le_of_ble_eq_true rfl) (fun A1 hA1 gA1 => ?_)
          refine wp_aload_n (n := 49) K dX11_touch_48 rfl rfl ?_
          refine wp_getF (n := 52) K dX11_touch_49 rfl fl_X11_12 rfl (liS rfl) rfl rfl ?_
          refine wp_getF (n := 55) K dX11_touch_52 rfl fl_X11_106 rfl (liS rfl) rfl rfl ?_
          refine wp_iload_n (n := 56) K dX11_touch_55 rfl rfl ?_
          refine wp_iload_n (n := 57) K dX11_touch_56 rfl rfl ?_
          refine wp_iload_n (n := 58) K dX11_touch_57 rfl rfl ?_
          refine wp_invV_qn (n := 61) K dX11_touch_58 rfl cf_X11_125 (c_setNear t o is (by omega) (by omega) _ _ _ gA1 (touchA_H σ o t is hw (by omega) (by omega))) rfl rfl rfl (liS rfl) rfl (by decide) ⟨Nat.le_refl _, Nat.le_refl _⟩ (Nat.le_of_ble_eq_true rfl) (fun A2 hA2 gA2 => ?_)
          refine wp_iconst (n := 62) K dX11_touch_61 rfl ?_
          refine ret_qz K dX11_touch_62 ?_ rfl ?_ ?_ ⟨Nat.le_refl _, Nat.le_refl _⟩
          · rfl
          · intro a ha; rw [hA2 a ha, hA1 a ha]
          · exact gA2
        · omega
  · refine Ct.mk [.ref 16, .int (z one), .int (z other), .int (z (bI is))] (by decide) rfl (Nat.le_of_ble_eq_true rfl) (fun X K => ?_)
    refine wp_aload_n (n := 1) K dX11_touch_0 rfl rfl ?_
    refine wp_getF (n := 4) K dX11_touch_1 rfl fl_X11_12 rfl (liS rfl) rfl rfl ?_
    refine wp_getF (n := 7) K dX11_touch_4 rfl fl_X11_106 rfl (liS rfl) rfl rfl ?_
    refine wp_iload_n (n := 8) K dX11_touch_7 rfl rfl ?_
    refine wp_invV_i (n := 11) K dX11_touch_8 rfl cf_X11_122 (c_hasH one h1 _ _ _ h3 h.1) rfl rfl rfl (liS rfl) rfl (by decide) ⟨Nat.le_refl _, Nat.le_refl _⟩ (Nat.le_of_ble_eq_true rfl) ?_
    refine wp_if_eq_b (n := 14) K dX11_touch_11 rfl (tgt := 33) (by decide) (fun c11 => ?_) (fun c11 => ?_)
    · refine wp_iconst (n := 34) K dX11_touch_33 rfl ?_
      refine ret_z K dX11_touch_34 ?_ rfl ?_ ⟨Nat.le_refl _, Nat.le_refl _⟩
      · rfl
      · rfl
    · have := of_decide_eq_true c11
      refine wp_aload_n (n := 15) K dX11_touch_14 rfl rfl ?_
      refine wp_getF (n := 18) K dX11_touch_15 rfl fl_X11_12 rfl (liS rfl) rfl rfl ?_
      refine wp_getF (n := 21) K dX11_touch_18 rfl fl_X11_106 rfl (liS rfl) rfl rfl ?_
      refine wp_iload_n (n := 22) K dX11_touch_21 rfl rfl ?_
      refine wp_invV_i (n := 25) K dX11_touch_22 rfl cf_X11_122 (c_hasH other h2 _ _ _ h3 h.1) rfl rfl rfl (liS rfl) rfl (by decide) ⟨Nat.le_refl _, Nat.le_refl _⟩ (Nat.le_of_ble_eq_true rfl) ?_
      refine wp_if_eq_b (n := 28) K dX11_touch_25 rfl (tgt := 33) (by decide) (fun c25 => ?_) (fun c25 => ?_)
      · refine wp_iconst (n := 34) K dX11_touch_33 rfl ?_
        refine ret_z K dX11_touch_34 ?_ rfl ?_ ⟨Nat.le_refl _, Nat.le_refl _⟩
        · rfl
        · rfl
      · have := of_decide_eq_true c25
        refine wp_iload_n (n := 29) K dX11_touch_28 rfl rfl ?_
        refine wp_iload_n (n := 30) K dX11_touch_29 rfl rfl ?_
        refine wp_icmp_ne (n := 33) K dX11_touch_30 rfl (tgt := 35) (by decide) ⟨by omega, by omega⟩ ⟨by omega, by omega⟩ (fun c30 => ?_) (fun c30 => ?_)
        · omega
        · refine wp_iconst (n := 34) K dX11_touch_33 rfl ?_
          refine ret_z K dX11_touch_34 ?_ rfl ?_ ⟨Nat.le_refl _, Nat.le_refl _⟩
          · rfl
          · rfl

theorem c_add (lo hi : Int) (S : ST) (M : MT) (σ : Nat → Int) (h : NN M σ) (h7 : 0 ≤ σ 7 ∧ σ 7 < 8) : Ct E1 yX5_add cX5_add 3 none rm_X5_add [.ref 29, .int (z lo), .int (z hi)] S M (Qn [29, 30, 31] S M (fun M1 => NN M1 (soundA σ lo hi))) := by
  have g := h.1
  have hn : σ 7 = ((σ 7).toNat : Int) := by omega
  generalize hk : (σ 7).toNat = n at hn
  have hm : M 29 2 = (n : Int) := by omega
  refine Ct.mk [.ref 29, .int (z lo), .int (z hi)] (by decide) rfl (Nat.le_of_ble_eq_true rfl) (fun X K => ?_)
  refine wp_aload_n (n := 1) K dX5_add_0 rfl rfl ?_
  refine wp_getI (n := 4) K dX5_add_1 rfl fl_X5_18 rfl (liS rfl) rfl ?_
  try simp only [up_same, up_up, up_ne, ne_eq, Nat.reduceEqDiff, not_false_eq_true, Int.reduceToNat, Int.toNat_natCast]
  refine wp_bipush (n := 6) K dX5_add_4 rfl rfl ?_
  refine wp_icmp_ge (n := 9) K dX5_add_6 rfl (tgt := 39) (by decide) ⟨by omega, by omega⟩ ⟨by omega, by omega⟩ (fun c6 => ?_) (fun c6 => ?_)
  · omega
  · refine wp_aload_n (n := 10) K dX5_add_9 rfl rfl ?_
    refine wp_getF (n := 13) K dX5_add_10 rfl fl_X5_9 rfl (liS rfl) rfl rfl ?_
    refine wp_aload_n (n := 14) K dX5_add_13 rfl rfl ?_
    refine wp_getI (n := 17) K dX5_add_14 rfl fl_X5_18 rfl (liS rfl) rfl ?_
    try simp only [up_same, up_up, up_ne, ne_eq, Nat.reduceEqDiff, not_false_eq_true, Int.reduceToNat, Int.toNat_natCast]
    refine wp_iload_n (n := 18) K dX5_add_17 rfl rfl ?_
    refine wp_iast (n := 19) K dX5_add_18 rfl rfl (liS rfl) (fun _ => rfl) ⟨by omega, by omega, by omega⟩ ?_
    try simp only [up_same, up_up, up_ne, ne_eq, Nat.reduceEqDiff, not_false_eq_true, Int.reduceToNat, Int.toNat_natCast]
    refine wp_aload_n (n := 20) K dX5_add_19 rfl rfl ?_
    refine wp_getF (n := 23) K dX5_add_20 rfl fl_X5_15 rfl (liS rfl) rfl rfl ?_
    refine wp_aload_n (n := 24) K dX5_add_23 rfl rfl ?_
    refine wp_getI (n := 27) K dX5_add_24 rfl fl_X5_18 rfl (liS rfl) rfl ?_
    try simp only [up_same, up_up, up_ne, ne_eq, Nat.reduceEqDiff, not_false_eq_true, Int.reduceToNat, Int.toNat_natCast]
    refine wp_iload_n (n := 28) K dX5_add_27 rfl rfl ?_
    refine wp_iast (n := 29) K dX5_add_28 rfl rfl (liS rfl) (fun _ => rfl) ⟨by omega, by omega, by omega⟩ ?_
    try simp only [up_same, up_up, up_ne, ne_eq, Nat.reduceEqDiff, not_false_eq_true, Int.reduceToNat, Int.toNat_natCast]
    refine wp_aload_n (n := 30) K dX5_add_29 rfl rfl ?_
    refine wp_dup (n := 31) K dX5_add_30 rfl rfl ?_
    refine wp_getI (n := 34) K dX5_add_31 rfl fl_X5_18 rfl (liS rfl) rfl ?_
    try simp only [up_same, up_up, up_ne, ne_eq, Nat.reduceEqDiff, not_false_eq_true, Int.reduceToNat, Int.toNat_natCast]
    refine wp_iconst (n := 35) K dX5_add_34 rfl ?_
    refine wp_iadd (n := 36) K dX5_add_35 rfl ?_
    refine wp_putI (n := 39) K dX5_add_36 rfl fl_X5_18 rfl (liS rfl) (Or.inl rfl) rfl rfl ?_
    try simp only [up_same, up_up, up_ne, ne_eq, Nat.reduceEqDiff, not_false_eq_true, Int.reduceToNat, Int.toNat_natCast]
    refine ret_qn K dX5_add_39 rfl ?_ ?_ ⟨Nat.le_refl _, Nat.le_refl _⟩
    · (intro a ha; simp only [List.mem_cons, List.not_mem_nil, or_false, not_or] at ha; simp [up, ha])
    · refine ⟨?_, fun k hk8 => ?_⟩
      · simp [up, soundA, hm, hn]
      · obtain ⟨g1, g2⟩ := h.2 k hk8
        simp only [soundA, up, hn, hm, Int.toNat_natCast]
        refine ⟨?_, ?_⟩ <;> simp [up] <;> (repeat' split) <;> first | omega | assumption | rfl

theorem c_sound (lo hi : Int) (h1 : InR lo) (h2 : InR hi) (S : ST) (M : MT) (σ : Nat → Int) (h : NN M σ) (h7 : 0 ≤ σ 7 ∧ σ 7 ≤ 8) : ((0 ≤ lo ∧ lo ≤ 20) ∧ (lo ≤ hi ∧ hi ≤ 20) ∧ σ 7 ≠ 8 → Ct E1 yX11_sound cX11_sound 3 (some .int) rm_X11_sound [.ref 16, .int (z lo), .int (z hi)] S M (Qi (σ 7 + 1) [29, 30, 31] S M (fun M1 => NN M1 (soundA σ lo hi)))) ∧ (¬ ((0 ≤ lo ∧ lo ≤ 20) ∧ (lo ≤ hi ∧ hi ≤ 20) ∧ σ 7 ≠ 8) → Ct E1 yX11_sound cX11_sound 3 (some .int) rm_X11_sound [.ref 16, .int (z lo), .int (z hi)] S M (Pi (-1) S M)) := by
  have g := h.1
  refine ⟨fun c => ?_, fun c => ?_⟩
  · refine Ct.mk [.ref 16, .int (z lo), .int (z hi)] (by decide) rfl (Nat.le_of_ble_eq_true rfl) (fun X K => ?_)
    refine wp_iload_n (n := 1) K dX11_sound_0 rfl rfl ?_
    refine wp_if_lt (n := 4) K dX11_sound_1 rfl (tgt := 30) (by decide) ⟨by omega, by omega⟩ (fun c1 => ?_) (fun c1 => ?_)
    · omega
    · refine wp_iload_n (n := 5) K dX11_sound_4 rfl rfl ?_
      refine wp_bipush (n := 7) K dX11_sound_5 rfl rfl ?_
      refine wp_icmp_gt (n := 10) K dX11_sound_7 rfl (tgt := 30) (by decide) ⟨by omega, by omega⟩ ⟨by omega, by omega⟩ (fun c7 => ?_) (fun c7 => ?_)
      · omega
      · refine wp_iload_n (n := 11) K dX11_sound_10 rfl rfl ?_
        refine wp_iload_n (n := 12) K dX11_sound_11 rfl rfl ?_
        refine wp_icmp_gt (n := 15) K dX11_sound_12 rfl (tgt := 30) (by decide) ⟨by omega, by omega⟩ ⟨by omega, by omega⟩ (fun c12 => ?_) (fun c12 => ?_)
        · omega
        · refine wp_aload_n (n := 16) K dX11_sound_15 rfl rfl ?_
          refine wp_getF (n := 19) K dX11_sound_16 rfl fl_X11_12 rfl (liS rfl) rfl rfl ?_
          refine wp_getF (n := 22) K dX11_sound_19 rfl fl_X11_233 rfl (liS rfl) rfl rfl ?_
          refine wp_getI (n := 25) K dX11_sound_22 rfl fl_X11_237 rfl (liS rfl) rfl ?_
          try simp only [up_same, up_up, up_ne, ne_eq, Nat.reduceEqDiff, not_false_eq_true, Int.reduceToNat, Int.toNat_natCast]
          refine wp_bipush (n := 27) K dX11_sound_25 rfl rfl ?_
          refine wp_icmp_lt (n := 30) K dX11_sound_27 rfl (tgt := 32) (by decide) ⟨by omega, by omega⟩ ⟨by omega, by omega⟩ (fun c27 => ?_) (fun c27 => ?_)
          · refine wp_aload_n (n := 33) K dX11_sound_32 rfl rfl ?_
            refine wp_getF (n := 36) K dX11_sound_33 rfl fl_X11_12 rfl (liS rfl) rfl rfl ?_
            refine wp_getF (n := 39) K dX11_sound_36 rfl fl_X11_233 rfl (liS rfl) rfl rfl ?_
            refine wp_iload_n (n := 40) K dX11_sound_39 rfl rfl ?_
            refine wp_iload_n (n := 41) K dX11_sound_40 rfl rfl ?_
            refine wp_invV_qn (n := 44) K dX11_sound_41 rfl cf_X11_240 (c_add lo hi _ _ σ h (by omega)) rfl rfl rfl (liS rfl) rfl (by decide) ⟨Nat.le_refl _, Nat.le_refl _⟩ (Nat.le_of_ble_eq_true rfl) (fun A1 hA1 gA1 => ?_)
            refine wp_aload_n (n := 45) K dX11_sound_44 rfl rfl ?_
            refine wp_getF (n := 48) K dX11_sound_45 rfl fl_X11_12 rfl (liS rfl) rfl rfl ?_
            refine wp_getF (n := 51) K dX11_sound_48 rfl fl_X11_233 rfl (liS rfl) rfl rfl ?_
            refine wp_getI (n := 54) K dX11_sound_51 rfl fl_X11_237 rfl (liS rfl) rfl ?_
            try simp only [up_same, up_up, up_ne, ne_eq, Nat.reduceEqDiff, not_false_eq_true, Int.reduceToNat, Int.toNat_natCast]
            refine ret_qi K dX11_sound_54 ?_ rfl ?_ ?_ ⟨Nat.le_refl _, Nat.le_refl _⟩
            · rw [gA1.1]; rfl
            · exact hA1
            · exact gA1
          · omega
  · refine Ct.mk [.ref 16, .int (z lo), .int (z hi)] (by decide) rfl (Nat.le_of_ble_eq_true rfl) (fun X K => ?_)
    refine wp_iload_n (n := 1) K dX11_sound_0 rfl rfl ?_
    refine wp_if_lt (n := 4) K dX11_sound_1 rfl (tgt := 30) (by decide) ⟨by omega, by omega⟩ (fun c1 => ?_) (fun c1 => ?_)
    · refine wp_iconst (n := 31) K dX11_sound_30 rfl ?_
      refine ret_i K dX11_sound_31 ?_ rfl ?_ ⟨Nat.le_refl _, Nat.le_refl _⟩
      all_goals rfl
    · refine wp_iload_n (n := 5) K dX11_sound_4 rfl rfl ?_
      refine wp_bipush (n := 7) K dX11_sound_5 rfl rfl ?_
      refine wp_icmp_gt (n := 10) K dX11_sound_7 rfl (tgt := 30) (by decide) ⟨by omega, by omega⟩ ⟨by omega, by omega⟩ (fun c7 => ?_) (fun c7 => ?_)
      · refine wp_iconst (n := 31) K dX11_sound_30 rfl ?_
        refine ret_i K dX11_sound_31 ?_ rfl ?_ ⟨Nat.le_refl _, Nat.le_refl _⟩
        all_goals rfl
      · refine wp_iload_n (n := 11) K dX11_sound_10 rfl rfl ?_
        refine wp_iload_n (n := 12) K dX11_sound_11 rfl rfl ?_
        refine wp_icmp_gt (n := 15) K dX11_sound_12 rfl (tgt := 30) (by decide) ⟨by omega, by omega⟩ ⟨by omega, by omega⟩ (fun c12 => ?_) (fun c12 => ?_)
        · refine wp_iconst (n := 31) K dX11_sound_30 rfl ?_
          refine ret_i K dX11_sound_31 ?_ rfl ?_ ⟨Nat.le_refl _, Nat.le_refl _⟩
          all_goals rfl
        · refine wp_aload_n (n := 16) K dX11_sound_15 rfl rfl ?_
          refine wp_getF (n := 19) K dX11_sound_16 rfl fl_X11_12 rfl (liS rfl) rfl rfl ?_
          refine wp_getF (n := 22) K dX11_sound_19 rfl fl_X11_233 rfl (liS rfl) rfl rfl ?_
          refine wp_getI (n := 25) K dX11_sound_22 rfl fl_X11_237 rfl (liS rfl) rfl ?_
          try simp only [up_same, up_up, up_ne, ne_eq, Nat.reduceEqDiff, not_false_eq_true, Int.reduceToNat, Int.toNat_natCast]
          refine wp_bipush (n := 27) K dX11_sound_25 rfl rfl ?_
          refine wp_icmp_lt (n := 30) K dX11_sound_27 rfl (tgt := 32) (by decide) ⟨by omega, by omega⟩ ⟨by omega, by omega⟩ (fun c27 => ?_) (fun c27 => ?_)
          · omega
          · refine wp_iconst (n := 31) K dX11_sound_30 rfl ?_
            refine ret_i K dX11_sound_31 ?_ rfl ?_ ⟨Nat.le_refl _, Nat.le_refl _⟩
            all_goals rfl

theorem c_hush (S : ST) (M : MT) (σ : Nat → Int) (h : NN M σ) : Ct E1 yX11_hush cX11_hush 2 (some .int) rm_X11_hush [.ref 16] S M (Pi (σ 7) S (up M 29 (up (M 29) 2 0))) := by
  refine Ct.mk [.ref 16, mkV] (by decide) rfl (Nat.le_of_ble_eq_true rfl) (fun X K => ?_)
  refine wp_aload_n (n := 1) K dX11_hush_0 rfl rfl ?_
  refine wp_getF (n := 4) K dX11_hush_1 rfl fl_X11_12 rfl (liS rfl) rfl rfl ?_
  refine wp_getF (n := 7) K dX11_hush_4 rfl fl_X11_233 rfl (liS rfl) rfl rfl ?_
  refine wp_getI (n := 10) K dX11_hush_7 rfl fl_X11_237 rfl (liS rfl) rfl ?_
  try simp only [up_same, up_up, Int.reduceToNat, Int.toNat_natCast]
  refine wp_istore_n (n := 11) K dX11_hush_10 rfl (by decide) ?_
  refine wp_aload_n (n := 12) K dX11_hush_11 rfl rfl ?_
  refine wp_getF (n := 15) K dX11_hush_12 rfl fl_X11_12 rfl (liS rfl) rfl rfl ?_
  refine wp_getF (n := 18) K dX11_hush_15 rfl fl_X11_233 rfl (liS rfl) rfl rfl ?_
  refine wp_iconst (n := 19) K dX11_hush_18 rfl ?_
  refine wp_putI (n := 22) K dX11_hush_19 rfl fl_X11_237 rfl (liS rfl) (Or.inl rfl) rfl rfl ?_
  try simp only [up_same, up_up, Int.reduceToNat, Int.toNat_natCast]
  refine wp_iload_n (n := 23) K dX11_hush_22 rfl rfl ?_
  refine ret_i K dX11_hush_23 ?_ rfl ?_ ⟨Nat.le_refl _, Nat.le_refl _⟩
  · exact h.1
  · rfl

theorem c_isFit (p : Nat) (e : Int) (S : ST) (M : MT) (σ : Nat → Int) (h : NN M σ) (h7 : 0 ≤ σ 7 ∧ σ 7 ≤ 8) (hp : (p : Int) < σ 7) (he : InR e) (hr : InR (σ (100 + 2 * p)) ∧ InR (σ (101 + 2 * p))) : Ct E1 yX5_isFit cX5_isFit 3 (some .boolean) rm_X5_isFit [.ref 29, .int (z (p : Int)), .int (z e)] S M (Pi (bI (decide (σ (100 + 2 * p) ≤ e ∧ e ≤ σ (101 + 2 * p)))) S M) := by
  have g := h.1
  obtain ⟨g1, g2⟩ := h.2 p (by omega)
  refine Ct.mk [.ref 29, .int (z (p : Int)), .int (z e)] (by decide) rfl (Nat.le_of_ble_eq_true rfl) (fun X K => ?_)
  refine wp_iload_n (n := 1) K dX5_isFit_0 rfl rfl ?_
  refine wp_if_lt (n := 4) K dX5_isFit_1 rfl (tgt := 36) (by decide) ⟨by omega, by omega⟩ (fun c1 => ?_) (fun c1 => ?_)
  · omega
  · refine wp_iload_n (n := 5) K dX5_isFit_4 rfl rfl ?_
    refine wp_aload_n (n := 6) K dX5_isFit_5 rfl rfl ?_
    refine wp_getI (n := 9) K dX5_isFit_6 rfl fl_X5_18 rfl (liS rfl) rfl ?_
    try simp only [up_same, up_up, Int.reduceToNat, Int.toNat_natCast]
    refine wp_icmp_ge (n := 12) K dX5_isFit_9 rfl (tgt := 36) (by decide) ⟨by omega, by omega⟩ ⟨by omega, by omega⟩ (fun c9 => ?_) (fun c9 => ?_)
    · omega
    · refine wp_iload_n (n := 13) K dX5_isFit_12 rfl rfl ?_
      refine wp_aload_n (n := 14) K dX5_isFit_13 rfl rfl ?_
      refine wp_getF (n := 17) K dX5_isFit_14 rfl fl_X5_9 rfl (liS rfl) rfl rfl ?_
      refine wp_iload_n (n := 18) K dX5_isFit_17 rfl rfl ?_
      refine wp_iald (n := 19) K dX5_isFit_18 rfl rfl (liS rfl) ⟨by omega, by omega, by omega⟩ ?_
      try simp only [up_same, up_up, Int.reduceToNat, Int.toNat_natCast]
      rw [g1]
      refine wp_icmp_lt (n := 22) K dX5_isFit_19 rfl (tgt := 36) (by decide) he hr.1 (fun c19 => ?_) (fun c19 => ?_)
      · refine wp_iconst (n := 37) K dX5_isFit_36 rfl ?_
        refine ret_z K dX5_isFit_37 ?_ rfl ?_ ⟨Nat.le_refl _, Nat.le_refl _⟩
        · exact bI_f (by omega)
        · rfl
      · refine wp_iload_n (n := 23) K dX5_isFit_22 rfl rfl ?_
        refine wp_aload_n (n := 24) K dX5_isFit_23 rfl rfl ?_
        refine wp_getF (n := 27) K dX5_isFit_24 rfl fl_X5_15 rfl (liS rfl) rfl rfl ?_
        refine wp_iload_n (n := 28) K dX5_isFit_27 rfl rfl ?_
        refine wp_iald (n := 29) K dX5_isFit_28 rfl rfl (liS rfl) ⟨by omega, by omega, by omega⟩ ?_
        try simp only [up_same, up_up, Int.reduceToNat, Int.toNat_natCast]
        rw [g2]
        refine wp_icmp_gt (n := 32) K dX5_isFit_29 rfl (tgt := 36) (by decide) he hr.2 (fun c29 => ?_) (fun c29 => ?_)
        · refine wp_iconst (n := 37) K dX5_isFit_36 rfl ?_
          refine ret_z K dX5_isFit_37 ?_ rfl ?_ ⟨Nat.le_refl _, Nat.le_refl _⟩
          · exact bI_f (by omega)
          · rfl
        · refine wp_iconst (n := 33) K dX5_isFit_32 rfl ?_
          refine wp_goto K dX5_isFit_33 (tgt := 37) (by decide) ?_
          refine ret_z K dX5_isFit_37 ?_ rfl ?_ ⟨Nat.le_refl _, Nat.le_refl _⟩
          · exact bI_t (by omega)
          · rfl
