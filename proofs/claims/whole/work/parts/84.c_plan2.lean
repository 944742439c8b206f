def F0w (W : Nat → Int) : Nat → Int := up (fillF W 4096 0) 0 1
theorem wyT_F0 (ok : Nat → Nat → Bool) {n most : Nat} (hn : n ≤ 12) (W : Nat → Int) : wyT ok n most (F0w W) 0 = F0w W := by
  have hp := p12 hn
  funext j
  unfold wyT wy0
  by_cases h : j < 2 ^ n
  · rw [if_pos h]
    unfold F0w fillF up
    by_cases h0 : j = 0
    · rw [if_pos h0, if_pos h0]
    · rw [if_neg h0, if_neg h0]; dsimp only; rw [if_pos (by omega)]
  · rw [if_neg h]

theorem c_countWays (N most : Nat) (bs0 : Bool) (hN : N ≤ 12) (hm : most ≤ 12) (S : ST) (M : MT) (σ τ : Nat → Int) (b : Nat) (hA : AQ S M σ τ b) (h0 : σ 0 = N) (hU : bs0 = true → (most : Int) = σ 7) (h7 : 0 ≤ σ 7 ∧ σ 7 ≤ 8) (hso : ∀ u : Nat, u < 12 → InR (σ (100 + 2 * u)) ∧ InR (σ (101 + 2 * u))) : Ct E1 yX3_countWays cX3_countWays 6 none rm_X3_countWays [.ref 67, .ref 17, .int (z (most : Int)), .int (z (bI bs0))] S M (Qn [68, 69, 72, 73] S M (fun M1 => VB 72 M1 ∧ LC M1 σ τ ∧ M1 69 = wyT (okW σ τ bs0) N most (F0w (M 69)) (2 ^ N))) := by
  have hp := p12 hN
  refine Ct.mk [.ref 67, .ref 17, .int (z (most : Int)), .int (z (bI bs0)), mkV, mkV] (by decide) rfl (Nat.le_of_ble_eq_true rfl) (fun X K => ?_)
  refine wp_aload_n (n := 1) K dX3_countWays_0 rfl rfl ?_
  refine wp_getF (n := 4) K dX3_countWays_1 rfl fl_X3_15 rfl (liS rfl) rfl rfl ?_
  refine wp_iconst (n := 5) K dX3_countWays_4 rfl ?_
  refine wp_invS_n (n := 8) K dX3_countWays_5 rfl cf_X3_52 (j_fill 69 4096 0 _ _ rfl (liS rfl) (fun _ => rfl) (by decide)) rfl rfl (by decide) ⟨Nat.le_refl _, Nat.le_refl _⟩ (Nat.le_of_ble_eq_true rfl) ?_
  refine wp_aload_n (n := 9) K dX3_countWays_8 rfl rfl ?_
  refine wp_getF (n := 12) K dX3_countWays_9 rfl fl_X3_15 rfl (liS rfl) rfl rfl ?_
  refine wp_iconst (n := 13) K dX3_countWays_12 rfl ?_
  refine wp_iconst (n := 14) K dX3_countWays_13 rfl ?_
  refine wp_iast (n := 15) K dX3_countWays_14 rfl rfl (liS rfl) (fun _ => rfl) ⟨by omega, by omega, by omega⟩ ?_
  try simp only [up_same, up_up, up_ne, ne_eq, Nat.reduceEqDiff, not_false_eq_true, Int.reduceToNat, Int.toNat_natCast]
  refine wp_aload_n (n := 16) K dX3_countWays_15 rfl rfl ?_
  refine wp_getF (n := 19) K dX3_countWays_16 rfl fl_X3_58 rfl (liS rfl) rfl rfl ?_
  have e1 : up (fillF (M 69) 4096 0) 0 1 = F0w (M 69) := rfl
  rw [e1]
  have hc0 : (up M 69 (F0w (M 69))) 18 5 = (N : Int) := by rw [up_ne _ _ (by decide), hA.1.1.1, h0]
  refine wp_invV_i (n := 22) K dX3_countWays_19 rfl cf_X3_73 (c_allS N hN _ _ hc0) rfl rfl rfl (liS rfl) rfl (by decide) ⟨Nat.le_refl _, Nat.le_refl _⟩ (Nat.le_of_ble_eq_true rfl) ?_
  refine wp_istore (n := 24) K dX3_countWays_22 rfl (by decide) ?_
  refine wp_iconst (n := 25) K dX3_countWays_24 rfl ?_
  refine wp_istore (n := 27) K dX3_countWays_25 rfl (by decide) ?_
  refine (dn (2 ^ N) (Q := fun k => ∀ (B : MT), (∀ a, a ∉ [68, 69, 72, 73] → B a = M a) → VB 72 B → LC B σ τ → B 69 = wyT (okW σ τ bs0) N most (F0w (M 69)) k → Wp E1 X 27 [.ref 67, .ref 17, .int (z (most : Int)), .int (z (bI bs0)), .int (z ((2 ^ N - 1 : Nat) : Int)), .int (z (k : Int))] [] S B) (fun k hk ih B hB hBv hBc hB69 => ?_) 0 (by omega)) _ (fun a ha => by simp only [List.mem_cons, List.not_mem_nil, or_false, not_or] at ha; simp [up, ha]) (fun j hj => by rw [up_ne _ _ (by decide)]; exact hA.2.2.2.2.2.1 j hj) (fun s ld tp g1 g2 g3 => by rw [up_ne _ _ (by decide)]; exact hA.2.2.2.2.2.2 s ld tp g1 g2 g3) (by rw [up_same, wyT_F0 _ hN])
  have hAB : AQ S B σ τ b := hA.mem (fun a ha => hB a (by simp at ha ⊢; omega)) hBv hBc
  have fin1 : k = 2 ^ N → Wp E1 X 75 [.ref 67, .ref 17, .int (z (most : Int)), .int (z (bI bs0)), .int (z ((2 ^ N - 1 : Nat) : Int)), .int (z (k : Int))] [] S B := fun e => by
    subst e
    refine ret_qn K dX3_countWays_75 rfl ?_ ?_ ⟨Nat.le_refl _, Nat.le_refl _⟩
    · exact hB
    · exact ⟨hBv, hBc, hB69⟩
  refine wp_iload (n := 29) K dX3_countWays_27 rfl rfl ?_
  refine wp_sipush (n := 32) K dX3_countWays_29 rfl rfl ?_
  refine wp_icmp_ge (n := 35) K dX3_countWays_32 rfl (tgt := 75) (by decide) ⟨by omega, by omega⟩ ⟨by omega, by omega⟩ (fun c32 => ?_) (fun c32 => ?_)
  · exact fin1 (by omega)
  · refine wp_iload (n := 37) K dX3_countWays_35 rfl rfl ?_
    refine wp_iload (n := 39) K dX3_countWays_37 rfl rfl ?_
    refine wp_icmp_gt (n := 42) K dX3_countWays_39 rfl (tgt := 75) (by decide) ⟨by omega, by omega⟩ ⟨by omega, by omega⟩ (fun c39 => ?_) (fun c39 => ?_)
    · exact fin1 (by omega)
    · have hk2 : k < 2 ^ N := by omega
      have ih := ih (by omega)
      have e0 : wyT (okW σ τ bs0) N most (F0w (M 69)) (k + 1) = if wyT (okW σ τ bs0) N most (F0w (M 69)) k k ≠ 0 ∧ cnt 12 k < most then wyK (okW σ τ bs0) k (wyT (okW σ τ bs0) N most (F0w (M 69)) k) N else wyT (okW σ τ bs0) N most (F0w (M 69)) k := rfl
      rw [e0, ← hB69] at ih
      have hr := wyT_r (okW_b σ τ bs0) (most := most) hN (W := F0w (M 69)) (k := k) (by omega) (T := k) hk2
      rw [← hB69] at hr
      have hcl := cnt_le 12 k
      refine wp_aload_n (n := 43) K dX3_countWays_42 rfl rfl ?_
      refine wp_getF (n := 46) K dX3_countWays_43 rfl fl_X3_15 rfl (liS rfl) rfl rfl ?_
      refine wp_iload (n := 48) K dX3_countWays_46 rfl rfl ?_
      refine wp_iald (n := 49) K dX3_countWays_48 rfl rfl (liS rfl) ⟨by omega, by omega, by omega⟩ ?_
      try simp only [up_same, up_up, up_ne, ne_eq, Nat.reduceEqDiff, not_false_eq_true, Int.reduceToNat, Int.toNat_natCast]
      refine wp_if_eq (n := 52) K dX3_countWays_49 rfl (tgt := 69) (by decide) ⟨by omega, by omega⟩ (fun c49 => ?_) (fun c49 => ?_)
      · rw [if_neg (fun q => q.1 c49)] at ih
        refine wp_iinc (n := 72) K dX3_countWays_69 rfl rfl (by decide) ?_
        refine wp_goto K dX3_countWays_72 (tgt := 27) (by decide) ?_
        exact ih B hB hBv hBc rfl
      · refine wp_iload (n := 54) K dX3_countWays_52 rfl rfl ?_
        refine wp_invS_i (n := 57) K dX3_countWays_54 rfl cf_X3_88 (j_bitCount k (by omega) _ _) rfl rfl (by decide) ⟨Nat.le_refl _, Nat.le_refl _⟩ (Nat.le_of_ble_eq_true rfl) ?_
        refine wp_iload_n (n := 58) K dX3_countWays_57 rfl rfl ?_
        refine wp_icmp_ge (n := 61) K dX3_countWays_58 rfl (tgt := 69) (by decide) ⟨by omega, by omega⟩ ⟨by omega, by omega⟩ (fun c58 => ?_) (fun c58 => ?_)
        · rw [if_neg (fun q => by omega)] at ih
          refine wp_iinc (n := 72) K dX3_countWays_69 rfl rfl (by decide) ?_
          refine wp_goto K dX3_countWays_72 (tgt := 27) (by decide) ?_
          exact ih B hB hBv hBc rfl
        · rw [if_pos ⟨c49, by omega⟩] at ih
          refine wp_aload_n (n := 62) K dX3_countWays_61 rfl rfl ?_
          refine wp_aload_n (n := 63) K dX3_countWays_62 rfl rfl ?_
          refine wp_iload (n := 65) K dX3_countWays_63 rfl rfl ?_
          refine wp_iload_n (n := 66) K dX3_countWays_65 rfl rfl ?_
          refine wp_invV_qn (n := 69) K dX3_countWays_66 rfl cf_X3_93 (c_spread k N bs0 hN hk2 _ _ σ τ b hAB h0 (fun q => by have := hU q; omega) h7 hso) rfl rfl rfl (liS rfl) rfl (by decide) ⟨Nat.le_refl _, Nat.le_refl _⟩ (Nat.le_of_ble_eq_true rfl) (fun A1 hA1 gA1 => ?_)
          refine wp_iinc (n := 72) K dX3_countWays_69 rfl rfl (by decide) ?_
          refine wp_goto K dX3_countWays_72 (tgt := 27) (by decide) ?_
          exact ih A1 (fun a ha => by rw [hA1 a ha, hB a ha]) gA1.1 gA1.2.1 gA1.2.2

theorem c_lowest (N : Nat) (hN : N ≤ 12) (S : ST) (M : MT) (σ τ C0 : Nat → Int) (hW : ∀ j, j < 2 ^ N → (0 ≤ M 69 j ∧ M 69 j ≤ 479001600) ∧ (M 69 j ≠ 0 ↔ cmT σ τ N C0 (2 ^ N) j ≠ 0)) : Ct E1 yX3_lowestOfMost cX3_lowestOfMost 4 (some .int) rm_X3_lowestOfMost [.ref 67, .int (z ((2 ^ N - 1 : Nat) : Int))] S M (Pi (soT σ τ N C0 (2 ^ N) : Int) S M) := by
  have hp := p12 hN
  refine Ct.mk [.ref 67, .int (z ((2 ^ N - 1 : Nat) : Int)), mkV, mkV] (by decide) rfl (Nat.le_of_ble_eq_true rfl) (fun X K => ?_)
  refine wp_iconst (n := 1) K dX3_lowestOfMost_0 rfl ?_
  refine wp_istore_n (n := 2) K dX3_lowestOfMost_1 rfl (by decide) ?_
  refine wp_iconst (n := 3) K dX3_lowestOfMost_2 rfl ?_
  refine wp_istore_n (n := 4) K dX3_lowestOfMost_3 rfl (by decide) ?_
  have e1 : soT σ τ N C0 1 = 0 := by
    have := (soT_lt σ τ N C0 1).2 (by decide)
    omega
  have key := dn (2 ^ N) (Q := fun k => 1 ≤ k → Wp E1 X 4 [.ref 67, .int (z ((2 ^ N - 1 : Nat) : Int)), .int (z (soT σ τ N C0 k : Int)), .int (z (k : Int))] [] S M) (fun k hk ih h1 => ?_) 1 hp.2 (Nat.le_refl _)
  · rw [e1] at key; exact key
  have hsl := soT_lt σ τ N C0 k
  have fin1 : k = 2 ^ N → Wp E1 X 44 [.ref 67, .int (z ((2 ^ N - 1 : Nat) : Int)), .int (z (soT σ τ N C0 k : Int)), .int (z (k : Int))] [] S M := fun e => by
    subst e
    refine wp_iload_n (n := 45) K dX3_lowestOfMost_44 rfl rfl ?_
    refine ret_i K dX3_lowestOfMost_45 ?_ rfl ?_ ⟨Nat.le_refl _, Nat.le_refl _⟩
    · rfl
    · rfl
  refine wp_iload_n (n := 5) K dX3_lowestOfMost_4 rfl rfl ?_
  refine wp_sipush (n := 8) K dX3_lowestOfMost_5 rfl rfl ?_
  refine wp_icmp_ge (n := 11) K dX3_lowestOfMost_8 rfl (tgt := 44) (by decide) ⟨by omega, by omega⟩ ⟨by omega, by omega⟩ (fun c8 => ?_) (fun c8 => ?_)
  · exact fin1 (by omega)
  · refine wp_iload_n (n := 12) K dX3_lowestOfMost_11 rfl rfl ?_
    refine wp_iload_n (n := 13) K dX3_lowestOfMost_12 rfl rfl ?_
    refine wp_icmp_gt (n := 16) K dX3_lowestOfMost_13 rfl (tgt := 44) (by decide) ⟨by omega, by omega⟩ ⟨by omega, by omega⟩ (fun c13 => ?_) (fun c13 => ?_)
    · exact fin1 (by omega)
    · have hk2 : k < 2 ^ N := by omega
      have ih := ih (by omega) (by omega)
      have e0 : soT σ τ N C0 (k + 1) = if cmT σ τ N C0 k k ≠ 0 ∧ cnt 12 (soT σ τ N C0 k) < cnt 12 k then k else soT σ τ N C0 k := rfl
      rw [e0, ← com_at hk2] at ih
      obtain ⟨hr, hiff⟩ := hW k hk2
      have c1 := cnt_le 12 k
      have c2 := cnt_le 12 (soT σ τ N C0 k)
      refine wp_aload_n (n := 17) K dX3_lowestOfMost_16 rfl rfl ?_
      refine wp_getF (n := 20) K dX3_lowestOfMost_17 rfl fl_X3_15 rfl (liS rfl) rfl rfl ?_
      refine wp_iload_n (n := 21) K dX3_lowestOfMost_20 rfl rfl ?_
      refine wp_iald (n := 22) K dX3_lowestOfMost_21 rfl rfl (liS rfl) ⟨by omega, by omega, by omega⟩ ?_
      try simp only [up_same, up_up, Int.reduceToNat, Int.toNat_natCast]
      refine wp_if_eq (n := 25) K dX3_lowestOfMost_22 rfl (tgt := 38) (by decide) ⟨by omega, by omega⟩ (fun c22 => ?_) (fun c22 => ?_)
      · rw [if_neg (fun q => (hiff.mpr q.1) c22)] at ih
        refine wp_iinc (n := 41) K dX3_lowestOfMost_38 rfl rfl (by decide) ?_
        refine wp_goto K dX3_lowestOfMost_41 (tgt := 4) (by decide) ?_
        exact ih
      · refine wp_iload_n (n := 26) K dX3_lowestOfMost_25 rfl rfl ?_
        refine wp_invS_i (n := 29) K dX3_lowestOfMost_26 rfl cf_X3_88 (j_bitCount k (by omega) _ _) rfl rfl (by decide) ⟨Nat.le_refl _, Nat.le_refl _⟩ (Nat.le_of_ble_eq_true rfl) ?_
        refine wp_iload_n (n := 30) K dX3_lowestOfMost_29 rfl rfl ?_
        refine wp_invS_i (n := 33) K dX3_lowestOfMost_30 rfl cf_X3_88 (j_bitCount _ (by omega) _ _) rfl rfl (by decide) ⟨Nat.le_refl _, Nat.le_refl _⟩ (Nat.le_of_ble_eq_true rfl) ?_
        refine wp_icmp_le (n := 36) K dX3_lowestOfMost_33 rfl (tgt := 38) (by decide) ⟨by omega, by omega⟩ ⟨by omega, by omega⟩ (fun c33 => ?_) (fun c33 => ?_)
        · rw [if_neg (fun q => by omega)] at ih
          refine wp_iinc (n := 41) K dX3_lowestOfMost_38 rfl rfl (by decide) ?_
          refine wp_goto K dX3_lowestOfMost_41 (tgt := 4) (by decide) ?_
          exact ih
        · rw [if_pos ⟨hiff.mp c22, by omega⟩] at ih
          refine wp_iload_n (n := 37) K dX3_lowestOfMost_36 rfl rfl ?_
          refine wp_istore_n (n := 38) K dX3_lowestOfMost_37 rfl (by decide) ?_
          refine wp_iinc (n := 41) K dX3_lowestOfMost_38 rfl rfl (by decide) ?_
          refine wp_goto K dX3_lowestOfMost_41 (tgt := 4) (by decide) ?_
          exact ih
theorem fcp_min {l a b : Int} (hl : 0 ≤ l ∧ l ≤ 9999) (ha : a ≤ 100000000) (hb : b = 100000000 ∨ (0 ≤ b ∧ b ≤ 119988)) (ha2 : a = 100000000 ∨ a ≤ 129987) : min (fcp a) (l + fcp b) = fcp (if l + b < a then l + b else a) := by
  unfold fcp
  (repeat' split) <;> omega

theorem c_leastAhead (set so N : Nat) (hN : N ≤ 12) (hso : so < 2 ^ N) (hsub : wo set so = 0) (hne : set ≠ so) (S : ST) (M : MT) (σ τ C L0 : Nat → Int) (b : Nat) (hA : AQ S M σ τ b) (h0 : σ 0 = N) (hC : C set ≠ 0) (Lf : Nat → Int) (hLf : Lf = lfD σ τ N so C L0 (so + 1)) (hM : ∀ j, set < j → j ≤ so → M 69 j = fcp (Lf j)) : Ct E1 yX3_leastAhead cX3_leastAhead 8 (some .int) rm_X3_leastAhead [.ref 67, .ref 17, .int (z (set : Int)), .int (z (so : Int))] S M (Qi (fcp (lvK σ τ so C Lf set N)) [68, 72, 73] S M (fun M1 => VB 72 M1 ∧ LC M1 σ τ)) := by
  have hp := p12 hN
  have hL := hA.2.2.2.1
  have hw := hL.1
  have hle := wo0_le hsub
  have hd := lf_dich hL hN hso (C := C) (L0 := L0)
  rw [← hLf] at hd
  have hd2 : ∀ j, j ≤ so → Lf j = 100000000 ∨ (0 ≤ Lf j ∧ Lf j ≤ 119988) := fun j hj => by
    have := cnt_le 12 j
    rcases hd (so - j) j (by omega) with q | q
    · exact Or.inl q
    · right; omega
  have hlv : ∀ m, lvK σ τ so C Lf set m = 100000000 ∨ lvK σ τ so C Lf set m ≤ 129987 := fun m => by
    rcases lvK_ex (σ := σ) (τ := τ) (C := C) (Lf := Lf) hne m with q | ⟨s, s1, s2, s3, s4, s5⟩
    · exact Or.inl q
    · have hnb : set.testBit s = false := by
        rw [mayF_L, Bool.and_eq_true] at s4; simpa using s4.1
      have hs12 : s < 12 := by
        rcases Nat.lt_or_ge s 12 with q | q
        · exact q
        · have := Nat.testBit_lt_two_pow (x := so) (i := s) (Nat.lt_of_lt_of_le hso (Nat.pow_le_pow_right (by decide) (by omega)))
          rw [s2] at this; cases this
      have hlr := liftF_r hL hs12 set
      have h1 := lvK_le0 (σ := σ) (τ := τ) (so := so) (C := C) (Lf := Lf) (set := set) m
      rcases hd2 _ (sub_or hsub s2) with u | u
      · left; omega
      · right; omega
  refine Ct.mk [.ref 67, .ref 17, .int (z (set : Int)), .int (z (so : Int)), mkV, mkV, mkV, mkV] (by decide) rfl (Nat.le_of_ble_eq_true rfl) (fun X K => ?_)
  refine wp_aload_n (n := 1) K dX3_leastAhead_0 rfl rfl ?_
  refine wp_getF (n := 4) K dX3_leastAhead_1 rfl fl_X3_58 rfl (liS rfl) rfl rfl ?_
  refine wp_iload_n (n := 5) K dX3_leastAhead_4 rfl rfl ?_
  refine wp_invV_i (n := 8) K dX3_leastAhead_5 rfl cf_X3_96 (c_topOf set (by omega) _ _ σ hA.1.1 hw) rfl rfl rfl (liS rfl) rfl (by decide) ⟨Nat.le_refl _, Nat.le_refl _⟩ (Nat.le_of_ble_eq_true rfl) ?_
  refine wp_istore (n := 10) K dX3_leastAhead_8 rfl (by decide) ?_
  refine wp_ldc (n := 12) K dX3_leastAhead_10 rfl (1000000) co_X3_130 ?_
  refine wp_istore (n := 14) K dX3_leastAhead_12 rfl (by decide) ?_
  refine wp_iconst (n := 15) K dX3_leastAhead_14 rfl ?_
  refine wp_istore (n := 17) K dX3_leastAhead_15 rfl (by decide) ?_
  have e0 : fcp (lvK σ τ so C Lf set 0) = 1000000 := by
    have : lvK σ τ so C Lf set 0 = 100000000 := by unfold lvK; rw [if_neg hne]
    rw [this]; unfold fcp; rw [if_neg (by omega)]
  have key := dn N (Q := fun i => ∀ (B : MT) (w7 : Value), (∀ a, a ∉ [68, 72, 73] → B a = M a) → VB 72 B → LC B σ τ → Wp E1 X 17 [.ref 67, .ref 17, .int (z (set : Int)), .int (z (so : Int)), .int (z (topT σ set (σ 0).toNat)), .int (z (fcp (lvK σ τ so C Lf set i))), .int (z (i : Int)), w7] [] S B) (fun i hi ih B w7 hB hBv hBc => ?_) 0 (by omega) M mkV (fun _ _ => rfl) hA.2.2.2.2.2.1 hA.2.2.2.2.2.2
  · rw [e0] at key; exact key
  have hAB : AQ S B σ τ b := hA.mem (fun a ha => hB a (by simp at ha ⊢; omega)) hBv hBc
  have hl0 := lvK_le0 (σ := σ) (τ := τ) (so := so) (C := C) (Lf := Lf) (set := set) i
  have hl1 := hlv i
  refine wp_iload (n := 19) K dX3_leastAhead_17 rfl rfl ?_
  refine wp_aload_n (n := 20) K dX3_leastAhead_19 rfl rfl ?_
  refine wp_getF (n := 23) K dX3_leastAhead_20 rfl fl_X3_58 rfl (liS rfl) rfl rfl ?_
  refine wp_getI (n := 26) K dX3_leastAhead_23 rfl fl_X3_64 rfl (liS rfl) rfl ?_
  try simp only [up_same, up_up, up_ne, ne_eq, Nat.reduceEqDiff, not_false_eq_true, Int.reduceToNat, Int.toNat_natCast]
  rw [show B 18 5 = (N : Int) by rw [hAB.1.1.1, h0]]
  refine wp_icmp_ge (n := 29) K dX3_leastAhead_26 rfl (tgt := 88) (by decide) ⟨by omega, by omega⟩ ⟨by omega, by omega⟩ (fun c26 => ?_) (fun c26 => ?_)
  · have : i = N := by omega
    subst this
    refine wp_iload (n := 90) K dX3_leastAhead_88 rfl rfl ?_
    refine ret_qi K dX3_leastAhead_90 ?_ rfl ?_ ?_ ⟨Nat.le_refl _, Nat.le_refl _⟩
    · rfl
    · exact hB
    · exact ⟨hBv, hBc⟩
  · have hi12 : i < 12 := by omega
    have ih := ih (by omega)
    have e1 : lvK σ τ so C Lf set (i + 1) = if so.testBit i = true ∧ C set ≠ 0 ∧ mayF σ τ i set = true ∧ liftF σ τ i set + Lf (set ||| 2 ^ i) < lvK σ τ so C Lf set i then liftF σ τ i set + Lf (set ||| 2 ^ i) else lvK σ τ so C Lf set i := rfl
    rw [e1] at ih
    have hwo : wo so set < 4096 := wo_ltn (by omega)
    refine wp_iload_n (n := 30) K dX3_leastAhead_29 rfl rfl ?_
    refine wp_iload_n (n := 31) K dX3_leastAhead_30 rfl rfl ?_
    refine wp_iconst (n := 32) K dX3_leastAhead_31 rfl ?_
    refine wp_ixor (n := 33) K dX3_leastAhead_32 rfl ?_
    refine wp_iand (n := 34) K dX3_leastAhead_33 rfl ?_
    rw [bandn_n (by omega) (by omega)]
    refine wp_iload (n := 36) K dX3_leastAhead_34 rfl rfl ?_
    refine wp_ishr (n := 37) K dX3_leastAhead_36 rfl ?_
    refine wp_iconst (n := 38) K dX3_leastAhead_37 rfl ?_
    refine wp_iand (n := 39) K dX3_leastAhead_38 rfl ?_
    refine wp_iconst (n := 40) K dX3_leastAhead_39 rfl ?_
    rw [bit_n (by omega) (by omega), wo_bit]
    have hbt := Bool.toNat_le (so.testBit i && !set.testBit i)
    refine wp_icmp_ne (n := 43) K dX3_leastAhead_40 rfl (tgt := 82) (by decide) ⟨by omega, by omega⟩ ⟨by omega, by omega⟩ (fun c40 => ?_) (fun c40 => ?_)
    · rw [if_neg (fun q => by
        have hnb : set.testBit i = false := by have := q.2.2.1; rw [mayF_L, Bool.and_eq_true] at this; simpa using this.1
        rw [q.1, hnb] at c40; exact c40 rfl)] at ih
      refine wp_iinc (n := 85) K dX3_leastAhead_82 rfl rfl (by decide) ?_
      refine wp_goto K dX3_leastAhead_85 (tgt := 17) (by decide) ?_
      exact ih B _ hB hBv hBc
    · have hbb : so.testBit i = true ∧ set.testBit i = false := by
        cases h1 : so.testBit i <;> cases h2 : set.testBit i <;> rw [h1, h2] at c40 <;> first | exact ⟨rfl, rfl⟩ | cases c40
      have hor := or_lt (n := 12) (k := set) (s := i) (by omega) hi12
      have hnx := sub_or hsub hbb.1
      have hgt := or_gt hbb.2
      have hlr := liftF_r hL hi12 set
      refine wp_aload_n (n := 44) K dX3_leastAhead_43 rfl rfl ?_
      refine wp_aload_n (n := 45) K dX3_leastAhead_44 rfl rfl ?_
      refine wp_iload (n := 47) K dX3_leastAhead_45 rfl rfl ?_
      refine wp_iload_n (n := 48) K dX3_leastAhead_47 rfl rfl ?_
      refine wp_iload (n := 50) K dX3_leastAhead_48 rfl rfl ?_
      refine wp_invV_qi (n := 53) K dX3_leastAhead_50 rfl cf_X3_112 (c_liftUpon i set hi12 (by omega) hbb.2 _ _ σ τ b hAB) rfl rfl rfl (liS rfl) rfl (by decide) ⟨Nat.le_refl _, Nat.le_refl _⟩ (Nat.le_of_ble_eq_true rfl) (fun A1 hA1 gA1 => ?_)
      have hur : -1 ≤ upF σ τ i set ∧ upF σ τ i set ≤ 9999 := by unfold upF; split <;> omega
      refine wp_istore (n := 55) K dX3_leastAhead_53 rfl (by decide) ?_
      refine wp_iload (n := 57) K dX3_leastAhead_55 rfl rfl ?_
      refine wp_iconst (n := 58) K dX3_leastAhead_57 rfl ?_
      refine wp_icmp_eq (n := 61) K dX3_leastAhead_58 rfl (tgt := 82) (by decide) ⟨by omega, by omega⟩ ⟨by omega, by omega⟩ (fun c58 => ?_) (fun c58 => ?_)
      · have hm : ¬ mayF σ τ i set = true := fun q => by unfold upF at c58; rw [if_pos q] at c58; omega
        rw [if_neg (fun q => hm q.2.2.1)] at ih
        refine wp_iinc (n := 85) K dX3_leastAhead_82 rfl rfl (by decide) ?_
        refine wp_goto K dX3_leastAhead_85 (tgt := 17) (by decide) ?_
        exact ih A1 _ (fun a ha => by rw [hA1 a ha, hB a ha]) gA1.1 gA1.2
      · have hm : mayF σ τ i set = true := by
          cases hq : mayF σ τ i set with
          | true => rfl
          | false => unfold upF at c58; rw [hq] at c58; exact absurd rfl c58
        have eu : upF σ τ i set = liftF σ τ i set := by unfold upF; rw [if_pos hm]
        have hpi : 2 ^ i < 4096 := Nat.pow_lt_pow_right (by decide) hi12
        have hor' : bor (set : Int) (bshl 1 (i : Int)) = ((set ||| 2 ^ i : Nat) : Int) := by rw [bshl_1 (by omega), bor_n (by omega) (by omega)]
        have hA69 : A1 69 (set ||| 2 ^ i) = fcp (Lf (set ||| 2 ^ i)) := by rw [hA1 _ (by decide), hB _ (by decide)]; exact hM _ hgt hnx
        have hdn := hd2 _ hnx
        have hfr : 0 ≤ fcp (Lf (set ||| 2 ^ i)) ∧ fcp (Lf (set ||| 2 ^ i)) ≤ 1000000 := by unfold fcp; split <;> omega
        have hcond : (so.testBit i = true ∧ C set ≠ 0 ∧ mayF σ τ i set = true ∧ liftF σ τ i set + Lf (set ||| 2 ^ i) < lvK σ τ so C Lf set i) = (liftF σ τ i set + Lf (set ||| 2 ^ i) < lvK σ τ so C Lf set i) := propext ⟨fun q => q.2.2.2, fun q => ⟨hbb.1, hC, hm, q⟩⟩
        simp only [hcond] at ih
        rw [← fcp_min hlr hl0 hdn hl1] at ih
        have hlf : -100000 ≤ fcp (lvK σ τ so C Lf set i) ∧ fcp (lvK σ τ so C Lf set i) ≤ 1000000 := by
          have h0n : 0 ≤ lvK σ τ so C Lf set i ∨ True := Or.inr trivial
          rcases lvK_ex (σ := σ) (τ := τ) (C := C) (Lf := Lf) hne i with q | ⟨s, s1, s2, s3, s4, s5⟩
          · rw [q]; unfold fcp; rw [if_neg (by omega)]; omega
          · have := liftF_r hL (s := s) (by omega) set
            have hdd := hd2 _ (sub_or hsub s2)
            unfold fcp; split <;> omega
        refine wp_iload (n := 63) K dX3_leastAhead_61 rfl rfl ?_
        refine wp_iload (n := 65) K dX3_leastAhead_63 rfl rfl ?_
        refine wp_aload_n (n := 66) K dX3_leastAhead_65 rfl rfl ?_
        refine wp_getF (n := 69) K dX3_leastAhead_66 rfl fl_X3_15 rfl (liS rfl) rfl rfl ?_
        refine wp_iload_n (n := 70) K dX3_leastAhead_69 rfl rfl ?_
        refine wp_iconst (n := 71) K dX3_leastAhead_70 rfl ?_
        refine wp_iload (n := 73) K dX3_leastAhead_71 rfl rfl ?_
        refine wp_ishl (n := 74) K dX3_leastAhead_73 rfl ?_
        refine wp_ior (n := 75) K dX3_leastAhead_74 rfl ?_
        rw [hor']
        refine wp_iald (n := 76) K dX3_leastAhead_75 rfl rfl (liS rfl) ⟨by omega, by omega, by omega⟩ ?_
        try simp only [up_same, up_up, up_ne, ne_eq, Nat.reduceEqDiff, not_false_eq_true, Int.reduceToNat, Int.toNat_natCast]
        rw [hA69, eu]
        refine wp_iadd (n := 77) K dX3_leastAhead_76 rfl ?_
        refine wp_invS_i (n := 80) K dX3_leastAhead_77 rfl cf_X3_131 (j_min _ _ ⟨by omega, by omega⟩ ⟨by omega, by omega⟩ _ _) rfl rfl (by decide) ⟨Nat.le_refl _, Nat.le_refl _⟩ (Nat.le_of_ble_eq_true rfl) ?_
        refine wp_istore (n := 82) K dX3_leastAhead_80 rfl (by decide) ?_
        refine wp_iinc (n := 85) K dX3_leastAhead_82 rfl rfl (by decide) ?_
        refine wp_goto K dX3_leastAhead_85 (tgt := 17) (by decide) ?_
        exact ih A1 _ (fun a ha => by rw [hA1 a ha, hB a ha]) gA1.1 gA1.2

theorem c_measure (so N : Nat) (hN : N ≤ 12) (hso : so < 2 ^ N) (S : ST) (M : MT) (σ τ C L0 : Nat → Int) (b : Nat) (hA : AQ S M σ τ b) (h0 : σ 0 = N) (Lf : Nat → Int) (hLf : Lf = lfD σ τ N so C L0 (so + 1)) (hW : ∀ j, j < 2 ^ N → (0 ≤ M 69 j ∧ M 69 j ≤ 479001600) ∧ (M 69 j ≠ 0 ↔ C j ≠ 0)) : Ct E1 yX3_measure cX3_measure 5 none rm_X3_measure [.ref 67, .ref 17, .int (z (so : Int))] S M (Qn [68, 69, 72, 73] S M (fun M1 => VB 72 M1 ∧ LC M1 σ τ ∧ ∀ j, j ≤ so → M1 69 j = fcp (Lf j))) := by
  have hp := p12 hN
  have hL := hA.2.2.2.1
  have hfix : ∀ set, set ≤ so → Lf set = lvV σ τ N so C Lf set := fun set hs => by
    have := lf_fix (σ := σ) (τ := τ) (n := N) (C := C) (L0 := L0) (set := set) (so := so) hs
    rw [hLf]; exact this
  have hso0 : Lf so = 0 := by
    have hd := hfix so (Nat.le_refl _)
    have e : ∀ m, lvK σ τ so C Lf so m = 0 := by
      intro m
      induction m with
      | zero => unfold lvK; rw [if_pos rfl]
      | succ m ihm =>
        unfold lvK
        rw [ihm]
        split
        · rename_i q
          have := q.2.2.1
          rw [mayF_L, q.1] at this; cases this
        · rfl
    rw [hd]; unfold lvV; split <;> rw [e]
  refine Ct.mk [.ref 67, .ref 17, .int (z (so : Int)), mkV, mkV] (by decide) rfl (Nat.le_of_ble_eq_true rfl) (fun X K => ?_)
  refine wp_aload_n (n := 1) K dX3_measure_0 rfl rfl ?_
  refine wp_getF (n := 4) K dX3_measure_1 rfl fl_X3_15 rfl (liS rfl) rfl rfl ?_
  refine wp_iload_n (n := 5) K dX3_measure_4 rfl rfl ?_
  refine wp_iconst (n := 6) K dX3_measure_5 rfl ?_
  refine wp_iast (n := 7) K dX3_measure_6 rfl rfl (liS rfl) (fun _ => rfl) ⟨by omega, by omega, by omega⟩ ?_
  try simp only [up_same, up_up, up_ne, ne_eq, Nat.reduceEqDiff, not_false_eq_true, Int.reduceToNat, Int.toNat_natCast]
  refine wp_iload_n (n := 8) K dX3_measure_7 rfl rfl ?_
  refine wp_iconst (n := 9) K dX3_measure_8 rfl ?_
  refine wp_isub (n := 10) K dX3_measure_9 rfl ?_
  refine wp_istore_n (n := 11) K dX3_measure_10 rfl (by decide) ?_
  have key : ∀ d set : Nat, set + d = so → ∀ (B : MT) (w4 : Value), (∀ a, a ∉ [68, 69, 72, 73] → B a = M a) → VB 72 B → LC B σ τ → (∀ j, j < set → B 69 j = M 69 j) → (∀ j, set ≤ j → j ≤ so → B 69 j = fcp (Lf j)) → Wp E1 X 11 [.ref 67, .ref 17, .int (z (so : Int)), .int (z ((set : Int) - 1)), w4] [] S B := by
    intro d set
    induction set generalizing d with
    | zero =>
      intro hsd B w4 hB hBv hBc hlo hhi
      refine wp_iload_n (n := 12) K dX3_measure_11 rfl rfl ?_
      refine wp_if_lt (n := 15) K dX3_measure_12 rfl (tgt := 68) (by decide) ⟨by omega, by omega⟩ (fun c12 => ?_) (fun c12 => ?_)
      · refine ret_qn K dX3_measure_68 rfl ?_ ?_ ⟨Nat.le_refl _, Nat.le_refl _⟩
        · exact hB
        · exact ⟨hBv, hBc, fun j hj => hhi j (by omega) hj⟩
      · omega
    | succ set ih =>
      intro hsd B w4 hB hBv hBc hlo hhi
      have hAB : AQ S B σ τ b := hA.mem (fun a ha => hB a (by simp at ha ⊢; omega)) hBv hBc
      have hB69 : B 69 set = M 69 set := hlo set (by omega)
      obtain ⟨hr, hiff⟩ := hW set (by omega)
      have hf := hfix set (by omega)
      have hne : set ≠ so := by omega
      have hwo : wo set so < 4096 := wo_ltn (by omega)
      have rest : ∀ (B' : MT) (w4 : Value), (∀ a, a ∉ [68, 72, 73] → B' a = B a) → VB 72 B' → LC B' σ τ → Wp E1 X 62 [.ref 67, .ref 17, .int (z (so : Int)), .int (z (set : Int)), w4] [] S (up B' 69 (up (B' 69) set (fcp (Lf set)))) := fun B' w4 q1 q2 q3 => by
        refine wp_iinc (n := 65) K dX3_measure_62 rfl rfl (by decide) ?_
        refine wp_goto K dX3_measure_65 (tgt := 11) (by decide) ?_
        refine ih (d + 1) (by omega) _ _ (fun a ha => ?_) (fun j hj => by rw [up_ne _ _ (by decide)]; exact q2 j hj) (fun s ld tp g1 g2 g3 => by rw [up_ne _ _ (by decide)]; exact q3 s ld tp g1 g2 g3) (fun j hj => ?_) (fun j hj1 hj2 => ?_)
        · simp only [List.mem_cons, List.not_mem_nil, or_false, not_or] at ha
          rw [up_ne _ _ (by simp [ha]), q1 a (by simp [ha]), hB a (by simp [ha])]
        · rw [up_same, up_ne _ _ (by omega), q1 _ (by decide)]; exact hlo j (by omega)
        · rw [up_same]
          by_cases he : j = set
          · subst he; rw [up_same]
          · rw [up_ne _ _ he, q1 _ (by decide)]; exact hhi j (by omega) hj2
      have farc : Lf set = 100000000 → ∀ w4 : Value, Wp E1 X 36 [.ref 67, .ref 17, .int (z (so : Int)), .int (z (set : Int)), w4] [] S B := fun hq w4 => by
        have e : fcp (Lf set) = 1000000 := by rw [hq]; unfold fcp; rw [if_neg (by omega)]
        have r := rest B (.int (z 0)) (fun _ _ => rfl) hBv hBc
        rw [e] at r
        refine wp_iconst (n := 37) K dX3_measure_36 rfl ?_
        refine wp_istore (n := 39) K dX3_measure_37 rfl (by decide) ?_
        refine wp_aload_n (n := 40) K dX3_measure_39 rfl rfl ?_
        refine wp_getF (n := 43) K dX3_measure_40 rfl fl_X3_15 rfl (liS rfl) rfl rfl ?_
        refine wp_iload_n (n := 44) K dX3_measure_43 rfl rfl ?_
        refine wp_iload (n := 46) K dX3_measure_44 rfl rfl ?_
        refine wp_if_eq (n := 49) K dX3_measure_46 rfl (tgt := 59) (by decide) ⟨by omega, by omega⟩ (fun c46 => ?_) (fun c46 => ?_)
        · refine wp_ldc (n := 61) K dX3_measure_59 rfl (1000000) co_X3_130 ?_
          refine wp_iast (n := 62) K dX3_measure_61 rfl rfl (liS rfl) (fun _ => rfl) ⟨by omega, by omega, by omega⟩ ?_
          try simp only [up_same, up_up, up_ne, ne_eq, Nat.reduceEqDiff, not_false_eq_true, Int.reduceToNat, Int.toNat_natCast]
          exact r
        · omega
      rw [show ((set + 1 : Nat) : Int) - 1 = (set : Int) by omega]
      refine wp_iload_n (n := 12) K dX3_measure_11 rfl rfl ?_
      refine wp_if_lt (n := 15) K dX3_measure_12 rfl (tgt := 68) (by decide) ⟨by omega, by omega⟩ (fun c12 => ?_) (fun c12 => ?_)
      · omega
      · refine wp_iload_n (n := 16) K dX3_measure_15 rfl rfl ?_
        refine wp_iload_n (n := 17) K dX3_measure_16 rfl rfl ?_
        refine wp_iconst (n := 18) K dX3_measure_17 rfl ?_
        refine wp_ixor (n := 19) K dX3_measure_18 rfl ?_
        refine wp_iand (n := 20) K dX3_measure_19 rfl ?_
        rw [bandn_n (by omega) (by omega)]
        refine wp_if_ne (n := 23) K dX3_measure_20 rfl (tgt := 36) (by decide) ⟨by omega, by omega⟩ (fun c20 => ?_) (fun c20 => ?_)
        · refine farc ?_ _
          rw [hf]; unfold lvV; rw [if_neg (by omega)]; unfold lvK; rw [if_neg hne]
        · have hsub : wo set so = 0 := by omega
          refine wp_aload_n (n := 24) K dX3_measure_23 rfl rfl ?_
          refine wp_getF (n := 27) K dX3_measure_24 rfl fl_X3_15 rfl (liS rfl) rfl rfl ?_
          refine wp_iload_n (n := 28) K dX3_measure_27 rfl rfl ?_
          refine wp_iald (n := 29) K dX3_measure_28 rfl rfl (liS rfl) ⟨by omega, by omega, by omega⟩ ?_
          try simp only [up_same, up_up, up_ne, ne_eq, Nat.reduceEqDiff, not_false_eq_true, Int.reduceToNat, Int.toNat_natCast]
          rw [hB69]
          refine wp_if_eq (n := 32) K dX3_measure_29 rfl (tgt := 36) (by decide) ⟨by omega, by omega⟩ (fun c29 => ?_) (fun c29 => ?_)
          · refine farc ?_ _
            have hCs : ¬ C set ≠ 0 := fun q => (hiff.mpr q) c29
            rw [hf]; unfold lvV; rw [if_pos hsub]
            rcases lvK_ex (σ := σ) (τ := τ) (C := C) (Lf := Lf) hne N with q | ⟨s, s1, s2, s3, s4, s5⟩
            · exact q
            · exact absurd s3 hCs
          · have hCs := hiff.mp c29
            have ev : lvK σ τ so C Lf set N = Lf set := by rw [hf]; unfold lvV; rw [if_pos hsub]
            refine wp_iconst (n := 33) K dX3_measure_32 rfl ?_
            refine wp_goto K dX3_measure_33 (tgt := 37) (by decide) ?_
            refine wp_istore (n := 39) K dX3_measure_37 rfl (by decide) ?_
            refine wp_aload_n (n := 40) K dX3_measure_39 rfl rfl ?_
            refine wp_getF (n := 43) K dX3_measure_40 rfl fl_X3_15 rfl (liS rfl) rfl rfl ?_
            refine wp_iload_n (n := 44) K dX3_measure_43 rfl rfl ?_
            refine wp_iload (n := 46) K dX3_measure_44 rfl rfl ?_
            refine wp_if_eq (n := 49) K dX3_measure_46 rfl (tgt := 59) (by decide) ⟨by omega, by omega⟩ (fun c46 => ?_) (fun c46 => ?_)
            · omega
            · refine wp_aload_n (n := 50) K dX3_measure_49 rfl rfl ?_
              refine wp_aload_n (n := 51) K dX3_measure_50 rfl rfl ?_
              refine wp_iload_n (n := 52) K dX3_measure_51 rfl rfl ?_
              refine wp_iload_n (n := 53) K dX3_measure_52 rfl rfl ?_
              refine wp_invV_qi (n := 56) K dX3_measure_53 rfl cf_X3_126 (c_leastAhead set so N hN hso hsub hne _ _ σ τ C L0 b hAB h0 hCs Lf hLf (fun j h1 h2 => hhi j (by omega) h2)) rfl rfl rfl (liS rfl) rfl (by decide) ⟨Nat.le_refl _, Nat.le_refl _⟩ (Nat.le_of_ble_eq_true rfl) (fun A1 hA1 gA1 => ?_)
              refine wp_goto K dX3_measure_56 (tgt := 61) (by decide) ?_
              rw [ev]
              refine wp_iast (n := 62) K dX3_measure_61 rfl rfl (liS rfl) (fun _ => rfl) ⟨by omega, by omega, by omega⟩ ?_
              try simp only [up_same, up_up, up_ne, ne_eq, Nat.reduceEqDiff, not_false_eq_true, Int.reduceToNat, Int.toNat_natCast]
              exact rest A1 _ hA1 gA1.1 gA1.2
  have r := key 0 so (by omega) (up M 69 (up (M 69) so 0)) mkV (fun a ha => by simp only [List.mem_cons, List.not_mem_nil, or_false, not_or] at ha; simp [up, ha]) (fun j hj => by rw [up_ne _ _ (by decide)]; exact hA.2.2.2.2.2.1 j hj) (fun s ld tp g1 g2 g3 => by rw [up_ne _ _ (by decide)]; exact hA.2.2.2.2.2.2 s ld tp g1 g2 g3) (fun j hj => by rw [up_same, up_ne _ _ (by omega)]) (fun j h1 h2 => by
    have : j = so := by omega
    subst this
    rw [up_same, up_same, hso0]; rfl)
  exact r
