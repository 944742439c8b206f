def nsP (σ τ : Nat → Int) (so : Nat) (Lf : Nat → Int) (set s : Nat) : Prop := so.testBit s = true ∧ mayF σ τ s set = true ∧ liftF σ τ s set + Lf (set ||| 2 ^ s) = Lf set
theorem nsF_1 {σ τ : Nat → Int} {so : Nat} {Lf : Nat → Int} {set s d : Nat} (h : nsP σ τ so Lf set s) : nsF σ τ so Lf set (d + 1) s = s := by
  rw [nsF]; exact if_pos h
theorem nsF_2 {σ τ : Nat → Int} {so : Nat} {Lf : Nat → Int} {set s d : Nat} (h : ¬ nsP σ τ so Lf set s) : nsF σ τ so Lf set (d + 1) s = nsF σ τ so Lf set d (s + 1) := by
  rw [nsF]; exact if_neg h

theorem c_firstOfLeast (set so N : Nat) (hN : N ≤ 12) (hso : so < 2 ^ N) (hsub : wo set so = 0) (S : ST) (M : MT) (σ τ Lf : Nat → Int) (b : Nat) (hA : AQ S M σ τ b) (h0 : σ 0 = N) (hd2 : ∀ j, j ≤ so → Lf j = 100000000 ∨ (0 ≤ Lf j ∧ Lf j ≤ 119988)) (hM : ∀ j, j ≤ so → M 69 j = fcp (Lf j)) (hfin : Lf set < 100000000) (hex : ∃ j, j < N ∧ nsP σ τ so Lf set j) : Ct E1 yX3_firstOfLeast cX3_firstOfLeast 7 (some .int) rm_X3_firstOfLeast [.ref 67, .ref 17, .int (z (set : Int)), .int (z (so : Int))] S M (Qi (nsF σ τ so Lf set 12 0 : Int) [68, 72, 73] S M (fun M1 => VB 72 M1 ∧ LC M1 σ τ)) := by
  have hp := p12 hN
  have hL := hA.2.2.2.1
  have hw := hL.1
  have hle := wo0_le hsub
  refine Ct.mk [.ref 67, .ref 17, .int (z (set : Int)), .int (z (so : Int)), mkV, mkV, mkV] (by decide) rfl (Nat.le_of_ble_eq_true rfl) (fun X K => ?_)
  refine wp_aload_n (n := 1) K dX3_firstOfLeast_0 rfl rfl ?_
  refine wp_getF (n := 4) K dX3_firstOfLeast_1 rfl fl_X3_58 rfl (liS rfl) rfl rfl ?_
  refine wp_iload_n (n := 5) K dX3_firstOfLeast_4 rfl rfl ?_
  refine wp_invV_i (n := 8) K dX3_firstOfLeast_5 rfl cf_X3_96 (c_topOf set (by omega) _ _ σ hA.1.1 hw) rfl rfl rfl (liS rfl) rfl (by decide) ⟨Nat.le_refl _, Nat.le_refl _⟩ (Nat.le_of_ble_eq_true rfl) ?_
  refine wp_istore (n := 10) K dX3_firstOfLeast_8 rfl (by decide) ?_
  refine wp_iconst (n := 11) K dX3_firstOfLeast_10 rfl ?_
  refine wp_istore (n := 13) K dX3_firstOfLeast_11 rfl (by decide) ?_
  refine (dn N (Q := fun i => ∀ (B : MT) (w6 : Value), (∀ a, a ∉ [68, 72, 73] → B a = M a) → VB 72 B → LC B σ τ → (∀ s, s < i → ¬ nsP σ τ so Lf set s) → nsF σ τ so Lf set (12 - i) i = nsF σ τ so Lf set 12 0 → Wp E1 X 13 [.ref 67, .ref 17, .int (z (set : Int)), .int (z (so : Int)), .int (z (topT σ set (σ 0).toNat)), .int (z (i : Int)), w6] [] S B) (fun i hi ih B w6 hB hBv hBc hno heq => ?_) 0 (by omega)) M mkV (fun _ _ => rfl) hA.2.2.2.2.2.1 hA.2.2.2.2.2.2 (fun s hs => by omega) rfl
  have hAB : AQ S B σ τ b := hA.mem (fun a ha => hB a (by simp at ha ⊢; omega)) hBv hBc
  have hB69 : B 69 = M 69 := hB _ (by decide)
  refine wp_iload (n := 15) K dX3_firstOfLeast_13 rfl rfl ?_
  refine wp_aload_n (n := 16) K dX3_firstOfLeast_15 rfl rfl ?_
  refine wp_getF (n := 19) K dX3_firstOfLeast_16 rfl fl_X3_58 rfl (liS rfl) rfl rfl ?_
  refine wp_getI (n := 22) K dX3_firstOfLeast_19 rfl fl_X3_64 rfl (liS rfl) rfl ?_
  try simp only [up_same, up_up, up_ne, ne_eq, Nat.reduceEqDiff, not_false_eq_true, Int.reduceToNat, Int.toNat_natCast]
  rw [show B 18 5 = (N : Int) by rw [hAB.1.1.1, h0]]
  refine wp_icmp_ge (n := 25) K dX3_firstOfLeast_22 rfl (tgt := 89) (by decide) ⟨by omega, by omega⟩ ⟨by omega, by omega⟩ (fun c22 => ?_) (fun c22 => ?_)
  · obtain ⟨j, j1, j2⟩ := hex
    exact absurd j2 (hno j (by omega))
  · have hi12 : i < 12 := by omega
    have ih := ih (by omega)
    have hwo : wo so set < 4096 := wo_ltn (by omega)
    have step : ¬ nsP σ τ so Lf set i → ∀ (B' : MT) (w6 : Value), (∀ a, a ∉ [68, 72, 73] → B' a = B a) → VB 72 B' → LC B' σ τ → Wp E1 X 83 [.ref 67, .ref 17, .int (z (set : Int)), .int (z (so : Int)), .int (z (topT σ set (σ 0).toNat)), .int (z (i : Int)), w6] [] S B' := fun hn B' w6 q1 q2 q3 => by
      refine wp_iinc (n := 86) K dX3_firstOfLeast_83 rfl rfl (by decide) ?_
      refine wp_goto K dX3_firstOfLeast_86 (tgt := 13) (by decide) ?_
      refine ih B' w6 (fun a ha => by rw [q1 a ha, hB a ha]) q2 q3 (fun s hs => ?_) ?_
      · by_cases he : s = i
        · subst he; exact hn
        · exact hno s (by omega)
      · rw [← heq, show 12 - i = (12 - (i + 1)) + 1 by omega, nsF_2 hn]
    refine wp_iload_n (n := 26) K dX3_firstOfLeast_25 rfl rfl ?_
    refine wp_iload_n (n := 27) K dX3_firstOfLeast_26 rfl rfl ?_
    refine wp_iconst (n := 28) K dX3_firstOfLeast_27 rfl ?_
    refine wp_ixor (n := 29) K dX3_firstOfLeast_28 rfl ?_
    refine wp_iand (n := 30) K dX3_firstOfLeast_29 rfl ?_
    rw [bandn_n (by omega) (by omega)]
    refine wp_iload (n := 32) K dX3_firstOfLeast_30 rfl rfl ?_
    refine wp_ishr (n := 33) K dX3_firstOfLeast_32 rfl ?_
    refine wp_iconst (n := 34) K dX3_firstOfLeast_33 rfl ?_
    refine wp_iand (n := 35) K dX3_firstOfLeast_34 rfl ?_
    refine wp_iconst (n := 36) K dX3_firstOfLeast_35 rfl ?_
    rw [bit_n (by omega) (by omega), wo_bit]
    have hbt := Bool.toNat_le (so.testBit i && !set.testBit i)
    refine wp_icmp_ne (n := 39) K dX3_firstOfLeast_36 rfl (tgt := 83) (by decide) ⟨by omega, by omega⟩ ⟨by omega, by omega⟩ (fun c36 => ?_) (fun c36 => ?_)
    · refine step (fun q => ?_) B _ (fun _ _ => rfl) hBv hBc
      have hnb : set.testBit i = false := by have := q.2.1; rw [mayF_L, Bool.and_eq_true] at this; simpa using this.1
      rw [q.1, hnb] at c36; exact c36 rfl
    · have hbb : so.testBit i = true ∧ set.testBit i = false := by
        cases h1 : so.testBit i <;> cases h2 : set.testBit i <;> rw [h1, h2] at c36 <;> first | exact ⟨rfl, rfl⟩ | cases c36
      have hor := or_lt (n := 12) (k := set) (s := i) (by omega) hi12
      have hnx := sub_or hsub hbb.1
      have hlr := liftF_r hL hi12 set
      refine wp_aload_n (n := 40) K dX3_firstOfLeast_39 rfl rfl ?_
      refine wp_aload_n (n := 41) K dX3_firstOfLeast_40 rfl rfl ?_
      refine wp_iload (n := 43) K dX3_firstOfLeast_41 rfl rfl ?_
      refine wp_iload_n (n := 44) K dX3_firstOfLeast_43 rfl rfl ?_
      refine wp_iload (n := 46) K dX3_firstOfLeast_44 rfl rfl ?_
      refine wp_invV_qi (n := 49) K dX3_firstOfLeast_46 rfl cf_X3_112 (c_liftUpon i set hi12 (by omega) hbb.2 _ _ σ τ b hAB) rfl rfl rfl (liS rfl) rfl (by decide) ⟨Nat.le_refl _, Nat.le_refl _⟩ (Nat.le_of_ble_eq_true rfl) (fun A1 hA1 gA1 => ?_)
      have hur : -1 ≤ upF σ τ i set ∧ upF σ τ i set ≤ 9999 := by unfold upF; split <;> omega
      refine wp_istore (n := 51) K dX3_firstOfLeast_49 rfl (by decide) ?_
      refine wp_iload (n := 53) K dX3_firstOfLeast_51 rfl rfl ?_
      refine wp_iconst (n := 54) K dX3_firstOfLeast_53 rfl ?_
      refine wp_icmp_eq (n := 57) K dX3_firstOfLeast_54 rfl (tgt := 83) (by decide) ⟨by omega, by omega⟩ ⟨by omega, by omega⟩ (fun c54 => ?_) (fun c54 => ?_)
      · have hm : ¬ mayF σ τ i set = true := fun q => by unfold upF at c54; rw [if_pos q] at c54; omega
        exact step (fun q => hm q.2.1) A1 _ hA1 gA1.1 gA1.2
      · have hm : mayF σ τ i set = true := by
          cases hq : mayF σ τ i set with
          | true => rfl
          | false => unfold upF at c54; rw [hq] at c54; exact absurd rfl c54
        have eu : upF σ τ i set = liftF σ τ i set := by unfold upF; rw [if_pos hm]
        have hpi : 2 ^ i < 4096 := Nat.pow_lt_pow_right (by decide) hi12
        have hor' : bor (set : Int) (bshl 1 (i : Int)) = ((set ||| 2 ^ i : Nat) : Int) := by rw [bshl_1 (by omega), bor_n (by omega) (by omega)]
        have hA69 : A1 69 = M 69 := by rw [hA1 _ (by decide)]; exact hB69
        have hdn := hd2 _ hnx
        have hds := hd2 _ hle
        have hfs : fcp (Lf set) = Lf set := by unfold fcp; rw [if_pos hfin]
        have hfr : 0 ≤ fcp (Lf (set ||| 2 ^ i)) ∧ fcp (Lf (set ||| 2 ^ i)) ≤ 1000000 := by unfold fcp; split <;> omega
        have hiff : nsP σ τ so Lf set i ↔ liftF σ τ i set + fcp (Lf (set ||| 2 ^ i)) = Lf set := by
          constructor
          · intro q
            have := q.2.2
            unfold fcp
            rw [if_pos (by omega)]; exact this
          · intro q
            refine ⟨hbb.1, hm, ?_⟩
            unfold fcp at q
            split at q <;> omega
        refine wp_iload (n := 59) K dX3_firstOfLeast_57 rfl rfl ?_
        refine wp_aload_n (n := 60) K dX3_firstOfLeast_59 rfl rfl ?_
        refine wp_getF (n := 63) K dX3_firstOfLeast_60 rfl fl_X3_15 rfl (liS rfl) rfl rfl ?_
        refine wp_iload_n (n := 64) K dX3_firstOfLeast_63 rfl rfl ?_
        refine wp_iconst (n := 65) K dX3_firstOfLeast_64 rfl ?_
        refine wp_iload (n := 67) K dX3_firstOfLeast_65 rfl rfl ?_
        refine wp_ishl (n := 68) K dX3_firstOfLeast_67 rfl ?_
        refine wp_ior (n := 69) K dX3_firstOfLeast_68 rfl ?_
        rw [hor']
        refine wp_iald (n := 70) K dX3_firstOfLeast_69 rfl rfl (liS rfl) ⟨by omega, by omega, by omega⟩ ?_
        try simp only [up_same, up_up, up_ne, ne_eq, Nat.reduceEqDiff, not_false_eq_true, Int.reduceToNat, Int.toNat_natCast]
        rw [hA69, hM _ hnx, eu]
        refine wp_iadd (n := 71) K dX3_firstOfLeast_70 rfl ?_
        refine wp_aload_n (n := 72) K dX3_firstOfLeast_71 rfl rfl ?_
        refine wp_getF (n := 75) K dX3_firstOfLeast_72 rfl fl_X3_15 rfl (liS rfl) rfl rfl ?_
        refine wp_iload_n (n := 76) K dX3_firstOfLeast_75 rfl rfl ?_
        refine wp_iald (n := 77) K dX3_firstOfLeast_76 rfl rfl (liS rfl) ⟨by omega, by omega, by omega⟩ ?_
        try simp only [up_same, up_up, up_ne, ne_eq, Nat.reduceEqDiff, not_false_eq_true, Int.reduceToNat, Int.toNat_natCast]
        rw [hA69, hM _ hle, hfs]
        refine wp_icmp_ne (n := 80) K dX3_firstOfLeast_77 rfl (tgt := 83) (by decide) ⟨by omega, by omega⟩ ⟨by omega, by omega⟩ (fun c77 => ?_) (fun c77 => ?_)
        · exact step (fun q => c77 (hiff.mp q)) A1 _ hA1 gA1.1 gA1.2
        · have hpp := hiff.mpr c77
          refine wp_iload (n := 82) K dX3_firstOfLeast_80 rfl rfl ?_
          refine ret_qi K dX3_firstOfLeast_82 ?_ rfl ?_ ?_ ⟨Nat.le_refl _, Nat.le_refl _⟩
          · rw [← heq, show 12 - i = (12 - (i + 1)) + 1 by omega, nsF_1 hpp]
          · intro a ha; rw [hA1 a ha, hB a ha]
          · exact gA1

theorem c_choose (so N : Nat) (hN : N ≤ 12) (hso : so < 2 ^ N) (S : ST) (M : MT) (σ τ Lf : Nat → Int) (b : Nat) (hA : AQ S M σ τ b) (h0 : σ 0 = N) (hd2 : ∀ j, j ≤ so → Lf j = 100000000 ∨ (0 ≤ Lf j ∧ Lf j ≤ 119988)) (hM : ∀ j, j ≤ so → M 69 j = fcp (Lf j)) (hpt : ∀ k, k ≤ cnt 12 so → (wo (ptS σ τ so Lf k) so = 0 ∧ Lf (ptS σ τ so Lf k) < 100000000) ∧ (k < cnt 12 so → ∃ j, j < N ∧ nsP σ τ so Lf (ptS σ τ so Lf k) j)) : Ct E1 yX3_choose cX3_choose 6 none rm_X3_choose [.ref 67, .ref 17, .int (z (so : Int))] S M (Qn [67, 68, 70, 72, 73] S M (fun M1 => VB 72 M1 ∧ LC M1 σ τ ∧ M1 67 = up (up (M 67) 6 (Lf 0)) 5 (cnt 12 so : Int) ∧ ∀ k, k < cnt 12 so → M1 70 k = (nsF σ τ so Lf (ptS σ τ so Lf k) 12 0 : Int))) := by
  have hp := p12 hN
  have hcl := cnt_le 12 so
  have h00 : M 69 0 = Lf 0 := by
    have this : Lf 0 < 100000000 := (hpt 0 (by omega)).1.2
    rw [hM 0 (by omega)]
    unfold fcp
    rw [if_pos this]
  refine Ct.mk [.ref 67, .ref 17, .int (z (so : Int)), mkV, mkV, mkV] (by decide) rfl (Nat.le_of_ble_eq_true rfl) (fun X K => ?_)
  refine wp_aload_n (n := 1) K dX3_choose_0 rfl rfl ?_
  refine wp_aload_n (n := 2) K dX3_choose_1 rfl rfl ?_
  refine wp_getF (n := 5) K dX3_choose_2 rfl fl_X3_15 rfl (liS rfl) rfl rfl ?_
  refine wp_iconst (n := 6) K dX3_choose_5 rfl ?_
  refine wp_iald (n := 7) K dX3_choose_6 rfl rfl (liS rfl) ⟨by omega, by omega, by omega⟩ ?_
  try simp only [up_same, up_up, up_ne, ne_eq, Nat.reduceEqDiff, not_false_eq_true, Int.reduceToNat, Int.toNat_natCast]
  rw [h00]
  refine wp_putI (n := 10) K dX3_choose_7 rfl fl_X3_36 rfl (liS rfl) (Or.inl rfl) rfl rfl ?_
  try simp only [up_same, up_up, up_ne, ne_eq, Nat.reduceEqDiff, not_false_eq_true, Int.reduceToNat, Int.toNat_natCast]
  refine wp_aload_n (n := 11) K dX3_choose_10 rfl rfl ?_
  refine wp_iload_n (n := 12) K dX3_choose_11 rfl rfl ?_
  refine wp_invS_i (n := 15) K dX3_choose_12 rfl cf_X3_88 (j_bitCount so (by omega) _ _) rfl rfl (by decide) ⟨Nat.le_refl _, Nat.le_refl _⟩ (Nat.le_of_ble_eq_true rfl) ?_
  refine wp_putI (n := 18) K dX3_choose_15 rfl fl_X3_32 rfl (liS rfl) (Or.inl rfl) rfl rfl ?_
  try simp only [up_same, up_up, up_ne, ne_eq, Nat.reduceEqDiff, not_false_eq_true, Int.reduceToNat, Int.toNat_natCast]
  refine wp_iconst (n := 19) K dX3_choose_18 rfl ?_
  refine wp_istore_n (n := 20) K dX3_choose_19 rfl (by decide) ?_
  refine wp_iconst (n := 21) K dX3_choose_20 rfl ?_
  refine wp_istore (n := 23) K dX3_choose_21 rfl (by decide) ?_
  refine (dn (cnt 12 so) (Q := fun k => ∀ (B : MT) (w5 : Value), (∀ a, a ∉ [67, 68, 70, 72, 73] → B a = M a) → VB 72 B → LC B σ τ → B 67 = up (up (M 67) 6 (Lf 0)) 5 (cnt 12 so : Int) → (∀ j, j < k → B 70 j = (nsF σ τ so Lf (ptS σ τ so Lf j) 12 0 : Int)) → Wp E1 X 23 [.ref 67, .ref 17, .int (z (so : Int)), .int (z (ptS σ τ so Lf k : Int)), .int (z (k : Int)), w5] [] S B) (fun k hk ih B w5 hB hBv hBc hB67 hB70 => ?_) 0 (by omega)) _ mkV (fun a ha => by simp only [List.mem_cons, List.not_mem_nil, or_false, not_or] at ha; simp [up, ha]) (fun j hj => by rw [up_ne _ _ (by decide)]; exact hA.2.2.2.2.2.1 j hj) (fun s ld tp g1 g2 g3 => by rw [up_ne _ _ (by decide)]; exact hA.2.2.2.2.2.2 s ld tp g1 g2 g3) (by rw [up_same]) (fun j hj => by omega)
  have hAB : AQ S B σ τ b := hA.mem (fun a ha => hB a (by simp at ha ⊢; omega)) hBv hBc
  obtain ⟨⟨p1, p2⟩, p3⟩ := hpt k hk
  have hpl := wo0_le p1
  refine wp_iload (n := 25) K dX3_choose_23 rfl rfl ?_
  refine wp_aload_n (n := 26) K dX3_choose_25 rfl rfl ?_
  refine wp_getI (n := 29) K dX3_choose_26 rfl fl_X3_32 rfl (liS rfl) rfl ?_
  try simp only [up_same, up_up, up_ne, ne_eq, Nat.reduceEqDiff, not_false_eq_true, Int.reduceToNat, Int.toNat_natCast]
  rw [hB67]
  simp only [up_same]
  refine wp_icmp_ge (n := 32) K dX3_choose_29 rfl (tgt := 70) (by decide) ⟨by omega, by omega⟩ ⟨by omega, by omega⟩ (fun c29 => ?_) (fun c29 => ?_)
  · have : k = cnt 12 so := by omega
    refine ret_qn K dX3_choose_70 rfl ?_ ?_ ⟨Nat.le_refl _, Nat.le_refl _⟩
    · exact hB
    · exact ⟨hBv, hBc, hB67, fun j hj => hB70 j (by omega)⟩
  · obtain ⟨j, j1, j2⟩ := p3 (by omega)
    refine wp_iload (n := 34) K dX3_choose_32 rfl rfl ?_
    refine wp_bipush (n := 36) K dX3_choose_34 rfl rfl ?_
    refine wp_icmp_ge (n := 39) K dX3_choose_36 rfl (tgt := 70) (by decide) ⟨by omega, by omega⟩ ⟨by omega, by omega⟩ (fun c36 => ?_) (fun c36 => ?_)
    · omega
    · have hns := nsF_ok (σ := σ) (τ := τ) (so := so) (Lf := Lf) (set := ptS σ τ so Lf k) (j := j) j2 12 0 (by omega) (by omega)
      have hnl : nsF σ τ so Lf (ptS σ τ so Lf k) 12 0 < 12 := by
        have h1 := hns.1.1
        rcases Nat.lt_or_ge (nsF σ τ so Lf (ptS σ τ so Lf k) 12 0) 12 with q | q
        · exact q
        · have := Nat.testBit_lt_two_pow (x := so) (i := nsF σ τ so Lf (ptS σ τ so Lf k) 12 0) (Nat.lt_of_lt_of_le hso (Nat.pow_le_pow_right (by decide) (by omega)))
          rw [h1] at this; cases this
      have ih := ih (by omega)
      have e1 : ptS σ τ so Lf (k + 1) = ptS σ τ so Lf k ||| 2 ^ nsF σ τ so Lf (ptS σ τ so Lf k) 12 0 := rfl
      rw [e1] at ih
      refine wp_aload_n (n := 40) K dX3_choose_39 rfl rfl ?_
      refine wp_aload_n (n := 41) K dX3_choose_40 rfl rfl ?_
      refine wp_iload_n (n := 42) K dX3_choose_41 rfl rfl ?_
      refine wp_iload_n (n := 43) K dX3_choose_42 rfl rfl ?_
      refine wp_invV_qi (n := 46) K dX3_choose_43 rfl cf_X3_137 (c_firstOfLeast (ptS σ τ so Lf k) so N hN hso p1 _ _ σ τ Lf b hAB h0 hd2 (fun j hj => by rw [hB _ (by decide)]; exact hM j hj) p2 ⟨j, j1, j2⟩) rfl rfl rfl (liS rfl) rfl (by decide) ⟨Nat.le_refl _, Nat.le_refl _⟩ (Nat.le_of_ble_eq_true rfl) (fun A1 hA1 gA1 => ?_)
      generalize hnn : nsF σ τ so Lf (ptS σ τ so Lf k) 12 0 = nn at *
      have hpn : 2 ^ nn < 4096 := Nat.pow_lt_pow_right (by decide) hnl
      refine wp_istore (n := 48) K dX3_choose_46 rfl (by decide) ?_
      refine wp_aload_n (n := 49) K dX3_choose_48 rfl rfl ?_
      refine wp_getF (n := 52) K dX3_choose_49 rfl fl_X3_18 rfl (liS rfl) rfl rfl ?_
      refine wp_iload (n := 54) K dX3_choose_52 rfl rfl ?_
      refine wp_iload (n := 56) K dX3_choose_54 rfl rfl ?_
      refine wp_iast (n := 57) K dX3_choose_56 rfl rfl (liS rfl) (fun _ => rfl) ⟨by omega, by omega, by omega⟩ ?_
      try simp only [up_same, up_up, up_ne, ne_eq, Nat.reduceEqDiff, not_false_eq_true, Int.reduceToNat, Int.toNat_natCast]
      refine wp_iload_n (n := 58) K dX3_choose_57 rfl rfl ?_
      refine wp_iconst (n := 59) K dX3_choose_58 rfl ?_
      refine wp_iload (n := 61) K dX3_choose_59 rfl rfl ?_
      refine wp_ishl (n := 62) K dX3_choose_61 rfl ?_
      refine wp_ior (n := 63) K dX3_choose_62 rfl ?_
      rw [bshl_1 (by omega), bor_n (by omega) (by omega)]
      refine wp_istore_n (n := 64) K dX3_choose_63 rfl (by decide) ?_
      refine wp_iinc (n := 67) K dX3_choose_64 rfl rfl (by decide) ?_
      refine wp_goto K dX3_choose_67 (tgt := 23) (by decide) ?_
      refine ih _ _ (fun a ha => ?_) (fun j hj => by rw [up_ne _ _ (by decide)]; exact gA1.1 j hj) (fun s ld tp g1 g2 g3 => by rw [up_ne _ _ (by decide)]; exact gA1.2 s ld tp g1 g2 g3) (by rw [up_ne _ _ (by decide), hA1 _ (by decide)]; exact hB67) (fun j hj => ?_)
      · simp only [List.mem_cons, List.not_mem_nil, or_false, not_or] at ha
        rw [up_ne _ _ (by simp [ha]), hA1 a (by simp [ha]), hB a (by simp [ha])]
      · rw [up_same]
        by_cases he : j = k
        · subst he; rw [up_same, hnn]
        · rw [up_ne _ _ he, hA1 _ (by decide)]; exact hB70 j (by omega)
def so0 (σ τ : Nat → Int) (N : Nat) : Nat := soT σ τ N (fun _ => 0) (2 ^ N)
def cm00 (σ τ : Nat → Int) (N : Nat) : Nat → Int := cmT σ τ N (fun _ => 0) (2 ^ N)
def Lf0 (σ τ : Nat → Int) (N : Nat) : Nat → Int := lfD σ τ N (so0 σ τ N) (cm00 σ τ N) (fun _ => 0) (so0 σ τ N + 1)
/-- the plan holds what it should -/
def PV (M : MT) (σ τ : Nat → Int) (N : Nat) : Prop := M 67 5 = (cnt 12 (so0 σ τ N) : Int) ∧ M 67 6 = Lf0 σ τ N 0 ∧ M 67 7 = ordF σ τ N (fun _ => 0) ∧ ∀ k, k < cnt 12 (so0 σ τ N) → M 70 k = (nsF σ τ (so0 σ τ N) (Lf0 σ τ N) (ptS σ τ (so0 σ τ N) (Lf0 σ τ N) k) 12 0 : Int)

theorem c_prepare (N : Nat) (hN : N ≤ 12) (S : ST) (M : MT) (σ τ : Nat → Int) (b : Nat) (hC : CN M σ) (hR : RB S M σ τ b) (hb : b = 34 ∨ 91 ≤ b) (hL : LW σ τ) (h4 : 0 ≤ σ 4 ∧ σ 4 ≤ 4) (hV : VB 72 M) (h0 : σ 0 = N) (h7 : 0 ≤ σ 7 ∧ σ 7 ≤ 8) (hso : ∀ u : Nat, u < 12 → InR (σ (100 + 2 * u)) ∧ InR (σ (101 + 2 * u))) (hk : M 67 4 = 0 ∨ (M 67 4 = 1 ∧ LC M σ τ ∧ PV M σ τ N)) : Ct E1 yX3_prepare cX3_prepare 3 none rm_X3_prepare [.ref 67, .ref 17] S M (Qn [67, 68, 69, 70, 72, 73] S M (fun M1 => VB 72 M1 ∧ LC M1 σ τ ∧ M1 67 4 = 1 ∧ PV M1 σ τ N)) := by
  have hp := p12 hN
  refine Ct.mk [.ref 67, .ref 17, mkV] (by decide) rfl (Nat.le_of_ble_eq_true rfl) (fun X K => ?_)
  refine wp_aload_n (n := 1) K dX3_prepare_0 rfl rfl ?_
  refine wp_getI (n := 4) K dX3_prepare_1 rfl fl_X3_28 rfl (liS rfl) rfl ?_
  try simp only [up_same, up_up, up_ne, ne_eq, Nat.reduceEqDiff, not_false_eq_true, Int.reduceToNat, Int.toNat_natCast]
  rcases hk with hk | ⟨hk, hk2, hk3⟩
  · rw [hk]
    refine wp_if_eq (n := 7) K dX3_prepare_4 rfl (tgt := 8) (by decide) ⟨by omega, by omega⟩ (fun c4 => ?_) (fun c4 => ?_)
    · refine wp_aload_n (n := 9) K dX3_prepare_8 rfl rfl ?_
      refine wp_getF (n := 12) K dX3_prepare_9 rfl fl_X3_11 rfl (liS rfl) rfl rfl ?_
      refine wp_bipush (n := 14) K dX3_prepare_12 rfl rfl ?_
      refine wp_invS_n (n := 17) K dX3_prepare_14 rfl cf_X3_52 (j_fill 68 3168 (-2) _ _ rfl (liS rfl) (fun _ => rfl) (by decide)) rfl rfl (by decide) ⟨Nat.le_refl _, Nat.le_refl _⟩ (Nat.le_of_ble_eq_true rfl) ?_
      have hA : AQ S (up M 68 (fillF (M 68) 3168 (-2))) σ τ b := by
        refine ⟨hC.mem (fun a h1 h2 _ => up_ne _ _ (by omega)), hR.mem hb (fun a ha => up_ne _ _ (by omega)), hb, hL, h4, fun j hj => by rw [up_ne _ _ (by decide)]; exact hV j hj, fun s ld tp g1 g2 g3 => ?_⟩
        rw [up_same]; left; unfold fillF; rw [if_pos (by omega)]
      have hB0o : ∀ a, a ≠ 68 → up M 68 (fillF (M 68) 3168 (-2)) a = M a := fun a ha => up_ne _ _ ha
      generalize up M 68 (fillF (M 68) 3168 (-2)) = B0 at hA hB0o ⊢
      have e5 : B0 18 5 = (N : Int) := by rw [hA.1.1.1, h0]
      refine wp_aload_n (n := 18) K dX3_prepare_17 rfl rfl ?_
      refine wp_aload_n (n := 19) K dX3_prepare_18 rfl rfl ?_
      refine wp_aload_n (n := 20) K dX3_prepare_19 rfl rfl ?_
      refine wp_getF (n := 23) K dX3_prepare_20 rfl fl_X3_58 rfl (liS rfl) rfl rfl ?_
      refine wp_getI (n := 26) K dX3_prepare_23 rfl fl_X3_64 rfl (liS rfl) rfl ?_
      try simp only [up_same, up_up, up_ne, ne_eq, Nat.reduceEqDiff, not_false_eq_true, Int.reduceToNat, Int.toNat_natCast]
      refine wp_iconst (n := 27) K dX3_prepare_26 rfl ?_
      rw [e5]
      refine wp_invV_qn (n := 30) K dX3_prepare_27 rfl cf_X3_69 (c_countWays N N false hN hN _ _ σ τ b hA h0 (fun q => by cases q) h7 hso) rfl rfl rfl (liS rfl) rfl (by decide) ⟨Nat.le_refl _, Nat.le_refl _⟩ (Nat.le_of_ble_eq_true rfl) (fun A1 hA1 gA1 => ?_)
      have hA1q : AQ S A1 σ τ b := hA.mem (fun a ha => hA1 a (by simp at ha ⊢; omega)) gA1.1 gA1.2.1
      have h69 := gA1.2.2
      have hW : ∀ j, j < 2 ^ N → (0 ≤ A1 69 j ∧ A1 69 j ≤ 479001600) ∧ (A1 69 j ≠ 0 ↔ cm00 σ τ N j ≠ 0) := fun j hj => by
        rw [h69]
        exact ⟨wyT_r (okW_b σ τ false) hN (Nat.le_refl _) hj, wy_cm hN _ _ _ (Nat.le_refl _) j hj⟩
      have hr := (hW (2 ^ N - 1) (by omega)).1
      have e18 : A1 18 5 = (N : Int) := by rw [hA1q.1.1.1, h0]
      refine wp_aload_n (n := 31) K dX3_prepare_30 rfl rfl ?_
      refine wp_aload_n (n := 32) K dX3_prepare_31 rfl rfl ?_
      refine wp_getF (n := 35) K dX3_prepare_32 rfl fl_X3_15 rfl (liS rfl) rfl rfl ?_
      refine wp_aload_n (n := 36) K dX3_prepare_35 rfl rfl ?_
      refine wp_getF (n := 39) K dX3_prepare_36 rfl fl_X3_58 rfl (liS rfl) rfl rfl ?_
      refine wp_invV_i (n := 42) K dX3_prepare_39 rfl cf_X3_73 (c_allS N hN _ _ e18) rfl rfl rfl (liS rfl) rfl (by decide) ⟨Nat.le_refl _, Nat.le_refl _⟩ (Nat.le_of_ble_eq_true rfl) ?_
      refine wp_iald (n := 43) K dX3_prepare_42 rfl rfl (liS rfl) ⟨by omega, by omega, by omega⟩ ?_
      try simp only [up_same, up_up, up_ne, ne_eq, Nat.reduceEqDiff, not_false_eq_true, Int.reduceToNat, Int.toNat_natCast]
      refine wp_i2l (n := 44) K dX3_prepare_43 rfl ⟨by omega, by omega⟩ ?_
      refine wp_putL (n := 47) K dX3_prepare_44 rfl fl_X3_39 rfl (liS rfl) (Or.inl rfl) rfl rfl ?_
      try simp only [up_same, up_up, up_ne, ne_eq, Nat.reduceEqDiff, not_false_eq_true, Int.reduceToNat, Int.toNat_natCast]
      have hB1o : ∀ a, a ≠ 67 → up A1 67 (up (A1 67) 7 (A1 69 (2 ^ N - 1))) a = A1 a := fun a ha => up_ne _ _ ha
      have hB17 : up A1 67 (up (A1 67) 7 (A1 69 (2 ^ N - 1))) 67 = up (A1 67) 7 (A1 69 (2 ^ N - 1)) := up_same _ _ _
      generalize up A1 67 (up (A1 67) 7 (A1 69 (2 ^ N - 1))) = B1 at hB1o hB17 ⊢
      have hB1q : AQ S B1 σ τ b := hA1q.mem (fun a ha => hB1o a (by simp at ha; omega)) (fun j hj => by rw [hB1o _ (by decide)]; exact gA1.1 j hj) (fun s ld tp g1 g2 g3 => by rw [hB1o _ (by decide)]; exact gA1.2.1 s ld tp g1 g2 g3)
      have hW1 : ∀ j, j < 2 ^ N → (0 ≤ B1 69 j ∧ B1 69 j ≤ 479001600) ∧ (B1 69 j ≠ 0 ↔ cm00 σ τ N j ≠ 0) := fun j hj => by rw [hB1o _ (by decide)]; exact hW j hj
      have e18b : B1 18 5 = (N : Int) := by rw [hB1q.1.1.1, h0]
      have hsl : so0 σ τ N < 2 ^ N := (soT_lt σ τ N (fun _ => 0) (2 ^ N)).2 (by omega)
      refine wp_aload_n (n := 48) K dX3_prepare_47 rfl rfl ?_
      refine wp_aload_n (n := 49) K dX3_prepare_48 rfl rfl ?_
      refine wp_getF (n := 52) K dX3_prepare_49 rfl fl_X3_58 rfl (liS rfl) rfl rfl ?_
      refine wp_invV_i (n := 55) K dX3_prepare_52 rfl cf_X3_73 (c_allS N hN _ _ e18b) rfl rfl rfl (liS rfl) rfl (by decide) ⟨Nat.le_refl _, Nat.le_refl _⟩ (Nat.le_of_ble_eq_true rfl) ?_
      refine wp_invV_i (n := 58) K dX3_prepare_55 rfl cf_X3_77 (c_lowest N hN _ _ σ τ (fun _ => 0) hW1) rfl rfl rfl (liS rfl) rfl (by decide) ⟨Nat.le_refl _, Nat.le_refl _⟩ (Nat.le_of_ble_eq_true rfl) ?_
      rw [show soT σ τ N (fun _ => 0) (2 ^ N) = so0 σ τ N from rfl]
      refine wp_istore_n (n := 59) K dX3_prepare_58 rfl (by decide) ?_
      refine wp_aload_n (n := 60) K dX3_prepare_59 rfl rfl ?_
      refine wp_aload_n (n := 61) K dX3_prepare_60 rfl rfl ?_
      refine wp_iload_n (n := 62) K dX3_prepare_61 rfl rfl ?_
      refine wp_invV_qn (n := 65) K dX3_prepare_62 rfl cf_X3_81 (c_measure (so0 σ τ N) N hN hsl _ _ σ τ (cm00 σ τ N) (fun _ => 0) b hB1q h0 (Lf0 σ τ N) rfl hW1) rfl rfl rfl (liS rfl) rfl (by decide) ⟨Nat.le_refl _, Nat.le_refl _⟩ (Nat.le_of_ble_eq_true rfl) (fun A2 hA2 gA2 => ?_)
      have hA2q : AQ S A2 σ τ b := hB1q.mem (fun a ha => hA2 a (by simp at ha ⊢; omega)) gA2.1 gA2.2.1
      have hdd : ∀ j, j ≤ so0 σ τ N → Lf0 σ τ N j = 100000000 ∨ (0 ≤ Lf0 σ τ N j ∧ Lf0 σ τ N j ≤ 119988) := fun j hj => by
        have := cnt_le 12 j
        rcases lf_dich hL hN hsl (C := cm00 σ τ N) (L0 := fun _ => 0) (so0 σ τ N - j) j (by omega) with q | q
        · exact Or.inl q
        · right; unfold Lf0; omega
      have hpo := pt_ok hL hN (C0 := fun _ => 0) (L0 := fun _ => 0) (so := so0 σ τ N) (C := cm00 σ τ N) (Lf := Lf0 σ τ N) rfl rfl rfl
      refine wp_aload_n (n := 66) K dX3_prepare_65 rfl rfl ?_
      refine wp_aload_n (n := 67) K dX3_prepare_66 rfl rfl ?_
      refine wp_iload_n (n := 68) K dX3_prepare_67 rfl rfl ?_
      refine wp_invV_qn (n := 71) K dX3_prepare_68 rfl cf_X3_85 (c_choose (so0 σ τ N) N hN hsl _ _ σ τ (Lf0 σ τ N) b hA2q h0 hdd gA2.2.2 (fun k hk => ⟨⟨(hpo k hk).1.2.1, (hpo k hk).1.2.2.1⟩, (hpo k hk).2⟩)) rfl rfl rfl (liS rfl) rfl (by decide) ⟨Nat.le_refl _, Nat.le_refl _⟩ (Nat.le_of_ble_eq_true rfl) (fun A3 hA3 gA3 => ?_)
      refine wp_aload_n (n := 72) K dX3_prepare_71 rfl rfl ?_
      refine wp_iconst (n := 73) K dX3_prepare_72 rfl ?_
      refine wp_putZ (n := 76) K dX3_prepare_73 rfl fl_X3_28 rfl (liS rfl) (Or.inl rfl) rfl rfl (by first | exact Or.inl rfl | exact Or.inr rfl) ?_
      try simp only [up_same, up_up, up_ne, ne_eq, Nat.reduceEqDiff, not_false_eq_true, Int.reduceToNat, Int.toNat_natCast]
      refine ret_qn K dX3_prepare_76 rfl ?_ ?_ ⟨Nat.le_refl _, Nat.le_refl _⟩
      · intro a ha
        simp only [List.mem_cons, List.not_mem_nil, or_false, not_or] at ha
        rw [up_ne _ _ (by simp [ha]), hA3 a (by simp [ha]), hA2 a (by simp [ha]), hB1o a (by simp [ha]), hA1 a (by simp [ha]), hB0o a (by simp [ha])]
      · obtain ⟨u1, u2, u3, u4⟩ := gA3
        refine ⟨fun j hj => by rw [up_ne _ _ (by decide)]; exact u1 j hj, fun s ld tp g1 g2 g3 => by rw [up_ne _ _ (by decide)]; exact u2 s ld tp g1 g2 g3, by rw [up_same, up_same], ?_⟩
        refine ⟨?_, ?_, ?_, fun k hk => by rw [up_ne _ _ (by decide)]; exact u4 k hk⟩
        · rw [up_same, up_ne _ _ (by decide), u3, up_same]
        · rw [up_same, up_ne _ _ (by decide), u3, up_ne _ _ (by decide), up_same]
        · rw [up_same, up_ne _ _ (by decide), u3, up_ne _ _ (by decide), up_ne _ _ (by decide), hA2 _ (by decide), hB17, up_same, h69]
          exact wyT_W _ _ _ (Nat.le_refl _) _ (by omega)
    · omega
  · rw [hk]
    refine wp_if_eq (n := 7) K dX3_prepare_4 rfl (tgt := 8) (by decide) ⟨by omega, by omega⟩ (fun c4 => ?_) (fun c4 => ?_)
    · omega
    · refine ret_qn K dX3_prepare_7 rfl ?_ ?_ ⟨Nat.le_refl _, Nat.le_refl _⟩
      · intro a _; rfl
      · exact ⟨hV, hk2, hk, hk3⟩

theorem c_listen (N U : Nat) (hN : N ≤ 12) (hU : U ≤ 8) (S : ST) (M : MT) (σ τ : Nat → Int) (b : Nat) (hA : AQ S M σ τ b) (h0 : σ 0 = N) (h7 : σ 7 = U) (hso : ∀ u : Nat, u < 12 → InR (σ (100 + 2 * u)) ∧ InR (σ (101 + 2 * u))) (W0 : Nat → Int) : Ct E1 yX3_listen cX3_listen 5 none rm_X3_listen [.ref 67, .ref 17] S M (Qn [67, 68, 69, 72, 73] S M (fun M1 => VB 72 M1 ∧ LC M1 σ τ ∧ (∀ j, j ≤ 7 → M1 67 j = M 67 j) ∧ M1 67 8 = (hrT (wyT (okW σ τ true) N U W0 (2 ^ N)) U (2 ^ N - 1) (2 ^ N)).1 ∧ M1 67 9 = (if (hrT (wyT (okW σ τ true) N U W0 (2 ^ N)) U (2 ^ N - 1) (2 ^ N)).1 = 0 then 0 else ((hrT (wyT (okW σ τ true) N U W0 (2 ^ N)) U (2 ^ N - 1) (2 ^ N)).2.1 : Int)) ∧ M1 67 10 = ((hrT (wyT (okW σ τ true) N U W0 (2 ^ N)) U (2 ^ N - 1) (2 ^ N)).2.2 : Int))) := by
  have hp := p12 hN
  have e29 : M 29 2 = (U : Int) := by rw [hA.1.2.2.1.1, h7]
  have e18 : M 18 5 = (N : Int) := by rw [hA.1.1.1, h0]
  refine Ct.mk [.ref 67, .ref 17, mkV, mkV, mkV] (by decide) rfl (Nat.le_of_ble_eq_true rfl) (fun X K => ?_)
  refine wp_aload_n (n := 1) K dX3_listen_0 rfl rfl ?_
  refine wp_getF (n := 4) K dX3_listen_1 rfl fl_X3_99 rfl (liS rfl) rfl rfl ?_
  refine wp_getI (n := 7) K dX3_listen_4 rfl fl_X3_140 rfl (liS rfl) rfl ?_
  try simp only [up_same, up_up, up_ne, ne_eq, Nat.reduceEqDiff, not_false_eq_true, Int.reduceToNat, Int.toNat_natCast]
  rw [e29]
  refine wp_istore_n (n := 8) K dX3_listen_7 rfl (by decide) ?_
  refine wp_aload_n (n := 9) K dX3_listen_8 rfl rfl ?_
  refine wp_getF (n := 12) K dX3_listen_9 rfl fl_X3_58 rfl (liS rfl) rfl rfl ?_
  refine wp_invV_i (n := 15) K dX3_listen_12 rfl cf_X3_73 (c_allS N hN _ _ e18) rfl rfl rfl (liS rfl) rfl (by decide) ⟨Nat.le_refl _, Nat.le_refl _⟩ (Nat.le_of_ble_eq_true rfl) ?_
  refine wp_istore_n (n := 16) K dX3_listen_15 rfl (by decide) ?_
  refine wp_aload_n (n := 17) K dX3_listen_16 rfl rfl ?_
  refine wp_aload_n (n := 18) K dX3_listen_17 rfl rfl ?_
  refine wp_iload_n (n := 19) K dX3_listen_18 rfl rfl ?_
  refine wp_iconst (n := 20) K dX3_listen_19 rfl ?_
  refine wp_invV_qn (n := 23) K dX3_listen_20 rfl cf_X3_69 (c_countWays N U true hN (by omega) _ _ σ τ b hA h0 (fun _ => by omega) (by omega) hso) rfl rfl rfl (liS rfl) rfl (by decide) ⟨Nat.le_refl _, Nat.le_refl _⟩ (Nat.le_of_ble_eq_true rfl) (fun A1 hA1 gA1 => ?_)
  refine wp_aload_n (n := 24) K dX3_listen_23 rfl rfl ?_
  refine wp_lconst (n := 25) (a := 0) K dX3_listen_24 rfl rfl ?_
  refine wp_putL (n := 28) K dX3_listen_25 rfl fl_X3_43 rfl (liS rfl) (Or.inl rfl) rfl rfl ?_
  try simp only [up_same, up_up, up_ne, ne_eq, Nat.reduceEqDiff, not_false_eq_true, Int.reduceToNat, Int.toNat_natCast]
  refine wp_aload_n (n := 29) K dX3_listen_28 rfl rfl ?_
  refine wp_iload_n (n := 30) K dX3_listen_29 rfl rfl ?_
  refine wp_putI (n := 33) K dX3_listen_30 rfl fl_X3_46 rfl (liS rfl) (Or.inl rfl) rfl rfl ?_
  try simp only [up_same, up_up, up_ne, ne_eq, Nat.reduceEqDiff, not_false_eq_true, Int.reduceToNat, Int.toNat_natCast]
  refine wp_aload_n (n := 34) K dX3_listen_33 rfl rfl ?_
  refine wp_iconst (n := 35) K dX3_listen_34 rfl ?_
  refine wp_putI (n := 38) K dX3_listen_35 rfl fl_X3_49 rfl (liS rfl) (Or.inl rfl) rfl rfl ?_
  try simp only [up_same, up_up, up_ne, ne_eq, Nat.reduceEqDiff, not_false_eq_true, Int.reduceToNat, Int.toNat_natCast]
  refine wp_iconst (n := 39) K dX3_listen_38 rfl ?_
  refine wp_istore (n := 41) K dX3_listen_39 rfl (by decide) ?_
  have h69 : ∀ j, j < 2 ^ N → A1 69 j = wyT (okW σ τ true) N U W0 (2 ^ N) j := fun j hj => by rw [gA1.2.2]; exact wyT_W _ _ _ (Nat.le_refl _) j hj
  have hWr : ∀ j, j < 2 ^ N → 0 ≤ wyT (okW σ τ true) N U W0 (2 ^ N) j ∧ wyT (okW σ τ true) N U W0 (2 ^ N) j ≤ 479001600 := fun j hj => wyT_r (okW_b σ τ true) hN (Nat.le_refl _) hj
  generalize hWW : wyT (okW σ τ true) N U W0 (2 ^ N) = W at *
  have hrr := hrT_r (W := W) (most := U) (all := 2 ^ N - 1) (N := N) (by omega) hWr
  refine (dn (2 ^ N) (Q := fun k => ∀ (B : MT), (∀ a, a ≠ 67 → B a = A1 a) → (∀ j, j ≤ 7 → B 67 j = M 67 j) → B 67 8 = (hrT W U (2 ^ N - 1) k).1 → B 67 9 = ((hrT W U (2 ^ N - 1) k).2.1 : Int) → B 67 10 = ((hrT W U (2 ^ N - 1) k).2.2 : Int) → Wp E1 X 41 [.ref 67, .ref 17, .int (z (U : Int)), .int (z ((2 ^ N - 1 : Nat) : Int)), .int (z (k : Int))] [] S B) (fun k hk ih B hB hlo h8 h9 h10 => ?_) 0 (by omega)) _ (fun a ha => up_ne _ _ ha) (fun j hj => by
      rw [up_same, up_ne _ _ (by omega), up_ne _ _ (by omega), up_ne _ _ (by omega), hA1 _ (by decide)]) (by simp [up, hrT]) (by simp [up, hrT]) (by simp [up, hrT])
  obtain ⟨r1, r2, r3⟩ := hrr k hk
  have fin1 : k = 2 ^ N → Wp E1 X 119 [.ref 67, .ref 17, .int (z (U : Int)), .int (z ((2 ^ N - 1 : Nat) : Int)), .int (z (k : Int))] [] S B := fun e => by
    subst e
    have hfin : ∀ a, a ∉ [67, 68, 69, 72, 73] → B a = M a := fun a ha => by
      simp only [List.mem_cons, List.not_mem_nil, or_false, not_or] at ha
      rw [hB a (by simp [ha]), hA1 a (by simp [ha])]
    have w1 : w64 (B 67 8) = B 67 8 := w64_id (by omega) (by omega)
    have w0 : w64 0 = 0 := rfl
    refine wp_aload_n (n := 120) K dX3_listen_119 rfl rfl ?_
    refine wp_getL (n := 123) K dX3_listen_120 rfl fl_X3_43 rfl (liS rfl) rfl ?_
    try simp only [up_same, up_up, up_ne, ne_eq, Nat.reduceEqDiff, not_false_eq_true, Int.reduceToNat, Int.toNat_natCast]
    refine wp_lconst (n := 124) (a := 0) K dX3_listen_123 rfl rfl ?_
    refine wp_lcmp (n := 125) K dX3_listen_124 rfl ?_
    refine wp_if_ne (n := 128) K dX3_listen_125 rfl (tgt := 133) (by decide) (lcmp_r _ _) (fun c125 => ?_) (fun c125 => ?_)
    · have hne : (hrT W U (2 ^ N - 1) (2 ^ N)).1 ≠ 0 := fun e => c125 (lcmp_eq.mpr (by rw [w1, w0, h8]; exact e))
      refine ret_qn K dX3_listen_133 rfl ?_ ?_ ⟨Nat.le_refl _, Nat.le_refl _⟩
      · exact hfin
      · exact ⟨fun j hj => by rw [hB _ (by decide)]; exact gA1.1 j hj, fun s ld tp g1 g2 g3 => by rw [hB _ (by decide)]; exact gA1.2.1 s ld tp g1 g2 g3, hlo, h8, by rw [if_neg hne]; exact h9, h10⟩
    · have he := lcmp_eq.mp c125
      rw [w1, w0, h8] at he
      refine wp_aload_n (n := 129) K dX3_listen_128 rfl rfl ?_
      refine wp_iconst (n := 130) K dX3_listen_129 rfl ?_
      refine wp_putI (n := 133) K dX3_listen_130 rfl fl_X3_46 rfl (liS rfl) (Or.inl rfl) rfl rfl ?_
      try simp only [up_same, up_up, up_ne, ne_eq, Nat.reduceEqDiff, not_false_eq_true, Int.reduceToNat, Int.toNat_natCast]
      refine ret_qn K dX3_listen_133 rfl ?_ ?_ ⟨Nat.le_refl _, Nat.le_refl _⟩
      · intro a ha
        rw [← hfin a ha]
        simp only [List.mem_cons, List.not_mem_nil, or_false, not_or] at ha
        rw [up_ne _ _ (by simp [ha])]
      · refine ⟨fun j hj => by rw [up_ne _ _ (by decide), hB _ (by decide)]; exact gA1.1 j hj, fun s ld tp g1 g2 g3 => by rw [up_ne _ _ (by decide), hB _ (by decide)]; exact gA1.2.1 s ld tp g1 g2 g3, fun j hj => by rw [up_same, up_ne _ _ (by omega)]; exact hlo j hj, ?_, ?_, ?_⟩
        · rw [up_same, up_ne _ _ (by decide)]; exact h8
        · rw [up_same, up_same, if_pos he]
        · rw [up_same, up_ne _ _ (by decide)]; exact h10
  refine wp_iload (n := 43) K dX3_listen_41 rfl rfl ?_
  refine wp_sipush (n := 46) K dX3_listen_43 rfl rfl ?_
  refine wp_icmp_ge (n := 49) K dX3_listen_46 rfl (tgt := 119) (by decide) ⟨by omega, by omega⟩ ⟨by omega, by omega⟩ (fun c46 => ?_) (fun c46 => ?_)
  · exact fin1 (by omega)
  · refine wp_iload (n := 51) K dX3_listen_49 rfl rfl ?_
    refine wp_iload_n (n := 52) K dX3_listen_51 rfl rfl ?_
    refine wp_icmp_gt (n := 55) K dX3_listen_52 rfl (tgt := 119) (by decide) ⟨by omega, by omega⟩ ⟨by omega, by omega⟩ (fun c52 => ?_) (fun c52 => ?_)
    · exact fin1 (by omega)
    · have hk2 : k < 2 ^ N := by omega
      have ih := ih (by omega)
      have e0 : hrT W U (2 ^ N - 1) (k + 1) = if cnt 12 k = U ∧ W k ≠ 0 then ((hrT W U (2 ^ N - 1) k).1 + W k, (hrT W U (2 ^ N - 1) k).2.1 &&& k, (hrT W U (2 ^ N - 1) k).2.2 ||| k) else hrT W U (2 ^ N - 1) k := rfl
      rw [e0] at ih
      have hBk : B 69 k = W k := by rw [hB _ (by decide)]; exact h69 k hk2
      have hWk := hWr k hk2
      have hcl := cnt_le 12 k
      refine wp_aload_n (n := 56) K dX3_listen_55 rfl rfl ?_
      refine wp_getF (n := 59) K dX3_listen_56 rfl fl_X3_15 rfl (liS rfl) rfl rfl ?_
      refine wp_iload (n := 61) K dX3_listen_59 rfl rfl ?_
      refine wp_iald (n := 62) K dX3_listen_61 rfl rfl (liS rfl) ⟨by omega, by omega, by omega⟩ ?_
      try simp only [up_same, up_up, up_ne, ne_eq, Nat.reduceEqDiff, not_false_eq_true, Int.reduceToNat, Int.toNat_natCast]
      rw [hBk]
      refine wp_if_eq (n := 65) K dX3_listen_62 rfl (tgt := 113) (by decide) ⟨by omega, by omega⟩ (fun c62 => ?_) (fun c62 => ?_)
      · rw [if_neg (fun q => q.2 c62)] at ih
        refine wp_iinc (n := 116) K dX3_listen_113 rfl rfl (by decide) ?_
        refine wp_goto K dX3_listen_116 (tgt := 41) (by decide) ?_
        exact ih B hB hlo h8 h9 h10
      · refine wp_iload (n := 67) K dX3_listen_65 rfl rfl ?_
        refine wp_invS_i (n := 70) K dX3_listen_67 rfl cf_X3_88 (j_bitCount k (by omega) _ _) rfl rfl (by decide) ⟨Nat.le_refl _, Nat.le_refl _⟩ (Nat.le_of_ble_eq_true rfl) ?_
        refine wp_iload_n (n := 71) K dX3_listen_70 rfl rfl ?_
        refine wp_icmp_ne (n := 74) K dX3_listen_71 rfl (tgt := 113) (by decide) ⟨by omega, by omega⟩ ⟨by omega, by omega⟩ (fun c71 => ?_) (fun c71 => ?_)
        · rw [if_neg (fun q => by omega)] at ih
          refine wp_iinc (n := 116) K dX3_listen_113 rfl rfl (by decide) ?_
          refine wp_goto K dX3_listen_116 (tgt := 41) (by decide) ?_
          exact ih B hB hlo h8 h9 h10
        · rw [if_pos ⟨by omega, c62⟩] at ih
          refine wp_aload_n (n := 75) K dX3_listen_74 rfl rfl ?_
          refine wp_dup (n := 76) K dX3_listen_75 rfl rfl ?_
          refine wp_getL (n := 79) K dX3_listen_76 rfl fl_X3_43 rfl (liS rfl) rfl ?_
          try simp only [up_same, up_up, up_ne, ne_eq, Nat.reduceEqDiff, not_false_eq_true, Int.reduceToNat, Int.toNat_natCast]
          refine wp_aload_n (n := 80) K dX3_listen_79 rfl rfl ?_
          refine wp_getF (n := 83) K dX3_listen_80 rfl fl_X3_15 rfl (liS rfl) rfl rfl ?_
          refine wp_iload (n := 85) K dX3_listen_83 rfl rfl ?_
          refine wp_iald (n := 86) K dX3_listen_85 rfl rfl (liS rfl) ⟨by omega, by omega, by omega⟩ ?_
          try simp only [up_same, up_up, up_ne, ne_eq, Nat.reduceEqDiff, not_false_eq_true, Int.reduceToNat, Int.toNat_natCast]
          rw [hBk]
          refine wp_i2l (n := 87) K dX3_listen_86 rfl ⟨by omega, by omega⟩ ?_
          refine wp_ladd (n := 88) K dX3_listen_87 rfl ?_
          refine wp_putL (n := 91) K dX3_listen_88 rfl fl_X3_43 rfl (liS rfl) (Or.inl rfl) rfl rfl ?_
          try simp only [up_same, up_up, up_ne, ne_eq, Nat.reduceEqDiff, not_false_eq_true, Int.reduceToNat, Int.toNat_natCast]
          refine wp_aload_n (n := 92) K dX3_listen_91 rfl rfl ?_
          refine wp_dup (n := 93) K dX3_listen_92 rfl rfl ?_
          refine wp_getI (n := 96) K dX3_listen_93 rfl fl_X3_46 rfl (liS rfl) rfl ?_
          try simp only [up_same, up_up, up_ne, ne_eq, Nat.reduceEqDiff, not_false_eq_true, Int.reduceToNat, Int.toNat_natCast]
          refine wp_iload (n := 98) K dX3_listen_96 rfl rfl ?_
          refine wp_iand (n := 99) K dX3_listen_98 rfl ?_
          rw [h9, band_n (by omega) (by omega)]
          refine wp_putI (n := 102) K dX3_listen_99 rfl fl_X3_46 rfl (liS rfl) (Or.inl rfl) rfl rfl ?_
          try simp only [up_same, up_up, up_ne, ne_eq, Nat.reduceEqDiff, not_false_eq_true, Int.reduceToNat, Int.toNat_natCast]
          refine wp_aload_n (n := 103) K dX3_listen_102 rfl rfl ?_
          refine wp_dup (n := 104) K dX3_listen_103 rfl rfl ?_
          refine wp_getI (n := 107) K dX3_listen_104 rfl fl_X3_49 rfl (liS rfl) rfl ?_
          try simp only [up_same, up_up, up_ne, ne_eq, Nat.reduceEqDiff, not_false_eq_true, Int.reduceToNat, Int.toNat_natCast]
          refine wp_iload (n := 109) K dX3_listen_107 rfl rfl ?_
          refine wp_ior (n := 110) K dX3_listen_109 rfl ?_
          rw [h10, bor_n (by omega) (by omega)]
          refine wp_putI (n := 113) K dX3_listen_110 rfl fl_X3_49 rfl (liS rfl) (Or.inl rfl) rfl rfl ?_
          try simp only [up_same, up_up, up_ne, ne_eq, Nat.reduceEqDiff, not_false_eq_true, Int.reduceToNat, Int.toNat_natCast]
          refine wp_iinc (n := 116) K dX3_listen_113 rfl rfl (by decide) ?_
          refine wp_goto K dX3_listen_116 (tgt := 41) (by decide) ?_
          refine ih _ (fun a ha => ?_) (fun j hj => ?_) ?_ ?_ ?_
          · rw [up_ne _ _ ha]; exact hB a ha
          · rw [up_same, up_ne _ _ (by omega), up_ne _ _ (by omega), up_ne _ _ (by omega)]; exact hlo j hj
          · rw [up_same, up_ne _ _ (by decide), up_ne _ _ (by decide), up_same, h8]
          · rw [up_same, up_ne _ _ (by decide), up_same]
          · rw [up_same, up_same]
