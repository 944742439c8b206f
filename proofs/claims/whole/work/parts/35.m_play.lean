theorem nm7_r {σ τ : Nat → Int} (hL : LW σ τ) {s q : Nat} (hs : s < 12) (hq : q < 6) {ν : Nat → Int} (hν : ∀ j, j < 8 → -1000000 ≤ ν j ∧ ν j ≤ 1000000) : ∀ j, j < 8 → -1000000 ≤ up (nameA ν σ s 3) 7 (q : Int) j ∧ up (nameA ν σ s 3) 7 (q : Int) j ≤ 1000000 := by
  obtain ⟨w1, w2, w3, -⟩ := hL.1.2 s hs
  intro j hj
  by_cases h7 : j = 7
  · subst h7; rw [up_same]; omega
  · rw [up_ne _ _ h7]
    unfold nameA
    rcases (show j = 0 ∨ j = 1 ∨ j = 2 ∨ j = 3 ∨ 4 ≤ j by omega) with rfl | rfl | rfl | rfl | h
    · rw [if_pos rfl]; omega
    · rw [if_neg (by decide), if_pos (by decide), show 9 + 5 * s + 1 = 10 + 5 * s by omega]; omega
    · rw [if_neg (by decide), if_pos (by decide), show 9 + 5 * s + 2 = 11 + 5 * s by omega]; omega
    · rw [if_neg (by decide), if_pos (by decide), show 9 + 5 * s + 3 = 12 + 5 * s by omega]; omega
    · rw [if_neg (by omega), if_neg (by omega)]; exact hν j hj
theorem nm7_eq (ν ν' σ : Nat → Int) (s q j : Nat) (hj : j ≤ 3 ∨ j = 7) : up (nameA ν σ s 3) 7 (q : Int) j = up (nameA ν' σ s 3) 7 (q : Int) j := by
  by_cases h7 : j = 7
  · subst h7; rw [up_same, up_same]
  · rw [up_ne _ _ h7, up_ne _ _ h7]
    unfold nameA
    split
    · rfl
    · rw [if_pos (by omega), if_pos (by omega)]
theorem quT_lt (σ τ : Nat → Int) (s q : Nat) : quT σ τ s q < 2 ^ q := by
  induction q with
  | zero => exact Nat.zero_lt_one
  | succ q ih =>
    unfold quT
    refine Nat.or_lt_two_pow (Nat.lt_of_lt_of_le ih (Nat.pow_le_pow_right (by decide) (by omega))) ?_
    split
    · exact Nat.pow_lt_pow_right (by decide) (by omega)
    · exact Nat.two_pow_pos _

theorem m_quarries (s : Nat) (hs : s < 12) (S : ST) (M : MT) (hL : LW (M 78) (M 80)) (hnb : NB M) : Ct E1 yX12_quarries cX12_quarries 6 (some .int) rm_X12_quarries [.ref 77, .int (z (s : Int))] S M (Qi (quT (M 78) (M 80) s 6 : Int) scr S M NB) := by
  have hw := hL.1
  refine Ct.mk [.ref 77, .int (z (s : Int)), mkV, mkV, mkV, mkV] (by decide) rfl (Nat.le_of_ble_eq_true rfl) (fun X K => ?_)
  refine wp_aload_n (n := 1) K dX12_quarries_0 rfl rfl ?_
  refine wp_iconst (n := 2) K dX12_quarries_1 rfl ?_
  refine wp_invV_i (n := 5) K dX12_quarries_2 rfl cf_X12_259 (m_clauseOf _ (by decide) _ _ hL) rfl rfl rfl (liS rfl) rfl (by decide) ⟨Nat.le_refl _, Nat.le_refl _⟩ (Nat.le_of_ble_eq_true rfl) ?_
  refine wp_istore_n (n := 6) K dX12_quarries_5 rfl (by decide) ?_
  refine wp_iconst (n := 7) K dX12_quarries_6 rfl ?_
  refine wp_istore_n (n := 8) K dX12_quarries_7 rfl (by decide) ?_
  refine wp_iconst (n := 9) K dX12_quarries_8 rfl ?_
  refine wp_istore (n := 11) K dX12_quarries_9 rfl (by decide) ?_
  refine dn 6 (Q := fun q => ∀ (M1 : MT) (a5 : Value), (∀ a, a ∉ scr → M1 a = M a) → NB M1 → Wp E1 X 11 [.ref 77, .int (z (s : Int)), .int (z (clauseF (M 78) (M 80) 2)), .int (z (quT (M 78) (M 80) s q : Int)), .int (z (q : Int)), a5] [] S M1) (fun q hq ih M1 a5 hM hN => ?_) 0 (by omega) M mkV (fun _ _ => rfl) hnb
  have hql := quT_lt (M 78) (M 80) s q
  have hqp : (2 ^ q : Nat) ≤ 64 := Nat.pow_le_pow_right (n := 2) (by decide) hq
  refine wp_iload (n := 13) K dX12_quarries_11 rfl rfl ?_
  refine wp_bipush (n := 15) K dX12_quarries_13 rfl rfl ?_
  refine wp_icmp_ge (n := 18) K dX12_quarries_15 rfl (tgt := 74) (by decide) ⟨by omega, by omega⟩ ⟨by omega, by omega⟩ (fun c15 => ?_) (fun c15 => ?_)
  · refine wp_iload_n (n := 75) K dX12_quarries_74 rfl rfl ?_
    refine ret_qi K dX12_quarries_75 ?_ rfl ?_ ?_ ⟨Nat.le_refl _, Nat.le_refl _⟩
    · rw [show q = 6 by omega]
    · exact hM
    · exact hN
  · have ih := ih (by omega)
    unfold quT at ih
    have fin1 : ∀ (M2 : MT) (b : Bool), (∀ a, a ∉ scr → M2 a = M a) → NB M2 → b = fitF (M 78) (M 80) s q → Wp E1 X 52 [.ref 77, .int (z (s : Int)), .int (z (clauseF (M 78) (M 80) 2)), .int (z (quT (M 78) (M 80) s q : Int)), .int (z (q : Int)), .int (z (bI b))] [] S M2 := by
      intro M2 b h1 h2 h3
      rw [← h3] at ih
      refine wp_iload_n (n := 53) K dX12_quarries_52 rfl rfl ?_
      refine wp_iload (n := 55) K dX12_quarries_53 rfl rfl ?_
      refine wp_if_eq_b (n := 58) K dX12_quarries_55 rfl (tgt := 65) (by decide) (fun c55 => ?_) (fun c55 => ?_)
      · rw [c55, if_neg (by decide)] at ih
        refine wp_iconst (n := 66) K dX12_quarries_65 rfl ?_
        rw [show (0 : Int) = ((0 : Nat) : Int) from rfl]
        refine wp_ior (n := 67) K dX12_quarries_66 rfl ?_
        rw [bor_n (by omega) (by omega)]
        refine wp_istore_n (n := 68) K dX12_quarries_67 rfl (by decide) ?_
        refine wp_iinc (n := 71) K dX12_quarries_68 rfl rfl (by decide) ?_
        refine wp_goto K dX12_quarries_71 (tgt := 11) (by decide) ?_
        exact ih _ _ h1 h2
      · rw [c55, if_pos rfl] at ih
        have hq2 : (2 ^ q : Nat) < 64 := Nat.pow_lt_pow_right (by decide) (show q < 6 by omega)
        refine wp_iconst (n := 59) K dX12_quarries_58 rfl ?_
        refine wp_iload (n := 61) K dX12_quarries_59 rfl rfl ?_
        refine wp_ishl (n := 62) K dX12_quarries_61 rfl ?_
        refine wp_goto K dX12_quarries_62 (tgt := 66) (by decide) ?_
        rw [bshl_1 (by omega)]
        refine wp_ior (n := 67) K dX12_quarries_66 rfl ?_
        rw [bor_n (by omega) (by omega)]
        refine wp_istore_n (n := 68) K dX12_quarries_67 rfl (by decide) ?_
        refine wp_iinc (n := 71) K dX12_quarries_68 rfl rfl (by decide) ?_
        refine wp_goto K dX12_quarries_71 (tgt := 11) (by decide) ?_
        exact ih _ _ h1 h2
    refine wp_iconst (n := 19) K dX12_quarries_18 rfl ?_
    refine wp_istore (n := 21) K dX12_quarries_19 rfl (by decide) ?_
    refine wp_iload_n (n := 22) K dX12_quarries_21 rfl rfl ?_
    by_cases hneg : clauseF (M 78) (M 80) 2 < 0
    · have hr : clauseF (M 78) (M 80) 2 = -1 := by
        unfold clauseF at hneg ⊢
        split
        · rfl
        · rename_i q; rw [if_neg q] at hneg; rcases clT_r (M 80) (680 * (M 78 5).toNat) 2 (M 80 (680 * (M 78 5).toNat)).toNat with r | r <;> omega
      have hfit : true = fitF (M 78) (M 80) s q := by unfold fitF; rw [decide_eq_true hneg]; rfl
      refine wp_if_lt (n := 25) K dX12_quarries_22 rfl (tgt := 52) (by decide) ⟨by omega, by omega⟩ (fun c22 => ?_) (fun c22 => ?_)
      · exact fin1 M1 true hM hN hfit
      · omega
    · obtain ⟨t, k, fr, to, e5, ht, ek, hk, efr, eto, hft, hto, hok, hdp, hnm, hev⟩ := hL.cl (sort := 2) (by omega) (by omega)
      have e78 : M1 78 = M 78 := hM _ (by decide)
      have e80 : M1 80 = M 80 := hM _ (by decide)
      refine wp_if_lt (n := 25) K dX12_quarries_22 rfl (tgt := 52) (by decide) ⟨by omega, by omega⟩ (fun c22 => ?_) (fun c22 => ?_)
      · omega
      · refine wp_aload_n (n := 26) K dX12_quarries_25 rfl rfl ?_
        refine wp_iload_n (n := 27) K dX12_quarries_26 rfl rfl ?_
        refine wp_invV_n (n := 30) K dX12_quarries_27 rfl cf_X12_246 (m_name _ (by omega) _ _) rfl rfl rfl (liS rfl) rfl (by decide) ⟨Nat.le_refl _, Nat.le_refl _⟩ (Nat.le_of_ble_eq_true rfl) ?_
        refine wp_aload_n (n := 31) K dX12_quarries_30 rfl rfl ?_
        refine wp_getF (n := 34) K dX12_quarries_31 rfl fl_X12_32 rfl (liS rfl) rfl rfl ?_
        refine wp_bipush (n := 36) K dX12_quarries_34 rfl rfl ?_
        refine wp_iload (n := 38) K dX12_quarries_36 rfl rfl ?_
        refine wp_iast (n := 39) K dX12_quarries_38 rfl rfl (liS rfl) (fun _ => rfl) ⟨by omega, by omega, by omega⟩ ?_
        try simp only [up_same, up_up, up_ne, ne_eq, Nat.reduceEqDiff, not_false_eq_true, Int.reduceToNat, Int.toNat_natCast]
        rw [ek, e78]
        rw [ek] at fin1
        have hnu := nm7_r hL (q := q) hs (by omega) hN
        refine wp_aload_n (n := 40) K dX12_quarries_39 rfl rfl ?_
        refine wp_iload_n (n := 41) K dX12_quarries_40 rfl rfl ?_
        refine wp_invV_qn (n := 44) K dX12_quarries_41 rfl cf_X12_265 (m_work k t fr to _ _ ht hk (by show M1 78 5 = _; rw [e78]; exact e5) (by show M1 80 _ = _; rw [e80]; exact efr) (by show M1 80 _ = _; rw [e80]; exact eto) ⟨hft, hto⟩ (by show okCode (codeF (M1 80) _ _) _; rw [e80]; exact hok) hnu) rfl rfl rfl (liS rfl) rfl (by decide) ⟨Nat.le_refl _, Nat.le_refl _⟩ (Nat.le_of_ble_eq_true rfl) (fun M2 hM2 gM2 => ?_)
        have hcg := evRun_congr (nm := up (nameA (M1 83) (M 78) s 3) 7 (q : Int)) (nm' := up (nameA (fun _ => 0) (M 78) s 3) 7 (q : Int)) (c := codeF (M 80) (680 * t) fr) (len := to - fr) (fun i hi h1 => nm7_eq _ _ _ _ _ _ (by have := hnm i hi h1; simp at this; have := (hok.2 i hi); unfold okOp at this; omega)) hok (to - fr) (Nat.le_refl _)
        have hd2 := evRun_dp (up (nameA (fun _ => 0) (M 78) s 3) 7 (q : Int)) (codeF (M 80) (680 * t) fr) hok (to - fr) (Nat.le_refl _)
        rw [hdp, if_neg (by decide)] at hd2
        have hb := (evRun_ok (nm7_r hL (q := q) hs (by omega) (ν := fun _ => 0) (fun _ _ => by decide)) hok (to - fr) (Nat.le_refl _)).2 0 (by have := congrArg Prod.snd hd2; dsimp only at this; omega)
        have g2 := gM2.2 0
        simp only [up_same, up_ne, ne_eq, Nat.reduceEqDiff, not_false_eq_true] at g2
        rw [e80, hcg] at g2
        have g3 := g2 (by have := congrArg Prod.snd hd2; dsimp only at this; omega)
        have hfit : decide ((evRun (up (nameA (fun _ => 0) (M 78) s 3) 7 (q : Int)) (codeF (M 80) (680 * t) fr) (to - fr)).2.2.1 0 = 1) = fitF (M 78) (M 80) s q := by unfold fitF; rw [hev, decide_eq_false hneg]; simp
        generalize (evRun (up (nameA (fun _ => 0) (M 78) s 3) 7 (q : Int)) (codeF (M 80) (680 * t) fr) (to - fr)).2.2.1 0 = T0 at *
        refine wp_aload_n (n := 45) K dX12_quarries_44 rfl rfl ?_
        refine wp_getF (n := 48) K dX12_quarries_45 rfl fl_X12_39 rfl (liS rfl) rfl rfl ?_
        refine wp_iconst (n := 49) K dX12_quarries_48 rfl ?_
        refine wp_zald (n := 50) K dX12_quarries_49 rfl rfl (liS rfl) ⟨by omega, by omega, by omega⟩ ?_
        try simp only [up_same, up_up, up_ne, ne_eq, Nat.reduceEqDiff, not_false_eq_true, Int.reduceToNat, Int.toNat_natCast]
        rw [g3]
        have eT : T0 = bI (decide (T0 = 1)) := by rcases hb with h | h <;> rw [h] <;> rfl
        obtain ⟨b, rfl⟩ : ∃ b : Bool, T0 = bI b := ⟨decide (T0 = 1), eT⟩
        refine wp_istore (n := 52) K dX12_quarries_50 rfl (by decide) ?_
        refine fin1 M2 b (fun a ha => ?_) (fun j hj => ?_) (by rw [← hfit]; cases b <;> rfl)
        · rw [hM2 a (fun q => ha (by simp at q ⊢; omega)), up_ne _ _ (fun e => ha (by rw [e]; decide))]; exact hM a ha
        · rw [hM2 _ (by decide), up_same]; exact hnu j hj
def ofF (σ τ : Nat → Int) (s w : Int) : Int := if 0 ≤ s ∧ s < σ 0 then (if w = 0 then bI ((σ 1).toNat.testBit s.toNat) else if w = 1 then bI (mayF σ τ s.toNat (σ 1).toNat) else if w = 2 then liftF σ τ s.toNat (wo (σ 1).toNat (2 ^ s.toNat)) else if w = 3 then (quT σ τ s.toNat 6 : Int) else if w = 4 then bI (borneB σ s.toNat (wo (σ 1).toNat (2 ^ s.toNat))) else -1) else -1


theorem m_of (s w : Int) (h1 : InR s) (h2 : InR w) (S : ST) (M : MT) (hL : LW (M 78) (M 80)) (hnb : NB M) (Ld : Nat) (hLd : M 78 1 = Ld) (hLd2 : Ld < 4096) : Ct E1 yX12_of cX12_of 4 (some .int) rm_X12_of [.ref 77, .int (z s), .int (z w)] S M (Qi (ofF (M 78) (M 80) s w) scr S M NB) := by
  have hw := hL.1
  have h0 := hw.1
  have hn0 : M 78 0 = ((M 78 0).toNat : Int) := by omega
  refine Ct.mk [.ref 77, .int (z s), .int (z w), mkV] (by decide) rfl (Nat.le_of_ble_eq_true rfl) (fun X K => ?_)
  unfold ofF at K
  rw [hLd, Int.toNat_natCast] at K
  refine wp_aload_n (n := 1) K dX12_of_0 rfl rfl ?_
  refine wp_iload_n (n := 2) K dX12_of_1 rfl rfl ?_
  refine wp_invV_i (n := 5) K dX12_of_2 rfl cf_X12_272 (m_isStone _ (by unfold InR; omega) _ (by omega) _ _ hn0) rfl rfl rfl (liS rfl) rfl (by decide) ⟨Nat.le_refl _, Nat.le_refl _⟩ (Nat.le_of_ble_eq_true rfl) ?_
  refine wp_if_ne_b (n := 8) K dX12_of_5 rfl (tgt := 10) (by decide) (fun c5 => ?_) (fun c5 => ?_)
  rotate_left
  · have c := of_decide_eq_false c5
    rw [if_neg (by omega)] at K
    refine wp_iconst (n := 9) K dX12_of_8 rfl ?_
    refine ret_qi K dX12_of_9 ?_ rfl ?_ ?_ ⟨Nat.le_refl _, Nat.le_refl _⟩
    · rfl
    · exact fun _ _ => rfl
    · exact hnb
  have g1 := of_decide_eq_true c5
  rw [if_pos (by omega)] at K
  obtain ⟨a, rfl⟩ : ∃ a : Nat, s = a := ⟨s.toNat, by omega⟩
  rw [Int.toNat_natCast] at K
  have hwl := wo_le Ld (2 ^ a)
  have hpa : (2 ^ a : Nat) < 4096 := Nat.pow_lt_pow_right (by decide) (show a < 12 by omega)
  refine wp_aload_n (n := 11) K dX12_of_10 rfl rfl ?_
  refine wp_getF (n := 14) K dX12_of_11 rfl fl_X12_7 rfl (liS rfl) rfl rfl ?_
  refine wp_iconst (n := 15) K dX12_of_14 rfl ?_
  refine wp_iald (n := 16) K dX12_of_15 rfl rfl (liS rfl) ⟨by omega, by omega, by omega⟩ ?_
  try simp only [up_same, up_up, up_ne, ne_eq, Nat.reduceEqDiff, not_false_eq_true, Int.reduceToNat, Int.toNat_natCast]
  refine wp_iconst (n := 17) K dX12_of_16 rfl ?_
  refine wp_iload_n (n := 18) K dX12_of_17 rfl rfl ?_
  refine wp_ishl (n := 19) K dX12_of_18 rfl ?_
  refine wp_iconst (n := 20) K dX12_of_19 rfl ?_
  refine wp_ixor (n := 21) K dX12_of_20 rfl ?_
  refine wp_iand (n := 22) K dX12_of_21 rfl ?_
  rw [hLd, bshl_1 (by omega), bandn_n (by omega) (by omega)]
  refine wp_istore_n (n := 23) K dX12_of_22 rfl (by decide) ?_
  refine wp_iload_n (n := 24) K dX12_of_23 rfl rfl ?_
  by_cases hin : 0 ≤ w ∧ w ≤ 4
  · rcases (show w = 0 ∨ w = 1 ∨ w = 2 ∨ w = 3 ∨ w = 4 by omega) with rfl | rfl | rfl | rfl | rfl
    · rw [if_pos rfl] at K
      refine wp_tswIn K dX12_of_24 (tgt := 60) (by decide) (by decide) (by decide) (off := 36) rfl (by decide) ?_
      refine wp_aload_n (n := 61) K dX12_of_60 rfl rfl ?_
      refine wp_getF (n := 64) K dX12_of_61 rfl fl_X12_7 rfl (liS rfl) rfl rfl ?_
      refine wp_iconst (n := 65) K dX12_of_64 rfl ?_
      refine wp_iald (n := 66) K dX12_of_65 rfl rfl (liS rfl) ⟨by omega, by omega, by omega⟩ ?_
      try simp only [up_same, up_up, up_ne, ne_eq, Nat.reduceEqDiff, not_false_eq_true, Int.reduceToNat, Int.toNat_natCast]
      refine wp_iload_n (n := 67) K dX12_of_66 rfl rfl ?_
      rw [hLd]
      refine wp_invS_i (n := 70) K dX12_of_67 rfl cf_X12_249 (m_has _ _ (by omega) (by omega) _ _) rfl rfl (by decide) ⟨Nat.le_refl _, Nat.le_refl _⟩ (Nat.le_of_ble_eq_true rfl) ?_
      refine wp_if_eq_b (n := 73) K dX12_of_70 rfl (tgt := 77) (by decide) (fun c70 => ?_) (fun c70 => ?_)
      · refine wp_iconst (n := 78) K dX12_of_77 rfl ?_
        refine ret_qi K dX12_of_78 ?_ rfl ?_ ?_ ⟨Nat.le_refl _, Nat.le_refl _⟩
        · rw [c70]; rfl
        · exact fun _ _ => rfl
        · exact hnb
      · refine wp_iconst (n := 74) K dX12_of_73 rfl ?_
        refine wp_goto K dX12_of_74 (tgt := 78) (by decide) ?_
        refine ret_qi K dX12_of_78 ?_ rfl ?_ ?_ ⟨Nat.le_refl _, Nat.le_refl _⟩
        · rw [c70]; rfl
        · exact fun _ _ => rfl
        · exact hnb
    · rw [if_neg (by decide), if_pos rfl] at K
      refine wp_tswIn K dX12_of_24 (tgt := 79) (by decide) (by decide) (by decide) (off := 55) rfl (by decide) ?_
      refine wp_aload_n (n := 80) K dX12_of_79 rfl rfl ?_
      refine wp_iload_n (n := 81) K dX12_of_80 rfl rfl ?_
      refine wp_aload_n (n := 82) K dX12_of_81 rfl rfl ?_
      refine wp_getF (n := 85) K dX12_of_82 rfl fl_X12_7 rfl (liS rfl) rfl rfl ?_
      refine wp_iconst (n := 86) K dX12_of_85 rfl ?_
      refine wp_iald (n := 87) K dX12_of_86 rfl rfl (liS rfl) ⟨by omega, by omega, by omega⟩ ?_
      try simp only [up_same, up_up, up_ne, ne_eq, Nat.reduceEqDiff, not_false_eq_true, Int.reduceToNat, Int.toNat_natCast]
      rw [hLd]
      refine wp_invV_qi (n := 90) K dX12_of_87 rfl cf_X12_275 (m_may _ _ (by omega) (by omega) _ _ hL hnb) rfl rfl rfl (liS rfl) rfl (by decide) ⟨Nat.le_refl _, Nat.le_refl _⟩ (Nat.le_of_ble_eq_true rfl) (fun M2 hM2 gM2 => ?_)
      refine wp_if_eq_b (n := 93) K dX12_of_90 rfl (tgt := 97) (by decide) (fun c90 => ?_) (fun c90 => ?_)
      · refine wp_iconst (n := 98) K dX12_of_97 rfl ?_
        refine ret_qi K dX12_of_98 ?_ rfl ?_ ?_ ⟨Nat.le_refl _, Nat.le_refl _⟩
        · rw [c90]; rfl
        · exact hM2
        · exact gM2
      · refine wp_iconst (n := 94) K dX12_of_93 rfl ?_
        refine wp_goto K dX12_of_94 (tgt := 98) (by decide) ?_
        refine ret_qi K dX12_of_98 ?_ rfl ?_ ?_ ⟨Nat.le_refl _, Nat.le_refl _⟩
        · rw [c90]; rfl
        · exact hM2
        · exact gM2
    · rw [if_neg (by decide), if_neg (by decide), if_pos rfl] at K
      refine wp_tswIn K dX12_of_24 (tgt := 99) (by decide) (by decide) (by decide) (off := 75) rfl (by decide) ?_
      refine wp_aload_n (n := 100) K dX12_of_99 rfl rfl ?_
      refine wp_iload_n (n := 101) K dX12_of_100 rfl rfl ?_
      refine wp_iload_n (n := 102) K dX12_of_101 rfl rfl ?_
      refine wp_invV_qi (n := 105) K dX12_of_102 rfl cf_X12_278 (m_lift _ _ (by omega) (by omega) _ _ hL hnb) rfl rfl rfl (liS rfl) rfl (by decide) ⟨Nat.le_refl _, Nat.le_refl _⟩ (Nat.le_of_ble_eq_true rfl) (fun M2 hM2 gM2 => ?_)
      refine ret_qi K dX12_of_105 ?_ rfl ?_ ?_ ⟨Nat.le_refl _, Nat.le_refl _⟩
      · rfl
      · exact hM2
      · exact gM2
    · rw [if_neg (by decide), if_neg (by decide), if_neg (by decide), if_pos rfl] at K
      refine wp_tswIn K dX12_of_24 (tgt := 106) (by decide) (by decide) (by decide) (off := 82) rfl (by decide) ?_
      refine wp_aload_n (n := 107) K dX12_of_106 rfl rfl ?_
      refine wp_iload_n (n := 108) K dX12_of_107 rfl rfl ?_
      refine wp_invV_qi (n := 111) K dX12_of_108 rfl cf_X12_281 (m_quarries _ (by omega) _ _ hL hnb) rfl rfl rfl (liS rfl) rfl (by decide) ⟨Nat.le_refl _, Nat.le_refl _⟩ (Nat.le_of_ble_eq_true rfl) (fun M2 hM2 gM2 => ?_)
      refine ret_qi K dX12_of_111 ?_ rfl ?_ ?_ ⟨Nat.le_refl _, Nat.le_refl _⟩
      · rfl
      · exact hM2
      · exact gM2
    · rw [if_neg (by decide), if_neg (by decide), if_neg (by decide), if_neg (by decide), if_pos rfl] at K
      refine wp_tswIn K dX12_of_24 (tgt := 112) (by decide) (by decide) (by decide) (off := 88) rfl (by decide) ?_
      refine wp_aload_n (n := 113) K dX12_of_112 rfl rfl ?_
      refine wp_iload_n (n := 114) K dX12_of_113 rfl rfl ?_
      refine wp_iload_n (n := 115) K dX12_of_114 rfl rfl ?_
      refine wp_invV_i (n := 118) K dX12_of_115 rfl cf_X12_253 (m_isBorne _ _ (by omega) (by omega) _ _ hw) rfl rfl rfl (liS rfl) rfl (by decide) ⟨Nat.le_refl _, Nat.le_refl _⟩ (Nat.le_of_ble_eq_true rfl) ?_
      refine wp_if_eq_b (n := 121) K dX12_of_118 rfl (tgt := 125) (by decide) (fun c118 => ?_) (fun c118 => ?_)
      · refine wp_iconst (n := 126) K dX12_of_125 rfl ?_
        refine ret_qi K dX12_of_126 ?_ rfl ?_ ?_ ⟨Nat.le_refl _, Nat.le_refl _⟩
        · rw [c118]; rfl
        · exact fun _ _ => rfl
        · exact hnb
      · refine wp_iconst (n := 122) K dX12_of_121 rfl ?_
        refine wp_goto K dX12_of_122 (tgt := 126) (by decide) ?_
        refine ret_qi K dX12_of_126 ?_ rfl ?_ ?_ ⟨Nat.le_refl _, Nat.le_refl _⟩
        · rw [c118]; rfl
        · exact fun _ _ => rfl
        · exact hnb
  · rw [if_neg (by omega), if_neg (by omega), if_neg (by omega), if_neg (by omega), if_neg (by omega)] at K
    refine wp_tswOut K dX12_of_24 (tgt := 127) h2 (by omega) (by decide) ?_
    refine wp_iconst (n := 128) K dX12_of_127 rfl ?_
    refine ret_qi K dX12_of_128 ?_ rfl ?_ ?_ ⟨Nat.le_refl _, Nat.le_refl _⟩
    · rfl
    · exact fun _ _ => rfl
    · exact hnb
/-! laying, and what is played -/
theorem LW.congr {σ σ' τ : Nat → Int} (hL : LW σ τ) (h : ∀ j, j < 70 → j ≠ 1 → j ≠ 6 → σ' j = σ j) : LW σ' τ := by
  obtain ⟨⟨h0, hs⟩, h2, h5, hwt⟩ := hL
  refine ⟨⟨by rw [h 0 (by omega) (by omega) (by omega)]; exact h0, fun s hs1 => ?_⟩, by rw [h 2 (by omega) (by omega) (by omega)]; exact h2, by rw [h 5 (by omega) (by omega) (by omega)]; exact h5, by rw [h 5 (by omega) (by omega) (by omega)]; exact hwt⟩
  rw [h (10 + 5 * s) (by omega) (by omega) (by omega), h (11 + 5 * s) (by omega) (by omega) (by omega), h (12 + 5 * s) (by omega) (by omega) (by omega), h (13 + 5 * s) (by omega) (by omega) (by omega), h (14 + 5 * s) (by omega) (by omega) (by omega)]
  exact hs s hs1
def okLay (σ τ : Nat → Int) (s : Int) : Prop := (0 ≤ s ∧ s < σ 0) ∧ mayF σ τ s.toNat (σ 1).toNat = true
def layA (σ : Nat → Int) (s : Nat) : Nat → Int := up (keepA σ) 1 (((σ 1).toNat ||| 2 ^ s : Nat) : Int)
theorem keepA_6 (σ : Nat → Int) (h6 : 0 ≤ σ 6 ∧ σ 6 ≤ 30) : 1 ≤ keepA σ 6 ∧ keepA σ 6 ≤ 30 := by
  unfold keepA
  rw [up_same]
  unfold keep1
  split
  · rw [up_same]; omega
  · omega
theorem liftF_r {σ τ : Nat → Int} (hL : LW σ τ) {s : Nat} (hs : s < 12) (set : Nat) : 0 ≤ liftF σ τ s set ∧ liftF σ τ s set ≤ 9999 := by
  unfold liftF
  obtain ⟨w1, w2, -⟩ := hL.1.2 s hs
  split
  · have h1 := Int.mul_nonneg w1.1 w2.1
    have h2 : σ (10 + 5 * s) * σ (11 + 5 * s) ≤ 99 * 20 := Int.mul_le_mul w1.2 w2.2 w2.1 (by omega)
    omega
  · omega

theorem m_lay (s : Int) (h1 : InR s) (S : ST) (M : MT) (hL : LW (M 78) (M 80)) (hnb : NB M) (h6 : 0 ≤ M 78 6 ∧ M 78 6 ≤ 30) (Ld : Nat) (hLd : M 78 1 = Ld) (hLd2 : Ld < 4096) : (okLay (M 78) (M 80) s → Ct E1 yX12_lay cX12_lay 3 (some .int) rm_X12_lay [.ref 77, .int (z s)] S M (Qi (liftF (M 78) (M 80) s.toNat Ld) (78 :: scr) S M (fun M1 => NB M1 ∧ M1 78 = layA (M 78) s.toNat))) ∧ (¬ okLay (M 78) (M 80) s → Ct E1 yX12_lay cX12_lay 3 (some .int) rm_X12_lay [.ref 77, .int (z s)] S M (Qi (-1) (78 :: scr) S M (fun M1 => NB M1 ∧ M1 78 = M 78))) := by
  have hw := hL.1
  have h0 := hw.1
  have hn0 : M 78 0 = ((M 78 0).toNat : Int) := by omega
  unfold okLay layA
  rw [hLd, Int.toNat_natCast]
  constructor
  · rintro ⟨g1, g2⟩
    obtain ⟨a, rfl⟩ : ∃ a : Nat, s = a := ⟨s.toNat, by omega⟩
    rw [Int.toNat_natCast] at g2 ⊢
    have hpa : (2 ^ a : Nat) < 4096 := Nat.pow_lt_pow_right (by decide) (show a < 12 by omega)
    refine Ct.mk [.ref 77, .int (z (a : Int)), mkV] (by decide) rfl (Nat.le_of_ble_eq_true rfl) (fun X K => ?_)
    refine wp_aload_n (n := 1) K dX12_lay_0 rfl rfl ?_
    refine wp_iload_n (n := 2) K dX12_lay_1 rfl rfl ?_
    refine wp_invV_i (n := 5) K dX12_lay_2 rfl cf_X12_272 (m_isStone _ (by unfold InR; omega) _ (by omega) _ _ hn0) rfl rfl rfl (liS rfl) rfl (by decide) ⟨Nat.le_refl _, Nat.le_refl _⟩ (Nat.le_of_ble_eq_true rfl) ?_
    refine wp_if_eq_b (n := 8) K dX12_lay_5 rfl (tgt := 22) (by decide) (fun c5 => ?_) (fun c5 => ?_)
    · have := of_decide_eq_false c5; omega
    refine wp_aload_n (n := 9) K dX12_lay_8 rfl rfl ?_
    refine wp_iload_n (n := 10) K dX12_lay_9 rfl rfl ?_
    refine wp_aload_n (n := 11) K dX12_lay_10 rfl rfl ?_
    refine wp_getF (n := 14) K dX12_lay_11 rfl fl_X12_7 rfl (liS rfl) rfl rfl ?_
    refine wp_iconst (n := 15) K dX12_lay_14 rfl ?_
    refine wp_iald (n := 16) K dX12_lay_15 rfl rfl (liS rfl) ⟨by omega, by omega, by omega⟩ ?_
    try simp only [up_same, up_up, up_ne, ne_eq, Nat.reduceEqDiff, not_false_eq_true, Int.reduceToNat, Int.toNat_natCast]
    rw [hLd]
    refine wp_invV_qi (n := 19) K dX12_lay_16 rfl cf_X12_275 (m_may _ _ (by omega) (by omega) _ _ hL hnb) rfl rfl rfl (liS rfl) rfl (by decide) ⟨Nat.le_refl _, Nat.le_refl _⟩ (Nat.le_of_ble_eq_true rfl) (fun M2 hM2 gM2 => ?_)
    refine wp_if_ne_b (n := 22) K dX12_lay_19 rfl (tgt := 24) (by decide) (fun c19 => ?_) (fun c19 => ?_)
    rotate_left
    · rw [g2] at c19; cases c19
    have e78 : M2 78 = M 78 := hM2 _ (by decide)
    have e80 : M2 80 = M 80 := hM2 _ (by decide)
    refine wp_aload_n (n := 25) K dX12_lay_24 rfl rfl ?_
    refine wp_iload_n (n := 26) K dX12_lay_25 rfl rfl ?_
    refine wp_aload_n (n := 27) K dX12_lay_26 rfl rfl ?_
    refine wp_getF (n := 30) K dX12_lay_27 rfl fl_X12_7 rfl (liS rfl) rfl rfl ?_
    refine wp_iconst (n := 31) K dX12_lay_30 rfl ?_
    refine wp_iald (n := 32) K dX12_lay_31 rfl rfl (liS rfl) ⟨by omega, by omega, by omega⟩ ?_
    try simp only [up_same, up_up, up_ne, ne_eq, Nat.reduceEqDiff, not_false_eq_true, Int.reduceToNat, Int.toNat_natCast]
    rw [e78, hLd]
    refine wp_invV_qi (n := 35) K dX12_lay_32 rfl cf_X12_278 (m_lift _ _ (by omega) (by omega) _ _ (by rw [e78, e80]; exact hL) gM2) rfl rfl rfl (liS rfl) rfl (by decide) ⟨Nat.le_refl _, Nat.le_refl _⟩ (Nat.le_of_ble_eq_true rfl) (fun M3 hM3 gM3 => ?_)
    rw [e78, e80]
    have f78 : M3 78 = M 78 := (hM3 _ (by decide)).trans e78
    refine wp_istore_n (n := 36) K dX12_lay_35 rfl (by decide) ?_
    refine wp_aload_n (n := 37) K dX12_lay_36 rfl rfl ?_
    refine wp_invV_n (n := 40) K dX12_lay_37 rfl cf_X12_284 (m_keep _ _ (by rw [f78]; exact h6)) rfl rfl rfl (liS rfl) rfl (by decide) ⟨Nat.le_refl _, Nat.le_refl _⟩ (Nat.le_of_ble_eq_true rfl) ?_
    rw [f78]
    have k1 : keepA (M 78) 1 = Ld := by rw [keepA_h _ h6 1 (by omega) (by omega), hLd]
    refine wp_aload_n (n := 41) K dX12_lay_40 rfl rfl ?_
    refine wp_getF (n := 44) K dX12_lay_41 rfl fl_X12_7 rfl (liS rfl) rfl rfl ?_
    refine wp_iconst (n := 45) K dX12_lay_44 rfl ?_
    refine wp_dup2 (n := 46) K dX12_lay_45 rfl rfl rfl ?_
    refine wp_iald (n := 47) K dX12_lay_46 rfl rfl (liS rfl) ⟨by omega, by omega, by omega⟩ ?_
    try simp only [up_same, up_up, up_ne, ne_eq, Nat.reduceEqDiff, not_false_eq_true, Int.reduceToNat, Int.toNat_natCast]
    refine wp_iconst (n := 48) K dX12_lay_47 rfl ?_
    refine wp_iload_n (n := 49) K dX12_lay_48 rfl rfl ?_
    refine wp_ishl (n := 50) K dX12_lay_49 rfl ?_
    refine wp_ior (n := 51) K dX12_lay_50 rfl ?_
    rw [k1, bshl_1 (by omega), bor_n (by omega) (by omega)]
    refine wp_iast (n := 52) K dX12_lay_51 rfl rfl (liS rfl) (fun _ => rfl) ⟨by omega, by omega, by omega⟩ ?_
    try simp only [up_same, up_up, up_ne, ne_eq, Nat.reduceEqDiff, not_false_eq_true, Int.reduceToNat, Int.toNat_natCast]
    refine wp_iload_n (n := 53) K dX12_lay_52 rfl rfl ?_
    refine ret_qi K dX12_lay_53 ?_ rfl ?_ ?_ ⟨Nat.le_refl _, Nat.le_refl _⟩
    · rfl
    · intro b hb
      rw [up_ne _ _ (fun e => hb (by rw [e]; decide)), hM3 b (fun q => hb (List.mem_cons_of_mem _ q)), hM2 b (fun q => hb (List.mem_cons_of_mem _ q))]
    · exact ⟨gM3, by rw [up_same]⟩
  · intro hno
    refine Ct.mk [.ref 77, .int (z s), mkV] (by decide) rfl (Nat.le_of_ble_eq_true rfl) (fun X K => ?_)
    refine wp_aload_n (n := 1) K dX12_lay_0 rfl rfl ?_
    refine wp_iload_n (n := 2) K dX12_lay_1 rfl rfl ?_
    refine wp_invV_i (n := 5) K dX12_lay_2 rfl cf_X12_272 (m_isStone _ (by unfold InR; omega) _ (by omega) _ _ hn0) rfl rfl rfl (liS rfl) rfl (by decide) ⟨Nat.le_refl _, Nat.le_refl _⟩ (Nat.le_of_ble_eq_true rfl) ?_
    refine wp_if_eq_b (n := 8) K dX12_lay_5 rfl (tgt := 22) (by decide) (fun c5 => ?_) (fun c5 => ?_)
    · refine wp_iconst (n := 23) K dX12_lay_22 rfl ?_
      refine ret_qi K dX12_lay_23 ?_ rfl ?_ ?_ ⟨Nat.le_refl _, Nat.le_refl _⟩
      · rfl
      · exact fun _ _ => rfl
      · exact ⟨hnb, rfl⟩
    have g1 := of_decide_eq_true c5
    obtain ⟨a, rfl⟩ : ∃ a : Nat, s = a := ⟨s.toNat, by omega⟩
    rw [Int.toNat_natCast] at hno
    refine wp_aload_n (n := 9) K dX12_lay_8 rfl rfl ?_
    refine wp_iload_n (n := 10) K dX12_lay_9 rfl rfl ?_
    refine wp_aload_n (n := 11) K dX12_lay_10 rfl rfl ?_
    refine wp_getF (n := 14) K dX12_lay_11 rfl fl_X12_7 rfl (liS rfl) rfl rfl ?_
    refine wp_iconst (n := 15) K dX12_lay_14 rfl ?_
    refine wp_iald (n := 16) K dX12_lay_15 rfl rfl (liS rfl) ⟨by omega, by omega, by omega⟩ ?_
    try simp only [up_same, up_up, up_ne, ne_eq, Nat.reduceEqDiff, not_false_eq_true, Int.reduceToNat, Int.toNat_natCast]
    rw [hLd]
    refine wp_invV_qi (n := 19) K dX12_lay_16 rfl cf_X12_275 (m_may _ _ (by omega) (by omega) _ _ hL hnb) rfl rfl rfl (liS rfl) rfl (by decide) ⟨Nat.le_refl _, Nat.le_refl _⟩ (Nat.le_of_ble_eq_true rfl) (fun M2 hM2 gM2 => ?_)
    refine wp_if_ne_b (n := 22) K dX12_lay_19 rfl (tgt := 24) (by decide) (fun c19 => ?_) (fun c19 => ?_)
    · exact absurd ⟨by omega, c19⟩ hno
    · refine wp_iconst (n := 23) K dX12_lay_22 rfl ?_
      refine ret_qi K dX12_lay_23 ?_ rfl ?_ ?_ ⟨Nat.le_refl _, Nat.le_refl _⟩
      · rfl
      · exact fun b hb => hM2 b (fun q => hb (List.mem_cons_of_mem _ q))
      · exact ⟨gM2, hM2 _ (by decide)⟩
