/-- one clause is played: whether it could be, and the row behind it -/
def plOk (σ τ : Nat → Int) (x : Nat) : Prop := if τ x = 3 then okLay σ τ (τ (x + 1)) else if τ x = 4 then ((0 ≤ τ (x + 1) ∧ τ (x + 1) < σ 0) ∧ (σ 1).toNat.testBit (τ (x + 1)).toNat = true ∧ standB σ (wo (σ 1).toNat (2 ^ (τ (x + 1)).toNat)) = true) else if τ x = 5 then canL σ (τ (x + 1)) (τ (x + 2)) else True
def plA (σ τ : Nat → Int) (x : Nat) : Nat → Int := if τ x = 3 then layA σ (τ (x + 1)).toNat else if τ x = 4 then up (keepA σ) 1 ((wo (σ 1).toNat (2 ^ (τ (x + 1)).toNat) : Nat) : Int) else if τ x = 5 then lendsA (keepA σ) (τ (x + 1)).toNat (τ (x + 2)).toNat else σ
/-- what a row a must bear for all that is played -/
def PI (B : Int) (σ τ : Nat → Int) : Prop := LW σ τ ∧ WHb B σ ∧ (0 ≤ σ 6 ∧ σ 6 ≤ 30) ∧ (0 ≤ σ 1 ∧ σ 1 < 4096)
theorem PI.mono {B C : Int} {σ τ : Nat → Int} (h : PI B σ τ) (hBC : B ≤ C) : PI C σ τ := ⟨h.1, h.2.1.mono hBC, h.2.2⟩
theorem PI.keep {B : Int} {σ τ : Nat → Int} (h : PI B σ τ) : PI B (keepA σ) τ := by
  obtain ⟨h1, h2, h3, h4⟩ := h
  have h6 := keepA_6 σ h3
  exact ⟨h1.congr (fun j a b c => keepA_h σ h3 j c (by omega)), h2.congr (fun j a b => keepA_h σ h3 j b (by omega)), by omega, by rw [keepA_h σ h3 1 (by omega) (by omega)]; exact h4⟩
theorem PI.laid {B : Int} {σ τ : Nat → Int} (h : PI B σ τ) {l : Nat} (hl : l < 4096) : PI B (up σ 1 (l : Int)) τ := by
  obtain ⟨h1, h2, h3, h4⟩ := h
  exact ⟨h1.congr (fun j a b c => up_ne _ _ b), ⟨by rw [up_ne _ _ (by decide)]; exact h2.1, fun k hk => by rw [up_ne _ _ (by omega), up_ne _ _ (by omega), up_ne _ _ (by omega)]; exact h2.2 k hk⟩, by rw [up_ne _ _ (by decide)]; exact h3, by rw [up_same]; omega⟩
theorem PI.lends {B : Int} {σ τ : Nat → Int} (h : PI B σ τ) {a b : Nat} (ha : a < 10) (hb : b < 10) : PI (B + 1) (lendsA σ a b) τ := by
  obtain ⟨h1, h2, h3, h4⟩ := h
  have e : ∀ j, j < 70 → lendsA σ a b j = σ j := fun j hj => lendsA_o σ a b j (fun k _ => by omega) (fun k _ => by omega) ha hb
  exact ⟨h1.congr (fun j p _ _ => e j p), h2.lends ha hb, by rw [e 6 (by omega)]; exact h3, by rw [e 1 (by omega)]; exact h4⟩
theorem PI.play {B : Int} {σ τ : Nat → Int} (h : PI B σ τ) {x : Nat} (ho : plOk σ τ x) : PI (B + 1) (plA σ τ x) τ := by
  have hk := h.keep
  have h0 := h.1.1.1
  unfold plOk at ho
  unfold plA
  by_cases h3 : τ x = 3
  · rw [if_pos h3] at ho ⊢
    have hs := ho.1
    have hp : (2 ^ (τ (x + 1)).toNat : Nat) < 4096 := Nat.pow_lt_pow_right (by decide) (show (τ (x + 1)).toNat < 12 by omega)
    exact (hk.laid (Nat.or_lt_two_pow (n := 12) (by have := h.2.2.2; omega) hp)).mono (by omega)
  · rw [if_neg h3] at ho ⊢
    by_cases h4 : τ x = 4
    · rw [if_pos h4] at ho ⊢
      exact (hk.laid (Nat.lt_of_le_of_lt (wo_le _ _) (by have := h.2.2.2; omega))).mono (by omega)
    · rw [if_neg h4] at ho ⊢
      by_cases h5 : τ x = 5
      · rw [if_pos h5] at ho ⊢
        have h3' := h.2.1.1
        exact hk.lends (by have := ho.1; omega) (by have := ho.2.1; omega)
      · rw [if_neg h5]; exact h.mono (by omega)

theorem m_isPlayed (x : Nat) (hx : x + 2 < 2720) (S : ST) (M : MT) (hP : PI 999000 (M 78) (M 80)) (hnb : NB M) (hr : InR (M 80 x) ∧ InR (M 80 (x + 1)) ∧ (M 80 x = 5 → InR (M 80 (x + 2)))) (b : Bool) (hb : b = true ↔ plOk (M 78) (M 80) x) : Ct E1 yX12_isPlayed cX12_isPlayed 2 (some .boolean) rm_X12_isPlayed [.ref 77, .int (z (x : Int))] S M (Qi (bI b) (78 :: scr) S M (fun M1 => NB M1 ∧ M1 78 = if b = true then plA (M 78) (M 80) x else M 78)) := by
  obtain ⟨hL, hH, h6, h1⟩ := hP
  obtain ⟨Ld, hLd⟩ : ∃ l : Nat, M 78 1 = l := ⟨(M 78 1).toNat, by omega⟩
  have i1 : ((x : Int) + 1).toNat = x + 1 := by omega
  have i2 : ((x : Int) + 2).toNat = x + 2 := by omega
  unfold plOk plA at *
  rw [hLd, Int.toNat_natCast] at hb ⊢
  refine Ct.mk [.ref 77, .int (z (x : Int))] (by decide) rfl (Nat.le_of_ble_eq_true rfl) (fun X K => ?_)
  refine wp_aload_n (n := 1) K dX12_isPlayed_0 rfl rfl ?_
  refine wp_getF (n := 4) K dX12_isPlayed_1 rfl fl_X12_16 rfl (liS rfl) rfl rfl ?_
  refine wp_iload_n (n := 5) K dX12_isPlayed_4 rfl rfl ?_
  refine wp_iald (n := 6) K dX12_isPlayed_5 rfl rfl (liS rfl) ⟨by omega, by omega, by omega⟩ ?_
  try simp only [up_same, up_up, up_ne, ne_eq, Nat.reduceEqDiff, not_false_eq_true, Int.reduceToNat, Int.toNat_natCast]
  by_cases h3 : M 80 x = 3
  · rw [if_pos h3] at hb K
    rw [h3]
    refine wp_tswIn K dX12_isPlayed_6 (tgt := 32) (by decide) (by decide) (by decide) (off := 26) rfl (by decide) ?_
    have hlr := liftF_r hL (s := (M 80 (x + 1)).toNat)
    refine wp_aload_n (n := 33) K dX12_isPlayed_32 rfl rfl ?_
    refine wp_aload_n (n := 34) K dX12_isPlayed_33 rfl rfl ?_
    refine wp_getF (n := 37) K dX12_isPlayed_34 rfl fl_X12_16 rfl (liS rfl) rfl rfl ?_
    refine wp_iload_n (n := 38) K dX12_isPlayed_37 rfl rfl ?_
    refine wp_iconst (n := 39) K dX12_isPlayed_38 rfl ?_
    refine wp_iadd (n := 40) K dX12_isPlayed_39 rfl ?_
    refine wp_iald (n := 41) K dX12_isPlayed_40 rfl rfl (liS rfl) ⟨by omega, by omega, by omega⟩ ?_
    try simp only [up_same, up_up, up_ne, ne_eq, Nat.reduceEqDiff, not_false_eq_true, Int.reduceToNat, Int.toNat_natCast]
    rw [i1]
    cases b with
    | true =>
      have hok := hb.mp rfl
      have hs := hok.1
      have h12 := hL.1.1
      have hlr := hlr (by omega) Ld
      refine wp_invV_qi (n := 44) K dX12_isPlayed_41 rfl cf_X12_293 ((m_lay _ hr.2.1 _ _ hL hnb h6 Ld hLd (by omega)).1 hok) rfl rfl rfl (liS rfl) rfl (by decide) ⟨Nat.le_refl _, Nat.le_refl _⟩ (Nat.le_of_ble_eq_true rfl) (fun M2 hM2 gM2 => ?_)
      refine wp_if_lt (n := 47) K dX12_isPlayed_44 rfl (tgt := 51) (by decide) ⟨by omega, by omega⟩ (fun c44 => ?_) (fun c44 => ?_)
      · omega
      · refine wp_iconst (n := 48) K dX12_isPlayed_47 rfl ?_
        refine wp_goto K dX12_isPlayed_48 (tgt := 52) (by decide) ?_
        refine ret_qz K dX12_isPlayed_52 ?_ rfl ?_ ?_ ⟨Nat.le_refl _, Nat.le_refl _⟩
        · rfl
        · exact hM2
        · exact gM2
    | false =>
      have hok : ¬ okLay (M 78) (M 80) (M 80 (x + 1)) := fun q => by have := hb.mpr q; cases this
      refine wp_invV_qi (n := 44) K dX12_isPlayed_41 rfl cf_X12_293 ((m_lay _ hr.2.1 _ _ hL hnb h6 Ld hLd (by omega)).2 hok) rfl rfl rfl (liS rfl) rfl (by decide) ⟨Nat.le_refl _, Nat.le_refl _⟩ (Nat.le_of_ble_eq_true rfl) (fun M2 hM2 gM2 => ?_)
      refine wp_if_lt (n := 47) K dX12_isPlayed_44 rfl (tgt := 51) (by decide) ⟨by omega, by omega⟩ (fun c44 => ?_) (fun c44 => ?_)
      · refine wp_iconst (n := 52) K dX12_isPlayed_51 rfl ?_
        refine ret_qz K dX12_isPlayed_52 ?_ rfl ?_ ?_ ⟨Nat.le_refl _, Nat.le_refl _⟩
        · rfl
        · exact hM2
        · exact gM2
      · omega
  · rw [if_neg h3] at hb K
    by_cases h4 : M 80 x = 4
    · rw [if_pos h4] at hb K
      rw [h4]
      refine wp_tswIn K dX12_isPlayed_6 (tgt := 53) (by decide) (by decide) (by decide) (off := 47) rfl (by decide) ?_
      refine wp_aload_n (n := 54) K dX12_isPlayed_53 rfl rfl ?_
      refine wp_aload_n (n := 55) K dX12_isPlayed_54 rfl rfl ?_
      refine wp_getF (n := 58) K dX12_isPlayed_55 rfl fl_X12_16 rfl (liS rfl) rfl rfl ?_
      refine wp_iload_n (n := 59) K dX12_isPlayed_58 rfl rfl ?_
      refine wp_iconst (n := 60) K dX12_isPlayed_59 rfl ?_
      refine wp_iadd (n := 61) K dX12_isPlayed_60 rfl ?_
      refine wp_iald (n := 62) K dX12_isPlayed_61 rfl rfl (liS rfl) ⟨by omega, by omega, by omega⟩ ?_
      try simp only [up_same, up_up, up_ne, ne_eq, Nat.reduceEqDiff, not_false_eq_true, Int.reduceToNat, Int.toNat_natCast]
      rw [i1]
      cases b with
      | true =>
        have hok := hb.mp rfl
        have hcl := cnt_le 12 (wo Ld (2 ^ (M 80 (x + 1)).toNat))
        refine wp_invV_i (n := 65) K dX12_isPlayed_62 rfl cf_X12_296 ((m_out _ hr.2.1 _ _ hL.1 h6 Ld hLd (by omega)).1 hok) rfl rfl rfl (liS rfl) rfl (by decide) ⟨Nat.le_refl _, Nat.le_refl _⟩ (Nat.le_of_ble_eq_true rfl) ?_
        refine wp_if_lt (n := 68) K dX12_isPlayed_65 rfl (tgt := 72) (by decide) ⟨by omega, by omega⟩ (fun c65 => ?_) (fun c65 => ?_)
        · omega
        · refine wp_iconst (n := 69) K dX12_isPlayed_68 rfl ?_
          refine wp_goto K dX12_isPlayed_69 (tgt := 73) (by decide) ?_
          refine ret_qz K dX12_isPlayed_73 ?_ rfl ?_ ?_ ⟨Nat.le_refl _, Nat.le_refl _⟩
          · rfl
          · exact fun c hc => up_ne _ _ (fun e => hc (by rw [e]; decide))
          · exact ⟨fun j hj => hnb j hj, by rw [up_same, if_pos rfl]⟩
      | false =>
        have hok : ¬ ((0 ≤ M 80 (x + 1) ∧ M 80 (x + 1) < M 78 0) ∧ Ld.testBit (M 80 (x + 1)).toNat = true ∧ standB (M 78) (wo Ld (2 ^ (M 80 (x + 1)).toNat)) = true) := fun q => by have := hb.mpr q; cases this
        refine wp_invV_i (n := 65) K dX12_isPlayed_62 rfl cf_X12_296 ((m_out _ hr.2.1 _ _ hL.1 h6 Ld hLd (by omega)).2 hok) rfl rfl rfl (liS rfl) rfl (by decide) ⟨Nat.le_refl _, Nat.le_refl _⟩ (Nat.le_of_ble_eq_true rfl) ?_
        refine wp_if_lt (n := 68) K dX12_isPlayed_65 rfl (tgt := 72) (by decide) ⟨by omega, by omega⟩ (fun c65 => ?_) (fun c65 => ?_)
        · refine wp_iconst (n := 73) K dX12_isPlayed_72 rfl ?_
          refine ret_qz K dX12_isPlayed_73 ?_ rfl ?_ ?_ ⟨Nat.le_refl _, Nat.le_refl _⟩
          · rfl
          · exact fun _ _ => rfl
          · exact ⟨hnb, rfl⟩
        · omega
    · rw [if_neg h4] at hb K
      by_cases h5 : M 80 x = 5
      · rw [if_pos h5] at hb K
        rw [h5]
        refine wp_tswIn K dX12_isPlayed_6 (tgt := 74) (by decide) (by decide) (by decide) (off := 68) rfl (by decide) ?_
        refine wp_aload_n (n := 75) K dX12_isPlayed_74 rfl rfl ?_
        refine wp_aload_n (n := 76) K dX12_isPlayed_75 rfl rfl ?_
        refine wp_getF (n := 79) K dX12_isPlayed_76 rfl fl_X12_16 rfl (liS rfl) rfl rfl ?_
        refine wp_iload_n (n := 80) K dX12_isPlayed_79 rfl rfl ?_
        refine wp_iconst (n := 81) K dX12_isPlayed_80 rfl ?_
        refine wp_iadd (n := 82) K dX12_isPlayed_81 rfl ?_
        refine wp_iald (n := 83) K dX12_isPlayed_82 rfl rfl (liS rfl) ⟨by omega, by omega, by omega⟩ ?_
        try simp only [up_same, up_up, up_ne, ne_eq, Nat.reduceEqDiff, not_false_eq_true, Int.reduceToNat, Int.toNat_natCast]
        refine wp_aload_n (n := 84) K dX12_isPlayed_83 rfl rfl ?_
        refine wp_getF (n := 87) K dX12_isPlayed_84 rfl fl_X12_16 rfl (liS rfl) rfl rfl ?_
        refine wp_iload_n (n := 88) K dX12_isPlayed_87 rfl rfl ?_
        refine wp_iconst (n := 89) K dX12_isPlayed_88 rfl ?_
        refine wp_iadd (n := 90) K dX12_isPlayed_89 rfl ?_
        refine wp_iald (n := 91) K dX12_isPlayed_90 rfl rfl (liS rfl) ⟨by omega, by omega, by omega⟩ ?_
        try simp only [up_same, up_up, up_ne, ne_eq, Nat.reduceEqDiff, not_false_eq_true, Int.reduceToNat, Int.toNat_natCast]
        rw [i1, i2]
        have hwh : WH (M 78) := hH.wh (by omega)
        cases b with
        | true =>
          have hok := hb.mp rfl
          have hsp := hok.2.2.2
          have hkh := hwh.2 (M 80 (x + 1)).toNat (by have := hok.1; have := hwh.1; omega)
          have hv : 0 ≤ lendsA (keepA (M 78)) (M 80 (x + 1)).toNat (M 80 (x + 2)).toNat (70 + 3 * (M 80 (x + 1)).toNat) ∧ lendsA (keepA (M 78)) (M 80 (x + 1)).toNat (M 80 (x + 2)).toNat (70 + 3 * (M 80 (x + 1)).toNat) ≤ 1000001 := by
            rw [lendsA_s, keepA_h _ h6 _ (by omega) (by have := hok.1; have := hwh.1; omega), if_pos rfl]
            split <;> omega
          refine wp_invV_i (n := 94) K dX12_isPlayed_91 rfl cf_X12_299 ((m_lend _ _ hr.2.1 (hr.2.2 h5) _ _ hwh h6).1 hok) rfl rfl rfl (liS rfl) rfl (by decide) ⟨Nat.le_refl _, Nat.le_refl _⟩ (Nat.le_of_ble_eq_true rfl) ?_
          refine wp_if_lt (n := 97) K dX12_isPlayed_94 rfl (tgt := 101) (by decide) ⟨by omega, by omega⟩ (fun c94 => ?_) (fun c94 => ?_)
          · omega
          · refine wp_iconst (n := 98) K dX12_isPlayed_97 rfl ?_
            refine wp_goto K dX12_isPlayed_98 (tgt := 102) (by decide) ?_
            refine ret_qz K dX12_isPlayed_102 ?_ rfl ?_ ?_ ⟨Nat.le_refl _, Nat.le_refl _⟩
            · rfl
            · exact fun c hc => up_ne _ _ (fun e => hc (by rw [e]; decide))
            · exact ⟨fun j hj => hnb j hj, by rw [up_same, if_pos rfl]⟩
        | false =>
          have hok : ¬ canL (M 78) (M 80 (x + 1)) (M 80 (x + 2)) := fun q => by have := hb.mpr q; cases this
          refine wp_invV_i (n := 94) K dX12_isPlayed_91 rfl cf_X12_299 ((m_lend _ _ hr.2.1 (hr.2.2 h5) _ _ hwh h6).2 hok) rfl rfl rfl (liS rfl) rfl (by decide) ⟨Nat.le_refl _, Nat.le_refl _⟩ (Nat.le_of_ble_eq_true rfl) ?_
          refine wp_if_lt (n := 97) K dX12_isPlayed_94 rfl (tgt := 101) (by decide) ⟨by omega, by omega⟩ (fun c94 => ?_) (fun c94 => ?_)
          · refine wp_iconst (n := 102) K dX12_isPlayed_101 rfl ?_
            refine ret_qz K dX12_isPlayed_102 ?_ rfl ?_ ?_ ⟨Nat.le_refl _, Nat.le_refl _⟩
            · rfl
            · exact fun _ _ => rfl
            · exact ⟨hnb, rfl⟩
          · omega
      · rw [if_neg h5] at hb K
        have : b = true := hb.mpr trivial
        subst this
        refine wp_tswOut K dX12_isPlayed_6 (tgt := 103) hr.1 (by omega) (by decide) ?_
        refine wp_iconst (n := 104) K dX12_isPlayed_103 rfl ?_
        refine ret_qz K dX12_isPlayed_104 ?_ rfl ?_ ?_ ⟨Nat.le_refl _, Nat.le_refl _⟩
        · rfl
        · exact fun _ _ => rfl
        · exact ⟨hnb, rfl⟩
