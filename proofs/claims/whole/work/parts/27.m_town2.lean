def WHb (B : Int) (σ : Nat → Int) : Prop := (0 ≤ σ 3 ∧ σ 3 ≤ 10) ∧ ∀ h : Nat, h < 10 → (-B ≤ σ (70 + 3 * h) ∧ σ (70 + 3 * h) ≤ B) ∧ (-B ≤ σ (71 + 3 * h) ∧ σ (71 + 3 * h) ≤ B) ∧ 0 ≤ σ (72 + 3 * h) ∧ σ (72 + 3 * h) < 1024
theorem WHb.wh {B : Int} {σ : Nat → Int} (h : WHb B σ) (hB : B ≤ 1000000) : WH σ := ⟨h.1, fun k hk => by obtain ⟨a, b, c⟩ := h.2 k hk; exact ⟨by omega, by omega, c⟩⟩
theorem WHb.mono {B C : Int} {σ : Nat → Int} (h : WHb B σ) (hB : B ≤ C) : WHb C σ := ⟨h.1, fun k hk => by obtain ⟨a, b, c⟩ := h.2 k hk; exact ⟨by omega, by omega, c⟩⟩
theorem WHb.congr {B : Int} {σ τ : Nat → Int} (h : WHb B σ) (e : ∀ j, j < 100 → j ≠ 6 → τ j = σ j) : WHb B τ := ⟨by rw [e 3 (by omega) (by omega)]; exact h.1, fun k hk => by rw [e _ (by omega) (by omega), e _ (by omega) (by omega), e _ (by omega) (by omega)]; exact h.2 k hk⟩
/-- what a lending leaves -/
theorem lendsA_o (σ : Nat → Int) (h t j : Nat) (h1 : ∀ k, k < 10 → j ≠ 70 + 3 * k) (h2 : ∀ k, k < 10 → j ≠ 71 + 3 * k) (hh : h < 10) (ht : t < 10) : lendsA σ h t j = σ j := by
  unfold lendsA
  rw [up_ne _ _ (h2 t ht), up_ne _ _ (h1 t ht), up_ne _ _ (h2 h hh), up_ne _ _ (h1 h hh)]
theorem lendsA_s (σ : Nat → Int) (h t k : Nat) : lendsA σ h t (70 + 3 * k) = σ (70 + 3 * k) - (if k = h then 1 else 0) + (if k = t then 1 else 0) := by
  unfold lendsA
  rw [up_ne _ _ (by omega)]
  by_cases h1 : k = t
  · subst h1
    rw [up_same, up_ne _ _ (by omega), if_pos rfl]
    by_cases h2 : k = h
    · subst h2; rw [up_same, if_pos rfl]
    · rw [up_ne _ _ (by omega), if_neg h2]; omega
  · rw [up_ne _ _ (by omega), up_ne _ _ (by omega), if_neg h1]
    by_cases h2 : k = h
    · subst h2; rw [up_same, if_pos rfl]; omega
    · rw [up_ne _ _ (by omega), if_neg h2]; omega
theorem lendsA_w (σ : Nat → Int) (h t k : Nat) : lendsA σ h t (71 + 3 * k) = σ (71 + 3 * k) - (if k = h then 1 else 0) + (if k = t then 1 else 0) := by
  unfold lendsA
  by_cases h1 : k = t
  · subst h1
    rw [up_same, up_ne _ _ (by omega), if_pos rfl]
    by_cases h2 : k = h
    · subst h2; rw [up_same, up_ne _ _ (by omega), if_pos rfl]
    · rw [up_ne _ _ (by omega), up_ne _ _ (by omega), if_neg h2]; omega
  · rw [up_ne _ _ (by omega), up_ne _ _ (by omega), if_neg h1]
    by_cases h2 : k = h
    · subst h2; rw [up_same, up_ne _ _ (by omega), if_pos rfl]; omega
    · rw [up_ne _ _ (by omega), up_ne _ _ (by omega), if_neg h2]; omega
theorem WHb.lends {B : Int} {σ : Nat → Int} (w : WHb B σ) {h t : Nat} (hh : h < 10) (ht : t < 10) : WHb (B + 1) (lendsA σ h t) := by
  refine ⟨by rw [lendsA_o σ h t 3 (fun k _ => by omega) (fun k _ => by omega) hh ht]; exact w.1, fun k hk => ?_⟩
  obtain ⟨a, b, c⟩ := w.2 k hk
  rw [lendsA_s, lendsA_w, lendsA_o σ h t (72 + 3 * k) (fun k _ => by omega) (fun k _ => by omega) hh ht]
  refine ⟨?_, ?_, c⟩
  · split <;> split <;> omega
  · split <;> split <;> omega
theorem townT_w {B : Int} {σ : Nat → Int} (w : WHb B σ) (h3 : 0 < σ 3) (x : Nat) (hx : x < 100000) : ∀ k : Nat, WHb (B + k) (townT σ x k).1 ∧ (townT σ x k).1 3 = σ 3 ∧ (townT σ x k).2.1 < 100000 ∧ (townT σ x k).2.2 ≤ k ∧ ∀ h, h < 10 → (townT σ x k).1 (72 + 3 * h) = σ (72 + 3 * h) := by
  intro k
  induction k with
  | zero => exact ⟨w.mono (by omega), rfl, hx, Nat.le_refl _, fun _ _ => rfl⟩
  | succ k ih =>
    obtain ⟨i1, i2, i3, i4, i5⟩ := ih
    show WHb _ (townS _ _ _).1 ∧ (townS _ _ _).1 3 = σ 3 ∧ (townS _ _ _).2.1 < 100000 ∧ (townS _ _ _).2.2 ≤ k + 1 ∧ ∀ h, h < 10 → (townS _ _ _).1 (72 + 3 * h) = σ (72 + 3 * h)
    generalize (townT σ x k).1 = τ at *
    generalize (townT σ x k).2.1 = y at *
    generalize (townT σ x k).2.2 = d at *
    have l1 := nxd_lt y
    have l2 := nxd_lt (nxd y)
    have hh : y % (τ 3).toNat < 10 := Nat.lt_of_lt_of_le (Nat.mod_lt _ (by omega)) (by have := i1.1; omega)
    unfold townS
    dsimp only
    split
    · exact ⟨i1.mono (by omega), i2, by dsimp only; omega, by dsimp only; omega, i5⟩
    · rename_i hc
      have hn := ((i1.2 _ hh).2.2)
      have ht := nthB_ok (n := nrN τ (y % (τ 3).toNat)) (w := nxd y % cnt 12 (nrN τ (y % (τ 3).toNat))) (by unfold nrN; omega) (Nat.mod_lt _ (by omega))
      split
      · exact ⟨(i1.lends hh ht.2).mono (by omega), by dsimp only; rw [lendsA_o τ _ _ 3 (fun k _ => by omega) (fun k _ => by omega) hh ht.2]; exact i2, by dsimp only; omega, by dsimp only; omega, fun h hh2 => by dsimp only; rw [lendsA_o τ _ _ _ (fun k _ => by omega) (fun k _ => by omega) hh ht.2]; exact i5 h hh2⟩
      · exact ⟨i1.mono (by omega), i2, by dsimp only; omega, by dsimp only; omega, i5⟩

/-- who is touched was told -/
def WN (σ : Nat → Int) : Prop := ∀ h : Nat, h < 10 → σ (72 + 3 * h) < 2 ^ (σ 3).toNat
def okTown (σ : Nat → Int) (s n : Int) : Prop := (0 ≤ s ∧ s ≤ 9999) ∧ (1 ≤ n ∧ n ≤ 99) ∧ σ 3 ≠ 0

theorem m_town_in {X : XT} {S : ST} {M : MT} {P : Option Value → ST → MT → Prop} {S0 : ST} (K : Ok E1 X yX12_town cX12_town 9 (some .int) rm_X12_town P S0) (hS : S = S0) (l1 l2 l3 l4 : Value) (l6 : Int32) (h : Nat) (hh : h < 10) (hw : WH (M 78)) : ∀ (f t w : Nat), f + t = 12 → w < 100 → cnt t (nrN (M 78) h) + w < cnt 12 (nrN (M 78) h) → Wp E1 X 166 [.ref 77, l1, l2, l3, l4, .int (z (h : Int)), .int l6, .int (z 0), .int (z ((nb f (nrN (M 78) h) t w : Nat) : Int))] [] S M → Wp E1 X 105 [.ref 77, l1, l2, l3, l4, .int (z (h : Int)), .int l6, .int (z (w : Int)), .int (z (t : Int))] [] S M := by
  subst hS
  obtain ⟨n1, n2⟩ := hw.nr hh
  have i2 : (70 + 3 * (h : Int) + 2).toNat = 72 + 3 * h := by omega
  intro f
  induction f with
  | zero => intro t w h1 _ h2; rw [show t = 12 by omega] at h2; omega
  | succ f ih =>
    intro t w h1 hw1 h2 k
    unfold nb at k
    refine wp_aload_n (n := 106) K dX12_town_105 rfl rfl ?_
    refine wp_getF (n := 109) K dX12_town_106 rfl fl_X12_7 rfl (liS rfl) rfl rfl ?_
    refine wp_iload (n := 111) K dX12_town_109 rfl rfl ?_
    refine wp_invS_i (n := 114) K dX12_town_111 rfl cf_X12_77 (m_houseAt _ _ _) rfl rfl (by decide) ⟨Nat.le_refl _, Nat.le_refl _⟩ (Nat.le_of_ble_eq_true rfl) ?_
    refine wp_iconst (n := 115) K dX12_town_114 rfl ?_
    refine wp_iadd (n := 116) K dX12_town_115 rfl ?_
    refine wp_iald (n := 117) K dX12_town_116 rfl rfl (liS rfl) ⟨by omega, by omega, by omega⟩ ?_
    try simp only [up_same, up_up, up_ne, ne_eq, Nat.reduceEqDiff, not_false_eq_true, Int.reduceToNat, Int.toNat_natCast]
    rw [i2, n1]
    refine wp_iload (n := 119) K dX12_town_117 rfl rfl ?_
    refine wp_invS_i (n := 122) K dX12_town_119 rfl cf_X12_249 (m_has _ _ (by omega) (by omega) _ _) rfl rfl (by decide) ⟨Nat.le_refl _, Nat.le_refl _⟩ (Nat.le_of_ble_eq_true rfl) ?_
    refine wp_if_eq_b (n := 125) K dX12_town_122 rfl (tgt := 130) (by decide) (fun c122 => ?_) (fun c122 => ?_)
    · rw [if_neg (by rw [c122]; exact fun q => by cases q.1), c122] at k
      refine wp_iload (n := 132) K dX12_town_130 rfl rfl ?_
      refine wp_aload_n (n := 133) K dX12_town_132 rfl rfl ?_
      refine wp_getF (n := 136) K dX12_town_133 rfl fl_X12_7 rfl (liS rfl) rfl rfl ?_
      refine wp_iload (n := 138) K dX12_town_136 rfl rfl ?_
      refine wp_invS_i (n := 141) K dX12_town_138 rfl cf_X12_77 (m_houseAt _ _ _) rfl rfl (by decide) ⟨Nat.le_refl _, Nat.le_refl _⟩ (Nat.le_of_ble_eq_true rfl) ?_
      refine wp_iconst (n := 142) K dX12_town_141 rfl ?_
      refine wp_iadd (n := 143) K dX12_town_142 rfl ?_
      refine wp_iald (n := 144) K dX12_town_143 rfl rfl (liS rfl) ⟨by omega, by omega, by omega⟩ ?_
      try simp only [up_same, up_up, up_ne, ne_eq, Nat.reduceEqDiff, not_false_eq_true, Int.reduceToNat, Int.toNat_natCast]
      rw [i2, n1]
      refine wp_iload (n := 146) K dX12_town_144 rfl rfl ?_
      refine wp_invS_i (n := 149) K dX12_town_146 rfl cf_X12_249 (m_has _ _ (by omega) (by omega) _ _) rfl rfl (by decide) ⟨Nat.le_refl _, Nat.le_refl _⟩ (Nat.le_of_ble_eq_true rfl) ?_
      refine wp_if_eq_b (n := 152) K dX12_town_149 rfl (tgt := 156) (by decide) (fun c149 => ?_) (fun c149 => ?_)
      · refine wp_iconst (n := 157) K dX12_town_156 rfl ?_
        refine wp_isub (n := 158) K dX12_town_157 rfl ?_
        refine wp_istore (n := 160) K dX12_town_158 rfl (by decide) ?_
        refine wp_iinc (n := 163) K dX12_town_160 rfl rfl (by decide) ?_
        refine wp_goto K dX12_town_163 (tgt := 105) (by decide) ?_
        rw [show (w : Int) - 0 = (w : Int) by omega]
        exact ih (t + 1) w (by omega) (by omega) (by rw [cnt_s, c122]; exact h2) k
      · rw [c122] at c149; cases c149
    · refine wp_iload (n := 127) K dX12_town_125 rfl rfl ?_
      refine wp_if_le (n := 130) K dX12_town_127 rfl (tgt := 166) (by decide) ⟨by omega, by omega⟩ (fun c127 => ?_) (fun c127 => ?_)
      · have hw0 : w = 0 := by omega
        subst hw0
        rw [if_pos ⟨c122, rfl⟩] at k
        exact k
      · rw [if_neg (fun q => by omega), c122] at k
        refine wp_iload (n := 132) K dX12_town_130 rfl rfl ?_
        refine wp_aload_n (n := 133) K dX12_town_132 rfl rfl ?_
        refine wp_getF (n := 136) K dX12_town_133 rfl fl_X12_7 rfl (liS rfl) rfl rfl ?_
        refine wp_iload (n := 138) K dX12_town_136 rfl rfl ?_
        refine wp_invS_i (n := 141) K dX12_town_138 rfl cf_X12_77 (m_houseAt _ _ _) rfl rfl (by decide) ⟨Nat.le_refl _, Nat.le_refl _⟩ (Nat.le_of_ble_eq_true rfl) ?_
        refine wp_iconst (n := 142) K dX12_town_141 rfl ?_
        refine wp_iadd (n := 143) K dX12_town_142 rfl ?_
        refine wp_iald (n := 144) K dX12_town_143 rfl rfl (liS rfl) ⟨by omega, by omega, by omega⟩ ?_
        try simp only [up_same, up_up, up_ne, ne_eq, Nat.reduceEqDiff, not_false_eq_true, Int.reduceToNat, Int.toNat_natCast]
        rw [i2, n1]
        refine wp_iload (n := 146) K dX12_town_144 rfl rfl ?_
        refine wp_invS_i (n := 149) K dX12_town_146 rfl cf_X12_249 (m_has _ _ (by omega) (by omega) _ _) rfl rfl (by decide) ⟨Nat.le_refl _, Nat.le_refl _⟩ (Nat.le_of_ble_eq_true rfl) ?_
        refine wp_if_eq_b (n := 152) K dX12_town_149 rfl (tgt := 156) (by decide) (fun c149 => ?_) (fun c149 => ?_)
        · rw [c122] at c149; cases c149
        · refine wp_iconst (n := 153) K dX12_town_152 rfl ?_
          refine wp_goto K dX12_town_153 (tgt := 157) (by decide) ?_
          refine wp_isub (n := 158) K dX12_town_157 rfl ?_
          refine wp_istore (n := 160) K dX12_town_158 rfl (by decide) ?_
          refine wp_iinc (n := 163) K dX12_town_160 rfl rfl (by decide) ?_
          refine wp_goto K dX12_town_163 (tgt := 105) (by decide) ?_
          rw [show (w : Int) - 1 = ((w - 1 : Nat) : Int) by omega]
          exact ih (t + 1) (w - 1) (by omega) (by omega) (by rw [cnt_s, c122]; simp; omega) k
theorem m_town (s n : Int) (h1 : InR s) (h2 : InR n) (S : ST) (M : MT) (hw : WHb 900000 (M 78)) (hN : WN (M 78)) (h6 : 0 ≤ M 78 6 ∧ M 78 6 ≤ 30) : (okTown (M 78) s n → Ct E1 yX12_town cX12_town 9 (some .int) rm_X12_town [.ref 77, .int (z s), .int (z n)] S M (Pi ((townT (keepA (M 78)) (s.toNat * 9 + 4) n.toNat).2.2 : Int) S (up (up M 78 (townT (keepA (M 78)) (s.toNat * 9 + 4) n.toNat).1) 77 (up (M 77) 31 ((townT (keepA (M 78)) (s.toNat * 9 + 4) n.toNat).2.1 : Int))))) ∧ (¬ okTown (M 78) s n → Ct E1 yX12_town cX12_town 9 (some .int) rm_X12_town [.ref 77, .int (z s), .int (z n)] S M (Pi (-1) S M)) := by
  have h3 := hw.1
  constructor
  · rintro ⟨g1, g2, g3⟩
    obtain ⟨a, rfl⟩ : ∃ a : Nat, s = a := ⟨s.toNat, by omega⟩
    obtain ⟨N, rfl⟩ : ∃ a : Nat, n = a := ⟨n.toNat, by omega⟩
    rw [Int.toNat_natCast, Int.toNat_natCast]
    have hwk : WHb 900000 (keepA (M 78)) := hw.congr (fun j h1 h2 => keepA_h _ h6 j h2 (by omega))
    have hk3 : keepA (M 78) 3 = M 78 3 := keepA_h _ h6 3 (by omega) (by omega)
    have hT := townT_w hwk (by omega) (a * 9 + 4) (by omega)
    refine Ct.mk [.ref 77, .int (z (a : Int)), .int (z (N : Int)), mkV, mkV, mkV, mkV, mkV, mkV] (by decide) rfl (Nat.le_of_ble_eq_true rfl) (fun X K => ?_)
    refine wp_iload_n (n := 1) K dX12_town_0 rfl rfl ?_
    refine wp_iconst (n := 2) K dX12_town_1 rfl ?_
    refine wp_sipush (n := 5) K dX12_town_2 rfl rfl ?_
    refine wp_invS_i (n := 8) K dX12_town_5 rfl cf_X12_62 (m_isIn _ _ _ (by unfold InR; omega) (by unfold InR; omega) (by unfold InR; omega) _ _) rfl rfl (by decide) ⟨Nat.le_refl _, Nat.le_refl _⟩ (Nat.le_of_ble_eq_true rfl) ?_
    refine wp_if_eq_b (n := 11) K dX12_town_8 rfl (tgt := 30) (by decide) (fun c8 => ?_) (fun c8 => ?_)
    · have := of_decide_eq_false c8; omega
    refine wp_iload_n (n := 12) K dX12_town_11 rfl rfl ?_
    refine wp_iconst (n := 13) K dX12_town_12 rfl ?_
    refine wp_bipush (n := 15) K dX12_town_13 rfl rfl ?_
    refine wp_invS_i (n := 18) K dX12_town_15 rfl cf_X12_62 (m_isIn _ _ _ (by unfold InR; omega) (by unfold InR; omega) (by unfold InR; omega) _ _) rfl rfl (by decide) ⟨Nat.le_refl _, Nat.le_refl _⟩ (Nat.le_of_ble_eq_true rfl) ?_
    refine wp_if_eq_b (n := 21) K dX12_town_18 rfl (tgt := 30) (by decide) (fun c18 => ?_) (fun c18 => ?_)
    · have := of_decide_eq_false c18; omega
    refine wp_aload_n (n := 22) K dX12_town_21 rfl rfl ?_
    refine wp_getF (n := 25) K dX12_town_22 rfl fl_X12_7 rfl (liS rfl) rfl rfl ?_
    refine wp_iconst (n := 26) K dX12_town_25 rfl ?_
    refine wp_iald (n := 27) K dX12_town_26 rfl rfl (liS rfl) ⟨by omega, by omega, by omega⟩ ?_
    try simp only [up_same, up_up, up_ne, ne_eq, Nat.reduceEqDiff, not_false_eq_true, Int.reduceToNat, Int.toNat_natCast]
    refine wp_if_ne (n := 30) K dX12_town_27 rfl (tgt := 32) (by decide) ⟨by omega, by omega⟩ (fun c27 => ?_) (fun c27 => ?_)
    rotate_left
    · exact absurd c27 g3
    refine wp_aload_n (n := 33) K dX12_town_32 rfl rfl ?_
    refine wp_invV_n (n := 36) K dX12_town_33 rfl cf_X12_284 (m_keep _ _ h6) rfl rfl rfl (liS rfl) rfl (by decide) ⟨Nat.le_refl _, Nat.le_refl _⟩ (Nat.le_of_ble_eq_true rfl) ?_
    refine wp_aload_n (n := 37) K dX12_town_36 rfl rfl ?_
    refine wp_iload_n (n := 38) K dX12_town_37 rfl rfl ?_
    refine wp_bipush (n := 40) K dX12_town_38 rfl rfl ?_
    refine wp_imul (n := 41) K dX12_town_40 rfl ?_
    refine wp_iconst (n := 42) K dX12_town_41 rfl ?_
    refine wp_iadd (n := 43) K dX12_town_42 rfl ?_
    refine wp_putI (n := 46) K dX12_town_43 rfl fl_X12_324 rfl (liS rfl) (Or.inl rfl) rfl rfl ?_
    try simp only [up_same, up_up, up_ne, ne_eq, Nat.reduceEqDiff, not_false_eq_true, Int.reduceToNat, Int.toNat_natCast]
    generalize hκ : keepA (M 78) = κ at *
    rw [show (a : Int) * 9 + 4 = ((a * 9 + 4 : Nat) : Int) by omega]
    refine wp_iconst (n := 47) K dX12_town_46 rfl ?_
    refine wp_istore_n (n := 48) K dX12_town_47 rfl (by decide) ?_
    refine wp_iconst (n := 49) K dX12_town_48 rfl ?_
    refine wp_istore (n := 51) K dX12_town_49 rfl (by decide) ?_
    have key : ∀ (σ τ β : Nat → Int), up (up (up M 78 σ) 77 β) 78 τ = up (up M 78 τ) 77 β := fun σ τ β => by rw [up_comm _ _ _ (by decide : (77 : Nat) ≠ 78), up_up]
    refine (dn N (Q := fun k => ∀ (w4 w5 w6 w7 : Value), Wp E1 X 51 [.ref 77, .int (z (a : Int)), .int (z (N : Int)), .int (z ((townT κ (a * 9 + 4) k).2.2 : Int)), .int (z (k : Int)), w4, w5, w6, w7] [] S (up (up M 78 (townT κ (a * 9 + 4) k).1) 77 (up (M 77) 31 ((townT κ (a * 9 + 4) k).2.1 : Int)))) (fun k hk ih w4 w5 w6 w7 => ?_) 0 (by omega)) mkV mkV mkV mkV
    obtain ⟨t1, t2, t3, t4, t5⟩ := hT k
    refine wp_iload (n := 53) K dX12_town_51 rfl rfl ?_
    refine wp_iload_n (n := 54) K dX12_town_53 rfl rfl ?_
    refine wp_icmp_ge (n := 57) K dX12_town_54 rfl (tgt := 197) (by decide) ⟨by omega, by omega⟩ ⟨by omega, by omega⟩ (fun c54 => ?_) (fun c54 => ?_)
    · refine wp_iload_n (n := 198) K dX12_town_197 rfl rfl ?_
      refine ret_i K dX12_town_198 ?_ rfl ?_ ⟨Nat.le_refl _, Nat.le_refl _⟩
      · rw [show k = N by omega]
      · rw [show k = N by omega]
    · have ih2 := ih (by omega)
      unfold townT townS at ih2
      generalize (townT κ (a * 9 + 4) k).1 = σ at *
      generalize (townT κ (a * 9 + 4) k).2.1 = x at *
      generalize (townT κ (a * 9 + 4) k).2.2 = did at *
      have hwσ : WH σ := t1.wh (by omega)
      obtain ⟨c3, hc3⟩ : ∃ c3 : Nat, σ 3 = c3 := ⟨(σ 3).toNat, by omega⟩
      rw [hc3, Int.toNat_natCast] at ih2
      have hh : x % c3 < 10 := Nat.lt_of_lt_of_le (Nat.mod_lt _ (by omega)) (by have := t1.1; omega)
      obtain ⟨n1, n2⟩ := hwσ.nr hh
      refine wp_aload_n (n := 58) K dX12_town_57 rfl rfl ?_
      refine wp_aload_n (n := 59) K dX12_town_58 rfl rfl ?_
      refine wp_getF (n := 62) K dX12_town_59 rfl fl_X12_7 rfl (liS rfl) rfl rfl ?_
      refine wp_iconst (n := 63) K dX12_town_62 rfl ?_
      refine wp_iald (n := 64) K dX12_town_63 rfl rfl (liS rfl) ⟨by omega, by omega, by omega⟩ ?_
      try simp only [up_same, up_up, up_ne, ne_eq, Nat.reduceEqDiff, not_false_eq_true, Int.reduceToNat, Int.toNat_natCast]
      rw [hc3]
      refine wp_invV_i (n := 67) K dX12_town_64 rfl cf_X12_333 (m_draw c3 x (by omega) (by omega) t3 _ _ rfl) rfl rfl rfl (liS rfl) rfl (by decide) ⟨Nat.le_refl _, Nat.le_refl _⟩ (Nat.le_of_ble_eq_true rfl) ?_
      simp only [up_same, up_up]
      refine wp_istore (n := 69) K dX12_town_67 rfl (by decide) ?_
      refine wp_aload_n (n := 70) K dX12_town_69 rfl rfl ?_
      refine wp_getF (n := 73) K dX12_town_70 rfl fl_X12_7 rfl (liS rfl) rfl rfl ?_
      refine wp_iload (n := 75) K dX12_town_73 rfl rfl ?_
      refine wp_invS_i (n := 78) K dX12_town_75 rfl cf_X12_77 (m_houseAt _ _ _) rfl rfl (by decide) ⟨Nat.le_refl _, Nat.le_refl _⟩ (Nat.le_of_ble_eq_true rfl) ?_
      refine wp_iconst (n := 79) K dX12_town_78 rfl ?_
      refine wp_iadd (n := 80) K dX12_town_79 rfl ?_
      refine wp_iald (n := 81) K dX12_town_80 rfl rfl (liS rfl) ⟨by omega, by omega, by omega⟩ ?_
      try simp only [up_same, up_up, up_ne, ne_eq, Nat.reduceEqDiff, not_false_eq_true, Int.reduceToNat, Int.toNat_natCast]
      rw [show (70 + 3 * ((x % c3 : Nat) : Int) + 2).toNat = 72 + 3 * (x % c3) by omega, n1]
      have hcl := cnt_le 12 (nrN σ (x % c3))
      refine wp_invS_i (n := 84) K dX12_town_81 rfl cf_X12_70 (m_bits _ (by omega) _ _) rfl rfl (by decide) ⟨Nat.le_refl _, Nat.le_refl _⟩ (Nat.le_of_ble_eq_true rfl) ?_
      refine wp_istore (n := 86) K dX12_town_84 rfl (by decide) ?_
      refine wp_iload (n := 88) K dX12_town_86 rfl rfl ?_
      refine wp_if_ne (n := 91) K dX12_town_88 rfl (tgt := 94) (by decide) ⟨by omega, by omega⟩ (fun c88 => ?_) (fun c88 => ?_)
      · have hc0 : cnt 12 (nrN σ (x % c3)) ≠ 0 := by omega
        dsimp only at ih2
        rw [if_neg hc0] at ih2
        have hx1 := nxd_lt x
        have ht := nthB_ok (n := nrN σ (x % c3)) (w := nxd x % cnt 12 (nrN σ (x % c3))) n2 (Nat.mod_lt _ (by omega))
        refine wp_aload_n (n := 95) K dX12_town_94 rfl rfl ?_
        refine wp_iload (n := 97) K dX12_town_95 rfl rfl ?_
        refine wp_invV_i (n := 100) K dX12_town_97 rfl cf_X12_333 (m_draw _ (nxd x) (by omega) (by omega) (by omega) _ _ rfl) rfl rfl rfl (liS rfl) rfl (by decide) ⟨Nat.le_refl _, Nat.le_refl _⟩ (Nat.le_of_ble_eq_true rfl) ?_
        simp only [up_same, up_up]
        refine wp_istore (n := 102) K dX12_town_100 rfl (by decide) ?_
        refine wp_iconst (n := 103) K dX12_town_102 rfl ?_
        refine wp_istore (n := 105) K dX12_town_103 rfl (by decide) ?_
        have hml : nxd x % cnt 12 (nrN σ (x % c3)) < cnt 12 (nrN σ (x % c3)) := Nat.mod_lt _ (by omega)
        refine m_town_in (M := up (up M 78 σ) 77 (up (M 77) 31 ((nxd (nxd x) : Nat) : Int))) K rfl _ _ _ _ _ (x % c3) hh hwσ 12 0 _ (by omega) (by omega) (by rw [show cnt 0 (nrN _ _) = 0 from rfl, Nat.zero_add]; exact hml) ?_
        show Wp E1 X 166 [_, _, _, _, _, _, _, _, .int (z ((nthB (nrN σ (x % c3)) (nxd x % cnt 12 (nrN σ (x % c3))) : Nat) : Int))] [] S _
        generalize hto : nthB (nrN σ (x % c3)) (nxd x % cnt 12 (nrN σ (x % c3))) = to at *
        have t3b := t1.1
        by_cases hsp : 0 < σ (70 + 3 * (x % c3))
        · rw [if_pos hsp] at ih2
          have hcl2 : canL σ ((x % c3 : Nat) : Int) (to : Int) := by
            refine ⟨⟨by omega, by rw [hc3]; have := Nat.mod_lt x (show 0 < c3 by omega); omega⟩, ⟨by omega, ?_⟩, by rw [Int.toNat_natCast, Int.toNat_natCast]; exact ht.1, by rw [Int.toNat_natCast]; exact hsp⟩
            have q1 := hN (x % c3) hh
            have q2 : nrN σ (x % c3) < 2 ^ c3 := by
              have e1 : σ (72 + 3 * (x % c3)) = M 78 (72 + 3 * (x % c3)) := by rw [t5 _ hh, ← hκ, keepA_h _ h6 _ (by omega) (by omega)]
              have e2 : (M 78 3).toNat = c3 := by omega
              rw [e2, p2_c, ← e1, n1] at q1
              omega
            rw [hc3]
            rcases Nat.lt_or_ge to c3 with q | q
            · omega
            · have := Nat.testBit_lt_two_pow (Nat.lt_of_lt_of_le q2 (Nat.pow_le_pow_right (by decide) q))
              rw [ht.1] at this; cases this
          refine wp_aload_n (n := 167) K dX12_town_166 rfl rfl ?_
          refine wp_iload (n := 169) K dX12_town_167 rfl rfl ?_
          refine wp_iload (n := 171) K dX12_town_169 rfl rfl ?_
          refine wp_invV_i (n := 174) K dX12_town_171 rfl cf_X12_287 (m_canLend _ _ (by unfold InR; omega) (by unfold InR; omega) _ _ hwσ true ⟨fun _ => hcl2, fun _ => rfl⟩) rfl rfl rfl (liS rfl) rfl (by decide) ⟨Nat.le_refl _, Nat.le_refl _⟩ (Nat.le_of_ble_eq_true rfl) ?_
          refine wp_if_ne_b (n := 177) K dX12_town_174 rfl (tgt := 180) (by decide) (fun c174 => ?_) (fun c174 => ?_)
          · refine wp_aload_n (n := 181) K dX12_town_180 rfl rfl ?_
            refine wp_iload (n := 183) K dX12_town_181 rfl rfl ?_
            refine wp_iload (n := 185) K dX12_town_183 rfl rfl ?_
            refine wp_invV_n (n := 188) K dX12_town_185 rfl cf_X12_290 (m_lends _ _ hh ht.2 _ _) rfl rfl rfl (liS rfl) rfl (by decide) ⟨Nat.le_refl _, Nat.le_refl _⟩ (Nat.le_of_ble_eq_true rfl) ?_
            refine wp_iinc (n := 191) K dX12_town_188 rfl rfl (by decide) ?_
            refine wp_iinc (n := 194) K dX12_town_191 rfl rfl (by decide) ?_
            refine wp_goto K dX12_town_194 (tgt := 51) (by decide) ?_
            rw [show up (up M 78 σ) 77 (up (M 77) 31 ((nxd (nxd x) : Nat) : Int)) 78 = σ from rfl, key]
            exact ih2 _ _ _ _
          · cases c174
        · rw [if_neg hsp] at ih2
          refine wp_aload_n (n := 167) K dX12_town_166 rfl rfl ?_
          refine wp_iload (n := 169) K dX12_town_167 rfl rfl ?_
          refine wp_iload (n := 171) K dX12_town_169 rfl rfl ?_
          refine wp_invV_i (n := 174) K dX12_town_171 rfl cf_X12_287 (m_canLend _ _ (by unfold InR; omega) (by unfold InR; omega) _ _ hwσ false ⟨fun q => (by cases q), fun q => absurd q.2.2.2 (by rw [Int.toNat_natCast]; exact hsp)⟩) rfl rfl rfl (liS rfl) rfl (by decide) ⟨Nat.le_refl _, Nat.le_refl _⟩ (Nat.le_of_ble_eq_true rfl) ?_
          refine wp_if_ne_b (n := 177) K dX12_town_174 rfl (tgt := 180) (by decide) (fun c174 => ?_) (fun c174 => ?_)
          · cases c174
          · refine wp_goto K dX12_town_177 (tgt := 191) (by decide) ?_
            refine wp_iinc (n := 194) K dX12_town_191 rfl rfl (by decide) ?_
            refine wp_goto K dX12_town_194 (tgt := 51) (by decide) ?_
            exact ih2 _ _ _ _
      · have hc0 : cnt 12 (nrN σ (x % c3)) = 0 := by omega
        dsimp only at ih2
        rw [if_pos hc0] at ih2
        refine wp_goto K dX12_town_91 (tgt := 191) (by decide) ?_
        refine wp_iinc (n := 194) K dX12_town_191 rfl rfl (by decide) ?_
        refine wp_goto K dX12_town_194 (tgt := 51) (by decide) ?_
        exact ih2 _ _ _ _
  · intro hno
    refine Ct.mk [.ref 77, .int (z s), .int (z n), mkV, mkV, mkV, mkV, mkV, mkV] (by decide) rfl (Nat.le_of_ble_eq_true rfl) (fun X K => ?_)
    refine wp_iload_n (n := 1) K dX12_town_0 rfl rfl ?_
    refine wp_iconst (n := 2) K dX12_town_1 rfl ?_
    refine wp_sipush (n := 5) K dX12_town_2 rfl rfl ?_
    refine wp_invS_i (n := 8) K dX12_town_5 rfl cf_X12_62 (m_isIn _ _ _ (by unfold InR; omega) (by unfold InR; omega) (by unfold InR; omega) _ _) rfl rfl (by decide) ⟨Nat.le_refl _, Nat.le_refl _⟩ (Nat.le_of_ble_eq_true rfl) ?_
    refine wp_if_eq_b (n := 11) K dX12_town_8 rfl (tgt := 30) (by decide) (fun c8 => ?_) (fun c8 => ?_)
    · refine wp_iconst (n := 31) K dX12_town_30 rfl ?_
      refine ret_i K dX12_town_31 ?_ rfl ?_ ⟨Nat.le_refl _, Nat.le_refl _⟩
      all_goals rfl
    have g1 := of_decide_eq_true c8
    refine wp_iload_n (n := 12) K dX12_town_11 rfl rfl ?_
    refine wp_iconst (n := 13) K dX12_town_12 rfl ?_
    refine wp_bipush (n := 15) K dX12_town_13 rfl rfl ?_
    refine wp_invS_i (n := 18) K dX12_town_15 rfl cf_X12_62 (m_isIn _ _ _ (by unfold InR; omega) (by unfold InR; omega) (by unfold InR; omega) _ _) rfl rfl (by decide) ⟨Nat.le_refl _, Nat.le_refl _⟩ (Nat.le_of_ble_eq_true rfl) ?_
    refine wp_if_eq_b (n := 21) K dX12_town_18 rfl (tgt := 30) (by decide) (fun c18 => ?_) (fun c18 => ?_)
    · refine wp_iconst (n := 31) K dX12_town_30 rfl ?_
      refine ret_i K dX12_town_31 ?_ rfl ?_ ⟨Nat.le_refl _, Nat.le_refl _⟩
      all_goals rfl
    have g2 := of_decide_eq_true c18
    refine wp_aload_n (n := 22) K dX12_town_21 rfl rfl ?_
    refine wp_getF (n := 25) K dX12_town_22 rfl fl_X12_7 rfl (liS rfl) rfl rfl ?_
    refine wp_iconst (n := 26) K dX12_town_25 rfl ?_
    refine wp_iald (n := 27) K dX12_town_26 rfl rfl (liS rfl) ⟨by omega, by omega, by omega⟩ ?_
    try simp only [up_same, up_up, up_ne, ne_eq, Nat.reduceEqDiff, not_false_eq_true, Int.reduceToNat, Int.toNat_natCast]
    refine wp_if_ne (n := 30) K dX12_town_27 rfl (tgt := 32) (by decide) ⟨by omega, by omega⟩ (fun c27 => ?_) (fun c27 => ?_)
    · exact absurd ⟨g1, g2, c27⟩ hno
    · refine wp_iconst (n := 31) K dX12_town_30 rfl ?_
      refine ret_i K dX12_town_31 ?_ rfl ?_ ⟨Nat.le_refl _, Nat.le_refl _⟩
      all_goals rfl
