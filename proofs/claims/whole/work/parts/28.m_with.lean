/-- the sets from 0 on: the best so far (-1: none) -/
def withOk (σ : Nat → Int) (L s : Nat) (b : Int) (k : Nat) : Bool := k.testBit s && (decide (wo k L = 0) && ((decide (b < 0) || decide (cnt 12 k < cnt 12 b.toNat)) && standB σ (wo L k)))
def withT (σ : Nat → Int) (L s : Nat) : Nat → Int
  | 0 => -1
  | k + 1 => if withOk σ L s (withT σ L s k) k = true then (k : Int) else withT σ L s k
theorem withT_r (σ : Nat → Int) (L s k : Nat) : withT σ L s k = -1 ∨ (0 ≤ withT σ L s k ∧ withT σ L s k < k) := by
  induction k with
  | zero => exact Or.inl rfl
  | succ k ih =>
    unfold withT
    split
    · exact Or.inr (by omega)
    · omega
theorem bI_in (b : Bool) : InR (bI b) := by rcases bI_01 b with h | h <;> rw [h] <;> exact ⟨by decide, by decide⟩

theorem m_with (s : Int) (hs : InR s) (S : ST) (M : MT) (hw : WS (M 78)) (L : Nat) (hL : M 78 1 = L) (hL2 : L < 4096) : ((0 ≤ s ∧ s < M 78 0) ∧ L.testBit s.toNat = true → Ct E1 yX12_with cX12_with 4 (some .int) rm_X12_with [.ref 77, .int (z s)] S M (Pi (withT (M 78) L s.toNat (2 ^ (M 78 0).toNat)) S M)) ∧ (¬ ((0 ≤ s ∧ s < M 78 0) ∧ L.testBit s.toNat = true) → Ct E1 yX12_with cX12_with 4 (some .int) rm_X12_with [.ref 77, .int (z s)] S M (Pi (-1) S M)) := by
  have h0 := hw.1
  have hn0 : M 78 0 = ((M 78 0).toNat : Int) := by omega
  constructor
  · rintro ⟨g1, g2⟩
    obtain ⟨a, rfl⟩ : ∃ a : Nat, s = a := ⟨s.toNat, by omega⟩
    rw [Int.toNat_natCast] at g2 ⊢
    have hp := p2_le (show (M 78 0).toNat ≤ 12 by omega)
    have hp1 : 1 ≤ (2 ^ (M 78 0).toNat : Nat) := Nat.one_le_two_pow
    generalize hN : (2 ^ (M 78 0).toNat : Nat) = N at hp hp1 ⊢
    refine Ct.mk [.ref 77, .int (z (a : Int)), mkV, mkV] (by decide) rfl (Nat.le_of_ble_eq_true rfl) (fun X K => ?_)
    refine wp_aload_n (n := 1) K dX12_with_0 rfl rfl ?_
    refine wp_iload_n (n := 2) K dX12_with_1 rfl rfl ?_
    refine wp_invV_i (n := 5) K dX12_with_2 rfl cf_X12_272 (m_isStone _ (by unfold InR; omega) _ (by omega) _ _ hn0) rfl rfl rfl (liS rfl) rfl (by decide) ⟨Nat.le_refl _, Nat.le_refl _⟩ (Nat.le_of_ble_eq_true rfl) ?_
    refine wp_if_eq_b (n := 8) K dX12_with_5 rfl (tgt := 21) (by decide) (fun c5 => ?_) (fun c5 => ?_)
    · have := of_decide_eq_false c5; omega
    refine wp_aload_n (n := 9) K dX12_with_8 rfl rfl ?_
    refine wp_getF (n := 12) K dX12_with_9 rfl fl_X12_7 rfl (liS rfl) rfl rfl ?_
    refine wp_iconst (n := 13) K dX12_with_12 rfl ?_
    refine wp_iald (n := 14) K dX12_with_13 rfl rfl (liS rfl) ⟨by omega, by omega, by omega⟩ ?_
    try simp only [up_same, up_up, Int.reduceToNat, Int.toNat_natCast]
    refine wp_iload_n (n := 15) K dX12_with_14 rfl rfl ?_
    rw [hL]
    refine wp_invS_i (n := 18) K dX12_with_15 rfl cf_X12_249 (m_has _ _ (by omega) (by omega) _ _) rfl rfl (by decide) ⟨Nat.le_refl _, Nat.le_refl _⟩ (Nat.le_of_ble_eq_true rfl) ?_
    refine wp_if_ne_b (n := 21) K dX12_with_18 rfl (tgt := 23) (by decide) (fun c18 => ?_) (fun c18 => ?_)
    rotate_left
    · rw [g2] at c18; cases c18
    refine wp_iconst (n := 24) K dX12_with_23 rfl ?_
    refine wp_istore_n (n := 25) K dX12_with_24 rfl (by decide) ?_
    refine wp_iconst (n := 26) K dX12_with_25 rfl ?_
    refine wp_istore_n (n := 27) K dX12_with_26 rfl (by decide) ?_
    refine dn N (Q := fun k => Wp E1 X 27 [.ref 77, .int (z (a : Int)), .int (z (withT (M 78) L a k)), .int (z (k : Int))] [] S M) (fun k hk ih => ?_) 0 (by omega)
    have hr := withT_r (M 78) L a k
    refine wp_iload_n (n := 28) K dX12_with_27 rfl rfl ?_
    refine wp_aload_n (n := 29) K dX12_with_28 rfl rfl ?_
    refine wp_invV_i (n := 32) K dX12_with_29 rfl cf_X12_66 (m_all _ (by omega) _ _ hn0) rfl rfl rfl (liS rfl) rfl (by decide) ⟨Nat.le_refl _, Nat.le_refl _⟩ (Nat.le_of_ble_eq_true rfl) ?_
    rw [hN]
    refine wp_icmp_gt (n := 35) K dX12_with_32 rfl (tgt := 99) (by decide) ⟨by omega, by omega⟩ ⟨by omega, by omega⟩ (fun c32 => ?_) (fun c32 => ?_)
    · refine wp_iload_n (n := 100) K dX12_with_99 rfl rfl ?_
      refine ret_i K dX12_with_100 ?_ rfl ?_ ⟨Nat.le_refl _, Nat.le_refl _⟩
      · rw [show k = N by omega]
      · rfl
    · have ih := ih (by omega)
      unfold withT at ih
      generalize withT (M 78) L a k = b at *
      unfold withOk at ih
      have hwl := wo_le L k
      have hwk := wo_le k L
      refine wp_iload_n (n := 36) K dX12_with_35 rfl rfl ?_
      refine wp_iload_n (n := 37) K dX12_with_36 rfl rfl ?_
      refine wp_invS_i (n := 40) K dX12_with_37 rfl cf_X12_249 (m_has _ _ (by omega) (by omega) _ _) rfl rfl (by decide) ⟨Nat.le_refl _, Nat.le_refl _⟩ (Nat.le_of_ble_eq_true rfl) ?_
      refine wp_if_eq_b (n := 43) K dX12_with_40 rfl (tgt := 93) (by decide) (fun c40 => ?_) (fun c40 => ?_)
      · rw [c40] at ih
        refine wp_iinc (n := 96) K dX12_with_93 rfl rfl (by decide) ?_
        refine wp_goto K dX12_with_96 (tgt := 27) (by decide) ?_
        exact ih
      · rw [c40, Bool.true_and] at ih
        refine wp_iload_n (n := 44) K dX12_with_43 rfl rfl ?_
        refine wp_aload_n (n := 45) K dX12_with_44 rfl rfl ?_
        refine wp_getF (n := 48) K dX12_with_45 rfl fl_X12_7 rfl (liS rfl) rfl rfl ?_
        refine wp_iconst (n := 49) K dX12_with_48 rfl ?_
        refine wp_iald (n := 50) K dX12_with_49 rfl rfl (liS rfl) ⟨by omega, by omega, by omega⟩ ?_
        try simp only [up_same, up_up, Int.reduceToNat, Int.toNat_natCast]
        refine wp_iconst (n := 51) K dX12_with_50 rfl ?_
        refine wp_ixor (n := 52) K dX12_with_51 rfl ?_
        refine wp_iand (n := 53) K dX12_with_52 rfl ?_
        rw [hL, bandn_n (by omega) (by omega)]
        refine wp_if_ne (n := 56) K dX12_with_53 rfl (tgt := 93) (by decide) ⟨by omega, by omega⟩ (fun c53 => ?_) (fun c53 => ?_)
        · rw [decide_eq_false (by omega)] at ih
          refine wp_iinc (n := 96) K dX12_with_93 rfl rfl (by decide) ?_
          refine wp_goto K dX12_with_96 (tgt := 27) (by decide) ?_
          exact ih
        · rw [decide_eq_true (by omega), Bool.true_and] at ih
          have hstand : (decide (b < 0) || decide (cnt 12 k < cnt 12 b.toNat)) = true → Wp E1 X 74 [.ref 77, .int (z (a : Int)), .int (z b), .int (z (k : Int))] [] S M := by
            intro hq
            rw [hq, Bool.true_and] at ih
            refine wp_aload_n (n := 75) K dX12_with_74 rfl rfl ?_
            refine wp_aload_n (n := 76) K dX12_with_75 rfl rfl ?_
            refine wp_getF (n := 79) K dX12_with_76 rfl fl_X12_7 rfl (liS rfl) rfl rfl ?_
            refine wp_iconst (n := 80) K dX12_with_79 rfl ?_
            refine wp_iald (n := 81) K dX12_with_80 rfl rfl (liS rfl) ⟨by omega, by omega, by omega⟩ ?_
            try simp only [up_same, up_up, Int.reduceToNat, Int.toNat_natCast]
            refine wp_iload_n (n := 82) K dX12_with_81 rfl rfl ?_
            refine wp_iconst (n := 83) K dX12_with_82 rfl ?_
            refine wp_ixor (n := 84) K dX12_with_83 rfl ?_
            refine wp_iand (n := 85) K dX12_with_84 rfl ?_
            rw [hL, bandn_n (by omega) (by omega)]
            refine wp_invV_i (n := 88) K dX12_with_85 rfl cf_X12_256 (m_standing _ (by omega) _ _ hw) rfl rfl rfl (liS rfl) rfl (by decide) ⟨Nat.le_refl _, Nat.le_refl _⟩ (Nat.le_of_ble_eq_true rfl) ?_
            refine wp_if_eq_b (n := 91) K dX12_with_88 rfl (tgt := 93) (by decide) (fun c88 => ?_) (fun c88 => ?_)
            · rw [c88] at ih
              refine wp_iinc (n := 96) K dX12_with_93 rfl rfl (by decide) ?_
              refine wp_goto K dX12_with_96 (tgt := 27) (by decide) ?_
              exact ih
            · rw [c88] at ih
              refine wp_iload_n (n := 92) K dX12_with_91 rfl rfl ?_
              refine wp_istore_n (n := 93) K dX12_with_92 rfl (by decide) ?_
              refine wp_iinc (n := 96) K dX12_with_93 rfl rfl (by decide) ?_
              refine wp_goto K dX12_with_96 (tgt := 27) (by decide) ?_
              exact ih
          refine wp_iload_n (n := 57) K dX12_with_56 rfl rfl ?_
          refine wp_if_lt (n := 60) K dX12_with_57 rfl (tgt := 74) (by decide) ⟨by omega, by omega⟩ (fun c57 => ?_) (fun c57 => ?_)
          · exact hstand (by rw [decide_eq_true c57]; rfl)
          · obtain ⟨B, rfl⟩ : ∃ B : Nat, b = B := ⟨b.toNat, by omega⟩
            have q1 := cnt_le 12 k
            have q2 := cnt_le 12 B
            refine wp_iload_n (n := 61) K dX12_with_60 rfl rfl ?_
            refine wp_invS_i (n := 64) K dX12_with_61 rfl cf_X12_70 (m_bits _ (by omega) _ _) rfl rfl (by decide) ⟨Nat.le_refl _, Nat.le_refl _⟩ (Nat.le_of_ble_eq_true rfl) ?_
            refine wp_iload_n (n := 65) K dX12_with_64 rfl rfl ?_
            refine wp_invS_i (n := 68) K dX12_with_65 rfl cf_X12_70 (m_bits _ (by omega) _ _) rfl rfl (by decide) ⟨Nat.le_refl _, Nat.le_refl _⟩ (Nat.le_of_ble_eq_true rfl) ?_
            refine wp_icmp_lt (n := 71) K dX12_with_68 rfl (tgt := 74) (by decide) ⟨by omega, by omega⟩ ⟨by omega, by omega⟩ (fun c68 => ?_) (fun c68 => ?_)
            · exact hstand (by rw [Int.toNat_natCast, decide_eq_true (show cnt 12 k < cnt 12 B by omega)]; simp)
            · rw [decide_eq_false (by omega), Int.toNat_natCast, decide_eq_false (by omega)] at ih
              refine wp_goto K dX12_with_71 (tgt := 93) (by decide) ?_
              refine wp_iinc (n := 96) K dX12_with_93 rfl rfl (by decide) ?_
              refine wp_goto K dX12_with_96 (tgt := 27) (by decide) ?_
              exact ih
  · intro hno
    refine Ct.mk [.ref 77, .int (z s), mkV, mkV] (by decide) rfl (Nat.le_of_ble_eq_true rfl) (fun X K => ?_)
    refine wp_aload_n (n := 1) K dX12_with_0 rfl rfl ?_
    refine wp_iload_n (n := 2) K dX12_with_1 rfl rfl ?_
    refine wp_invV_i (n := 5) K dX12_with_2 rfl cf_X12_272 (m_isStone _ (by unfold InR; omega) _ (by omega) _ _ hn0) rfl rfl rfl (liS rfl) rfl (by decide) ⟨Nat.le_refl _, Nat.le_refl _⟩ (Nat.le_of_ble_eq_true rfl) ?_
    refine wp_if_eq_b (n := 8) K dX12_with_5 rfl (tgt := 21) (by decide) (fun c5 => ?_) (fun c5 => ?_)
    · refine wp_iconst (n := 22) K dX12_with_21 rfl ?_
      refine ret_i K dX12_with_22 ?_ rfl ?_ ⟨Nat.le_refl _, Nat.le_refl _⟩
      all_goals rfl
    have g1 := of_decide_eq_true c5
    obtain ⟨a, rfl⟩ : ∃ a : Nat, s = a := ⟨s.toNat, by omega⟩
    rw [Int.toNat_natCast] at hno
    refine wp_aload_n (n := 9) K dX12_with_8 rfl rfl ?_
    refine wp_getF (n := 12) K dX12_with_9 rfl fl_X12_7 rfl (liS rfl) rfl rfl ?_
    refine wp_iconst (n := 13) K dX12_with_12 rfl ?_
    refine wp_iald (n := 14) K dX12_with_13 rfl rfl (liS rfl) ⟨by omega, by omega, by omega⟩ ?_
    try simp only [up_same, up_up, Int.reduceToNat, Int.toNat_natCast]
    refine wp_iload_n (n := 15) K dX12_with_14 rfl rfl ?_
    rw [hL]
    refine wp_invS_i (n := 18) K dX12_with_15 rfl cf_X12_249 (m_has _ _ (by omega) (by omega) _ _) rfl rfl (by decide) ⟨Nat.le_refl _, Nat.le_refl _⟩ (Nat.le_of_ble_eq_true rfl) ?_
    refine wp_if_ne_b (n := 21) K dX12_with_18 rfl (tgt := 23) (by decide) (fun c18 => ?_) (fun c18 => ?_)
    · exact absurd ⟨by omega, c18⟩ hno
    · refine wp_iconst (n := 22) K dX12_with_21 rfl ?_
      refine ret_i K dX12_with_22 ?_ rfl ?_ ⟨Nat.le_refl _, Nat.le_refl _⟩
      all_goals rfl
/-- one look of one house at another: how far it is -/
def farS (σ : Nat → Int) (t h k : Nat) (f : Nat → Int) : Nat → Int := if h ≠ t ∧ 0 < σ (70 + 3 * h) ∧ (nrN σ h).testBit k = true ∧ f k + 1 < f h then up f h (f k + 1) else f
def farK (σ : Nat → Int) (t h : Nat) (f : Nat → Int) : Nat → Nat → Int
  | 0 => f
  | k + 1 => farS σ t h k (farK σ t h f k)
def farH (σ : Nat → Int) (t : Nat) (f : Nat → Int) : Nat → Nat → Int
  | 0 => f
  | h + 1 => farK σ t h (farH σ t f h) (σ 3).toNat
def far0 (t : Nat) (f : Nat → Int) : Nat → Int := fun h => if h < 10 then (if h = t then 1 else 100000000) else f h
def farT (σ : Nat → Int) (t : Nat) (f : Nat → Int) : Nat → Nat → Int
  | 0 => far0 t f
  | u + 1 => farH σ t (farT σ t f u) (σ 3).toNat
def farR (f : Nat → Int) : Prop := ∀ h : Nat, h < 10 → 1 ≤ f h ∧ f h ≤ 100000000
theorem farS_r {σ : Nat → Int} {t h k : Nat} {f : Nat → Int} (hf : farR f) (hh : h < 10) (hk : k < 10) : farR (farS σ t h k f) := by
  unfold farS
  split
  · rename_i q
    intro j hj
    by_cases he : j = h
    · subst he; rw [up_same]; have := hf k hk; have := hf j hj; omega
    · rw [up_ne _ _ he]; exact hf j hj
  · exact hf
theorem farK_r {σ : Nat → Int} {t h : Nat} {f : Nat → Int} (hf : farR f) (hh : h < 10) : ∀ k, k ≤ 10 → farR (farK σ t h f k) := by
  intro k
  induction k with
  | zero => exact fun _ => hf
  | succ k ih => exact fun hk => farS_r (ih (by omega)) hh (by omega)
theorem farH_r {σ : Nat → Int} {t : Nat} {f : Nat → Int} (hf : farR f) (h3 : σ 3 ≤ 10) : ∀ h, h ≤ 10 → farR (farH σ t f h) := by
  intro h
  induction h with
  | zero => exact fun _ => hf
  | succ h ih => exact fun hh => farK_r (ih (by omega)) (by omega) _ (by omega)
theorem farT_r {σ : Nat → Int} {t : Nat} {f : Nat → Int} (h3 : σ 3 ≤ 10) : ∀ u, farR (farT σ t f u) := by
  intro u
  induction u with
  | zero => intro h hh; unfold farT far0; rw [if_pos hh]; split <;> omega
  | succ u ih => exact farH_r ih h3 _ (by omega)

theorem m_findFar (t : Nat) (ht : t < 10) (S : ST) (M : MT) (hw : WH (M 78)) : Ct E1 yX12_findFar cX12_findFar 5 none rm_X12_findFar [.ref 77, .int (z (t : Int))] S M (Pn S (up M 89 (farT (M 78) t (M 89) (M 78 3).toNat))) := by
  have h3 := hw.1
  obtain ⟨N, hN⟩ : ∃ N : Nat, M 78 3 = N := ⟨(M 78 3).toNat, by omega⟩
  refine Ct.mk [.ref 77, .int (z (t : Int)), mkV, mkV, mkV] (by decide) rfl (Nat.le_of_ble_eq_true rfl) (fun X K => ?_)
  rw [hN, Int.toNat_natCast] at K
  have i0 : ∀ h : Nat, (70 + 3 * (h : Int)).toNat = 70 + 3 * h := fun h => by omega
  have i2 : ∀ h : Nat, (70 + 3 * (h : Int) + 2).toNat = 72 + 3 * h := fun h => by omega
  have e0 : M = up M 89 (fun h => if h < 0 then (if h = t then 1 else 100000000) else M 89 h) := by
    funext b j; unfold up; split
    · rename_i q; subst q; simp
    · rfl
  refine wp_iconst (n := 1) K dX12_findFar_0 rfl ?_
  refine wp_istore_n (n := 2) K dX12_findFar_1 rfl (by decide) ?_
  rw [e0]
  refine dn 10 (Q := fun k => Wp E1 X 2 [.ref 77, .int (z (t : Int)), .int (z (k : Int)), mkV, mkV] [] S (up M 89 (fun h => if h < k then (if h = t then 1 else 100000000) else M 89 h))) (fun k hk ih => ?_) 0 (by omega)
  refine wp_iload_n (n := 3) K dX12_findFar_2 rfl rfl ?_
  refine wp_bipush (n := 5) K dX12_findFar_3 rfl rfl ?_
  refine wp_icmp_ge (n := 8) K dX12_findFar_5 rfl (tgt := 32) (by decide) ⟨by omega, by omega⟩ ⟨by omega, by omega⟩ (fun c5 => ?_) (fun c5 => ?_)
  · rw [show (fun h => if h < k then (if h = t then (1 : Int) else 100000000) else M 89 h) = farT (M 78) t (M 89) 0 from by rw [show k = 10 by omega]; rfl]
    refine wp_iconst (n := 33) K dX12_findFar_32 rfl ?_
    refine wp_istore_n (n := 34) K dX12_findFar_33 rfl (by decide) ?_
    refine dn N (Q := fun u => ∀ (a1 a2 : Value), Wp E1 X 34 [.ref 77, .int (z (t : Int)), .int (z (u : Int)), a1, a2] [] S (up M 89 (farT (M 78) t (M 89) u))) (fun u hu ihu a1 a2 => ?_) 0 (by omega) mkV mkV
    have hfT := farT_r (σ := M 78) (t := t) (f := M 89) (by omega) u
    refine wp_iload_n (n := 35) K dX12_findFar_34 rfl rfl ?_
    refine wp_aload_n (n := 36) K dX12_findFar_35 rfl rfl ?_
    refine wp_getF (n := 39) K dX12_findFar_36 rfl fl_X12_7 rfl (liS rfl) rfl rfl ?_
    refine wp_iconst (n := 40) K dX12_findFar_39 rfl ?_
    refine wp_iald (n := 41) K dX12_findFar_40 rfl rfl (liS rfl) ⟨by omega, by omega, by omega⟩ ?_
    try simp only [up_same, up_up, up_ne, ne_eq, Nat.reduceEqDiff, not_false_eq_true, Int.reduceToNat, Int.toNat_natCast]
    rw [hN]
    refine wp_icmp_ge (n := 44) K dX12_findFar_41 rfl (tgt := 157) (by decide) ⟨by omega, by omega⟩ ⟨by omega, by omega⟩ (fun c41 => ?_) (fun c41 => ?_)
    · refine ret_n K dX12_findFar_157 rfl ?_ ⟨Nat.le_refl _, Nat.le_refl _⟩
      rw [show u = N by omega]
    · have ihu := ihu (by omega)
      unfold farT at ihu
      rw [hN, Int.toNat_natCast] at ihu
      generalize farT (M 78) t (M 89) u = f at *
      refine wp_iconst (n := 45) K dX12_findFar_44 rfl ?_
      refine wp_istore_n (n := 46) K dX12_findFar_45 rfl (by decide) ?_
      refine dn N (Q := fun h => ∀ (a2 : Value), Wp E1 X 46 [.ref 77, .int (z (t : Int)), .int (z (u : Int)), .int (z (h : Int)), a2] [] S (up M 89 (farH (M 78) t f h))) (fun h hh ihh a2 => ?_) 0 (by omega) a2
      have hfH := farH_r (σ := M 78) (t := t) hfT (by omega) h (by omega)
      refine wp_iload_n (n := 47) K dX12_findFar_46 rfl rfl ?_
      refine wp_aload_n (n := 48) K dX12_findFar_47 rfl rfl ?_
      refine wp_getF (n := 51) K dX12_findFar_48 rfl fl_X12_7 rfl (liS rfl) rfl rfl ?_
      refine wp_iconst (n := 52) K dX12_findFar_51 rfl ?_
      refine wp_iald (n := 53) K dX12_findFar_52 rfl rfl (liS rfl) ⟨by omega, by omega, by omega⟩ ?_
      try simp only [up_same, up_up, up_ne, ne_eq, Nat.reduceEqDiff, not_false_eq_true, Int.reduceToNat, Int.toNat_natCast]
      rw [hN]
      refine wp_icmp_ge (n := 56) K dX12_findFar_53 rfl (tgt := 151) (by decide) ⟨by omega, by omega⟩ ⟨by omega, by omega⟩ (fun c53 => ?_) (fun c53 => ?_)
      · refine wp_iinc (n := 154) K dX12_findFar_151 rfl rfl (by decide) ?_
        refine wp_goto K dX12_findFar_154 (tgt := 34) (by decide) ?_
        rw [show h = N by omega]
        exact ihu _ _
      · have ihh := ihh (by omega)
        unfold farH at ihh
        rw [hN, Int.toNat_natCast] at ihh
        generalize farH (M 78) t f h = g at *
        obtain ⟨w1, -, w3⟩ := hw.2 h (by omega)
        obtain ⟨n1, n2⟩ := hw.nr (show h < 10 by omega)
        refine wp_iconst (n := 57) K dX12_findFar_56 rfl ?_
        refine wp_istore (n := 59) K dX12_findFar_57 rfl (by decide) ?_
        refine dn N (Q := fun k => Wp E1 X 59 [.ref 77, .int (z (t : Int)), .int (z (u : Int)), .int (z (h : Int)), .int (z (k : Int))] [] S (up M 89 (farK (M 78) t h g k))) (fun k hk ihk => ?_) 0 (by omega)
        have hfK := farK_r (σ := M 78) (t := t) (h := h) hfH (by omega) k (by omega)
        refine wp_iload (n := 61) K dX12_findFar_59 rfl rfl ?_
        refine wp_aload_n (n := 62) K dX12_findFar_61 rfl rfl ?_
        refine wp_getF (n := 65) K dX12_findFar_62 rfl fl_X12_7 rfl (liS rfl) rfl rfl ?_
        refine wp_iconst (n := 66) K dX12_findFar_65 rfl ?_
        refine wp_iald (n := 67) K dX12_findFar_66 rfl rfl (liS rfl) ⟨by omega, by omega, by omega⟩ ?_
        try simp only [up_same, up_up, up_ne, ne_eq, Nat.reduceEqDiff, not_false_eq_true, Int.reduceToNat, Int.toNat_natCast]
        rw [hN]
        refine wp_icmp_ge (n := 70) K dX12_findFar_67 rfl (tgt := 145) (by decide) ⟨by omega, by omega⟩ ⟨by omega, by omega⟩ (fun c67 => ?_) (fun c67 => ?_)
        · refine wp_iinc (n := 148) K dX12_findFar_145 rfl rfl (by decide) ?_
          refine wp_goto K dX12_findFar_148 (tgt := 46) (by decide) ?_
          rw [show k = N by omega]
          exact ihh _
        · have ihk := ihk (by omega)
          unfold farK farS at ihk
          generalize farK (M 78) t h g k = q at *
          have r1 := hfK h (by omega)
          have r2 := hfK k (by omega)
          refine wp_iload_n (n := 71) K dX12_findFar_70 rfl rfl ?_
          refine wp_iload_n (n := 72) K dX12_findFar_71 rfl rfl ?_
          refine wp_icmp_eq (n := 75) K dX12_findFar_72 rfl (tgt := 139) (by decide) ⟨by omega, by omega⟩ ⟨by omega, by omega⟩ (fun c72 => ?_) (fun c72 => ?_)
          · rw [if_neg (by omega)] at ihk
            refine wp_iinc (n := 142) K dX12_findFar_139 rfl rfl (by decide) ?_
            refine wp_goto K dX12_findFar_142 (tgt := 59) (by decide) ?_
            exact ihk
          refine wp_aload_n (n := 76) K dX12_findFar_75 rfl rfl ?_
          refine wp_getF (n := 79) K dX12_findFar_76 rfl fl_X12_7 rfl (liS rfl) rfl rfl ?_
          refine wp_iload_n (n := 80) K dX12_findFar_79 rfl rfl ?_
          refine wp_invS_i (n := 83) K dX12_findFar_80 rfl cf_X12_77 (m_houseAt _ _ _) rfl rfl (by decide) ⟨Nat.le_refl _, Nat.le_refl _⟩ (Nat.le_of_ble_eq_true rfl) ?_
          refine wp_iald (n := 84) K dX12_findFar_83 rfl rfl (liS rfl) ⟨by omega, by omega, by omega⟩ ?_
          try simp only [up_same, up_up, up_ne, ne_eq, Nat.reduceEqDiff, not_false_eq_true, Int.reduceToNat, Int.toNat_natCast]
          rw [i0]
          refine wp_if_le (n := 87) K dX12_findFar_84 rfl (tgt := 139) (by decide) ⟨by omega, by omega⟩ (fun c84 => ?_) (fun c84 => ?_)
          · rw [if_neg (by omega)] at ihk
            refine wp_iinc (n := 142) K dX12_findFar_139 rfl rfl (by decide) ?_
            refine wp_goto K dX12_findFar_142 (tgt := 59) (by decide) ?_
            exact ihk
          refine wp_aload_n (n := 88) K dX12_findFar_87 rfl rfl ?_
          refine wp_getF (n := 91) K dX12_findFar_88 rfl fl_X12_7 rfl (liS rfl) rfl rfl ?_
          refine wp_iload_n (n := 92) K dX12_findFar_91 rfl rfl ?_
          refine wp_invS_i (n := 95) K dX12_findFar_92 rfl cf_X12_77 (m_houseAt _ _ _) rfl rfl (by decide) ⟨Nat.le_refl _, Nat.le_refl _⟩ (Nat.le_of_ble_eq_true rfl) ?_
          refine wp_iconst (n := 96) K dX12_findFar_95 rfl ?_
          refine wp_iadd (n := 97) K dX12_findFar_96 rfl ?_
          refine wp_iald (n := 98) K dX12_findFar_97 rfl rfl (liS rfl) ⟨by omega, by omega, by omega⟩ ?_
          try simp only [up_same, up_up, up_ne, ne_eq, Nat.reduceEqDiff, not_false_eq_true, Int.reduceToNat, Int.toNat_natCast]
          rw [i2, n1]
          refine wp_iload (n := 100) K dX12_findFar_98 rfl rfl ?_
          refine wp_invS_i (n := 103) K dX12_findFar_100 rfl cf_X12_249 (m_has _ _ (by omega) (by omega) _ _) rfl rfl (by decide) ⟨Nat.le_refl _, Nat.le_refl _⟩ (Nat.le_of_ble_eq_true rfl) ?_
          refine wp_if_eq_b (n := 106) K dX12_findFar_103 rfl (tgt := 139) (by decide) (fun c103 => ?_) (fun c103 => ?_)
          · rw [if_neg (by rw [c103]; exact fun q => by cases q.2.2.1)] at ihk
            refine wp_iinc (n := 142) K dX12_findFar_139 rfl rfl (by decide) ?_
            refine wp_goto K dX12_findFar_142 (tgt := 59) (by decide) ?_
            exact ihk
          refine wp_aload_n (n := 107) K dX12_findFar_106 rfl rfl ?_
          refine wp_getF (n := 110) K dX12_findFar_107 rfl fl_X12_52 rfl (liS rfl) rfl rfl ?_
          refine wp_iload (n := 112) K dX12_findFar_110 rfl rfl ?_
          refine wp_iald (n := 113) K dX12_findFar_112 rfl rfl (liS rfl) ⟨by omega, by omega, by omega⟩ ?_
          try simp only [up_same, up_up, up_ne, ne_eq, Nat.reduceEqDiff, not_false_eq_true, Int.reduceToNat, Int.toNat_natCast]
          refine wp_iconst (n := 114) K dX12_findFar_113 rfl ?_
          refine wp_iadd (n := 115) K dX12_findFar_114 rfl ?_
          refine wp_aload_n (n := 116) K dX12_findFar_115 rfl rfl ?_
          refine wp_getF (n := 119) K dX12_findFar_116 rfl fl_X12_52 rfl (liS rfl) rfl rfl ?_
          refine wp_iload_n (n := 120) K dX12_findFar_119 rfl rfl ?_
          refine wp_iald (n := 121) K dX12_findFar_120 rfl rfl (liS rfl) ⟨by omega, by omega, by omega⟩ ?_
          try simp only [up_same, up_up, up_ne, ne_eq, Nat.reduceEqDiff, not_false_eq_true, Int.reduceToNat, Int.toNat_natCast]
          refine wp_icmp_ge (n := 124) K dX12_findFar_121 rfl (tgt := 139) (by decide) ⟨by omega, by omega⟩ ⟨by omega, by omega⟩ (fun c121 => ?_) (fun c121 => ?_)
          · rw [if_neg (by omega)] at ihk
            refine wp_iinc (n := 142) K dX12_findFar_139 rfl rfl (by decide) ?_
            refine wp_goto K dX12_findFar_142 (tgt := 59) (by decide) ?_
            exact ihk
          · rw [if_pos ⟨by omega, by omega, c103, by omega⟩] at ihk
            refine wp_aload_n (n := 125) K dX12_findFar_124 rfl rfl ?_
            refine wp_getF (n := 128) K dX12_findFar_125 rfl fl_X12_52 rfl (liS rfl) rfl rfl ?_
            refine wp_iload_n (n := 129) K dX12_findFar_128 rfl rfl ?_
            refine wp_aload_n (n := 130) K dX12_findFar_129 rfl rfl ?_
            refine wp_getF (n := 133) K dX12_findFar_130 rfl fl_X12_52 rfl (liS rfl) rfl rfl ?_
            refine wp_iload (n := 135) K dX12_findFar_133 rfl rfl ?_
            refine wp_iald (n := 136) K dX12_findFar_135 rfl rfl (liS rfl) ⟨by omega, by omega, by omega⟩ ?_
            try simp only [up_same, up_up, up_ne, ne_eq, Nat.reduceEqDiff, not_false_eq_true, Int.reduceToNat, Int.toNat_natCast]
            refine wp_iconst (n := 137) K dX12_findFar_136 rfl ?_
            refine wp_iadd (n := 138) K dX12_findFar_137 rfl ?_
            refine wp_iast (n := 139) K dX12_findFar_138 rfl rfl (liS rfl) (fun _ => rfl) ⟨by omega, by omega, by omega⟩ ?_
            try simp only [up_same, up_up, up_ne, ne_eq, Nat.reduceEqDiff, not_false_eq_true, Int.reduceToNat, Int.toNat_natCast]
            refine wp_iinc (n := 142) K dX12_findFar_139 rfl rfl (by decide) ?_
            refine wp_goto K dX12_findFar_142 (tgt := 59) (by decide) ?_
            exact ihk
  · have ih := ih (by omega)
    have step : ∀ v : Int, v = (if k = t then 1 else 100000000) → Wp E1 X 26 [.ref 77, .int (z (t : Int)), .int (z (k : Int)), mkV, mkV] [] S (up M 89 (up (fun h => if h < k then (if h = t then 1 else 100000000) else M 89 h) k v)) := by
      intro v hv
      have e1 : up (fun h => if h < k then (if h = t then (1 : Int) else 100000000) else M 89 h) k v = fun h => if h < k + 1 then (if h = t then 1 else 100000000) else M 89 h := by
        funext j; unfold up
        by_cases q1 : j = k
        · subst q1; rw [if_pos rfl, if_pos (by omega)]; exact hv
        · rw [if_neg q1]
          by_cases q2 : j < k
          · simp [q2, show j < k + 1 by omega]
          · simp [q2, show ¬ j < k + 1 by omega]
      rw [e1]
      refine wp_iinc (n := 29) K dX12_findFar_26 rfl rfl (by decide) ?_
      refine wp_goto K dX12_findFar_29 (tgt := 2) (by decide) ?_
      exact ih
    refine wp_aload_n (n := 9) K dX12_findFar_8 rfl rfl ?_
    refine wp_getF (n := 12) K dX12_findFar_9 rfl fl_X12_52 rfl (liS rfl) rfl rfl ?_
    refine wp_iload_n (n := 13) K dX12_findFar_12 rfl rfl ?_
    refine wp_iload_n (n := 14) K dX12_findFar_13 rfl rfl ?_
    refine wp_iload_n (n := 15) K dX12_findFar_14 rfl rfl ?_
    refine wp_icmp_ne (n := 18) K dX12_findFar_15 rfl (tgt := 22) (by decide) ⟨by omega, by omega⟩ ⟨by omega, by omega⟩ (fun c15 => ?_) (fun c15 => ?_)
    · refine wp_ldc_w (n := 25) K dX12_findFar_22 rfl (100000000) co_X12_311 ?_
      refine wp_iast (n := 26) K dX12_findFar_25 rfl rfl (liS rfl) (fun _ => rfl) ⟨by omega, by omega, by omega⟩ ?_
      try simp only [up_same, up_up, up_ne, ne_eq, Nat.reduceEqDiff, not_false_eq_true, Int.reduceToNat, Int.toNat_natCast]
      exact step _ (by rw [if_neg (by omega)])
    · refine wp_iconst (n := 19) K dX12_findFar_18 rfl ?_
      refine wp_goto K dX12_findFar_19 (tgt := 25) (by decide) ?_
      refine wp_iast (n := 26) K dX12_findFar_25 rfl rfl (liS rfl) (fun _ => rfl) ⟨by omega, by omega, by omega⟩ ?_
      try simp only [up_same, up_up, up_ne, ne_eq, Nat.reduceEqDiff, not_false_eq_true, Int.reduceToNat, Int.toNat_natCast]
      exact step _ (by rw [if_pos (by omega)])
