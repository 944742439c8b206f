theorem or_lt {n k s : Nat} (hk : k < 2 ^ n) (hs : s < n) : k ||| 2 ^ s < 2 ^ n := Nat.or_lt_two_pow hk (Nat.pow_lt_pow_right (by decide) hs)
theorem or_gt {k s : Nat} (h : k.testBit s = false) : k < k ||| 2 ^ s := by
  rcases Nat.lt_or_eq_of_le (Nat.left_le_or (n := k) (m := 2 ^ s)) with q | q
  · exact q
  · have : (k ||| 2 ^ s).testBit s = true := by rw [Nat.testBit_or, Nat.testBit_two_pow_self]; simp
    rw [← q, h] at this; cases this
theorem mayF_bit {σ τ : Nat → Int} {s set : Nat} (h : mayF σ τ s set = true) : set.testBit s = false := by
  unfold mayF at h
  cases hb : set.testBit s
  · rfl
  · rw [hb] at h; simp at h
def cm0 (n : Nat) (C : Nat → Int) (k : Nat) : Nat → Int := fun j => if j < k then (if j = 0 then 1 else 0) else C j
def cmK (σ τ : Nat → Int) (set : Nat) (C : Nat → Int) : Nat → Nat → Int
  | 0 => C
  | s + 1 => if mayF σ τ s set = true then up (cmK σ τ set C s) (set ||| 2 ^ s) 1 else cmK σ τ set C s
def cmT (σ τ : Nat → Int) (n : Nat) (C : Nat → Int) : Nat → Nat → Int
  | 0 => cm0 n C (2 ^ n)
  | k + 1 => if cmT σ τ n C k k ≠ 0 then cmK σ τ k (cmT σ τ n C k) n else cmT σ τ n C k
def soT (σ τ : Nat → Int) (n : Nat) (C : Nat → Int) : Nat → Nat
  | 0 => 0
  | k + 1 => if cmT σ τ n C k k ≠ 0 ∧ cnt 12 (soT σ τ n C k) < cnt 12 k then k else soT σ τ n C k
theorem soT_lt (σ τ : Nat → Int) (n : Nat) (C : Nat → Int) (k : Nat) : soT σ τ n C k ≤ k ∧ (0 < k → soT σ τ n C k < k) := by
  induction k with
  | zero => exact ⟨Nat.le_refl _, fun h => absurd h (by decide)⟩
  | succ k ih => unfold soT; split <;> omega
theorem cmK_01 {σ τ : Nat → Int} {set n : Nat} {C : Nat → Int} {N : Nat} (h : ∀ j, j < N → C j = 0 ∨ C j = 1) : ∀ s, s ≤ n → ∀ j, j < N → cmK σ τ set C s j = 0 ∨ cmK σ τ set C s j = 1 := by
  intro s
  induction s with
  | zero => exact fun _ => h
  | succ s ih =>
    intro hs j hj
    unfold cmK
    split
    · by_cases he : j = set ||| 2 ^ s
      · subst he; rw [up_same]; exact Or.inr rfl
      · rw [up_ne _ _ he]; exact ih (by omega) j hj
    · exact ih (by omega) j hj
theorem cmT_01 (σ τ : Nat → Int) (n : Nat) (C : Nat → Int) : ∀ k, ∀ j, j < 2 ^ n → cmT σ τ n C k j = 0 ∨ cmT σ τ n C k j = 1 := by
  intro k
  induction k with
  | zero => intro j hj; unfold cmT cm0; rw [if_pos hj]; split <;> simp
  | succ k ih =>
    unfold cmT
    split
    · exact cmK_01 ih n (Nat.le_refl _)
    · exact ih
abbrev scr5 : List Nat := 86 :: 77 :: scr
def SM (M : MT) (C : Nat → Int) (so : Int) (M1 : MT) : Prop := (∀ a, a ∉ scr5 → M1 a = M a) ∧ NB M1 ∧ M1 86 = C ∧ M1 77 = up (M 77) 27 so

theorem m_findSought (N : Nat) (hN : N ≤ 12) (S : ST) (M : MT) (hL : LW (M 78) (M 80)) (h0 : M 78 0 = N) (hnb : NB M) : Ct E1 yX12_findSought cX12_findSought 3 none rm_X12_findSought [.ref 77] S M (Qn scr5 S M (SM M (cmT (M 78) (M 80) N (M 86) (2 ^ N)) (soT (M 78) (M 80) N (M 86) (2 ^ N) : Int))) := by
  have hp := p2_le hN
  have hp1 : 1 ≤ (2 ^ N : Nat) := Nat.one_le_two_pow
  refine Ct.mk [.ref 77, mkV, mkV] (by decide) rfl (Nat.le_of_ble_eq_true rfl) (fun X K => ?_)
  refine wp_iconst (n := 1) K dX12_findSought_0 rfl ?_
  refine wp_istore_n (n := 2) K dX12_findSought_1 rfl (by decide) ?_
  have eM : M = up M 86 (cm0 N (M 86) 0) := by
    rw [show cm0 N (M 86) 0 = M 86 from by funext j; unfold cm0; rw [if_neg (by omega)], up_self]
  rw [eM]
  refine dn (2 ^ N) (Q := fun k => Wp E1 X 2 [.ref 77, .int (z (k : Int)), mkV] [] S (up M 86 (cm0 N (M 86) k))) (fun k hk ih => ?_) 0 (by omega)
  have e78 : up M 86 (cm0 N (M 86) k) 78 = M 78 := rfl
  refine wp_iload_n (n := 3) K dX12_findSought_2 rfl rfl ?_
  refine wp_aload_n (n := 4) K dX12_findSought_3 rfl rfl ?_
  refine wp_invV_i (n := 7) K dX12_findSought_4 rfl cf_X12_66 (m_all N hN _ _ (by rw [e78]; exact h0)) rfl rfl rfl (liS rfl) rfl (by decide) ⟨Nat.le_refl _, Nat.le_refl _⟩ (Nat.le_of_ble_eq_true rfl) ?_
  refine wp_icmp_gt (n := 10) K dX12_findSought_7 rfl (tgt := 31) (by decide) ⟨by omega, by omega⟩ ⟨by omega, by omega⟩ (fun c7 => ?_) (fun c7 => ?_)
  · have hk2 : k = 2 ^ N := by omega
    subst hk2
    refine wp_aload_n (n := 32) K dX12_findSought_31 rfl rfl ?_
    refine wp_iconst (n := 33) K dX12_findSought_32 rfl ?_
    refine wp_putI (n := 36) K dX12_findSought_33 rfl fl_X12_305 rfl (liS rfl) (Or.inl rfl) rfl rfl ?_
    try simp only [up_same, up_up, up_ne, ne_eq, Nat.reduceEqDiff, not_false_eq_true, Int.reduceToNat, Int.toNat_natCast]
    refine wp_iconst (n := 37) K dX12_findSought_36 rfl ?_
    refine wp_istore_n (n := 38) K dX12_findSought_37 rfl (by decide) ?_
    have key := dn (2 ^ N) (Q := fun k => ∀ (M1 : MT) (a2 : Value), SM M (cmT (M 78) (M 80) N (M 86) k) (soT (M 78) (M 80) N (M 86) k : Int) M1 → Wp E1 X 38 [.ref 77, .int (z (k : Int)), a2] [] S M1) (fun k hk ih M1 a2 hM => ?_) 0 (by omega)
    · refine key _ mkV ⟨fun a ha => ?_, fun j hj => hnb j hj, rfl, rfl⟩
      rw [up_ne _ _ (fun e => ha (by rw [e]; decide)), up_ne _ _ (fun e => ha (by rw [e]; decide))]
    obtain ⟨hf, hn, hc, hs⟩ := id hM
    have e78 : M1 78 = M 78 := hf _ (by decide)
    have e80 : M1 80 = M 80 := hf _ (by decide)
    have hsl := (soT_lt (M 78) (M 80) N (M 86) k).1
    have h01 := cmT_01 (M 78) (M 80) N (M 86) k
    refine wp_iload_n (n := 39) K dX12_findSought_38 rfl rfl ?_
    refine wp_aload_n (n := 40) K dX12_findSought_39 rfl rfl ?_
    refine wp_invV_i (n := 43) K dX12_findSought_40 rfl cf_X12_66 (m_all N hN _ _ (by rw [e78]; exact h0)) rfl rfl rfl (liS rfl) rfl (by decide) ⟨Nat.le_refl _, Nat.le_refl _⟩ (Nat.le_of_ble_eq_true rfl) ?_
    refine wp_icmp_gt (n := 46) K dX12_findSought_43 rfl (tgt := 121) (by decide) ⟨by omega, by omega⟩ ⟨by omega, by omega⟩ (fun c43 => ?_) (fun c43 => ?_)
    · refine ret_qn K dX12_findSought_121 rfl ?_ ?_ ⟨Nat.le_refl _, Nat.le_refl _⟩
      · exact hf
      · rw [show 2 ^ N = k by omega]; exact hM
    · have ih := ih (by omega)
      unfold cmT soT at ih
      generalize hCk : cmT (M 78) (M 80) N (M 86) k = Ck at *
      generalize hSk : soT (M 78) (M 80) N (M 86) k = sk at *
      have h01k := h01 k (by omega)
      refine wp_aload_n (n := 47) K dX12_findSought_46 rfl rfl ?_
      refine wp_getF (n := 50) K dX12_findSought_47 rfl fl_X12_43 rfl (liS rfl) rfl rfl ?_
      refine wp_iload_n (n := 51) K dX12_findSought_50 rfl rfl ?_
      refine wp_zald (n := 52) K dX12_findSought_51 rfl rfl (liS rfl) ⟨by omega, by omega, by omega⟩ ?_
      try simp only [up_same, up_up, up_ne, ne_eq, Nat.reduceEqDiff, not_false_eq_true, Int.reduceToNat, Int.toNat_natCast]
      rw [hc]
      refine wp_if_ne (n := 55) K dX12_findSought_52 rfl (tgt := 58) (by decide) ⟨by omega, by omega⟩ (fun c52 => ?_) (fun c52 => ?_)
      · rw [if_pos c52] at ih
        have inner : ∀ (so : Int) (M2 : MT) (a2 : Value), SM M Ck so M2 → so = ((if Ck k ≠ 0 ∧ cnt 12 sk < cnt 12 k then k else sk : Nat) : Int) → Wp E1 X 77 [.ref 77, .int (z (k : Int)), a2] [] S M2 := by
          intro so M2 a2 hM2 hso
          refine wp_iconst (n := 78) K dX12_findSought_77 rfl ?_
          refine wp_istore_n (n := 79) K dX12_findSought_78 rfl (by decide) ?_
          refine dn N (Q := fun s => ∀ M3 : MT, SM M (cmK (M 78) (M 80) k Ck s) so M3 → Wp E1 X 79 [.ref 77, .int (z (k : Int)), .int (z (s : Int))] [] S M3) (fun s hs3 ih3 M3 hM3 => ?_) 0 (by omega) M2 hM2
          obtain ⟨f1, f2, f3, f4⟩ := id hM3
          have e78 : M3 78 = M 78 := f1 _ (by decide)
          have e80 : M3 80 = M 80 := f1 _ (by decide)
          refine wp_iload_n (n := 80) K dX12_findSought_79 rfl rfl ?_
          refine wp_aload_n (n := 81) K dX12_findSought_80 rfl rfl ?_
          refine wp_getF (n := 84) K dX12_findSought_81 rfl fl_X12_7 rfl (liS rfl) rfl rfl ?_
          refine wp_iconst (n := 85) K dX12_findSought_84 rfl ?_
          refine wp_iald (n := 86) K dX12_findSought_85 rfl rfl (liS rfl) ⟨by omega, by omega, by omega⟩ ?_
          try simp only [up_same, up_up, up_ne, ne_eq, Nat.reduceEqDiff, not_false_eq_true, Int.reduceToNat, Int.toNat_natCast]
          rw [e78, h0]
          refine wp_icmp_ge (n := 89) K dX12_findSought_86 rfl (tgt := 115) (by decide) ⟨by omega, by omega⟩ ⟨by omega, by omega⟩ (fun c86 => ?_) (fun c86 => ?_)
          · rw [show s = N by omega] at hM3
            refine wp_iinc (n := 118) K dX12_findSought_115 rfl rfl (by decide) ?_
            refine wp_goto K dX12_findSought_118 (tgt := 38) (by decide) ?_
            rw [hso] at hM3
            exact ih M3 _ hM3
          · have ih3 := ih3 (by omega)
            unfold cmK at ih3
            refine wp_aload_n (n := 90) K dX12_findSought_89 rfl rfl ?_
            refine wp_iload_n (n := 91) K dX12_findSought_90 rfl rfl ?_
            refine wp_iload_n (n := 92) K dX12_findSought_91 rfl rfl ?_
            refine wp_invV_qi (n := 95) K dX12_findSought_92 rfl cf_X12_275 (m_may _ _ (by omega) (by omega) _ _ (by rw [e78, e80]; exact hL) f2) rfl rfl rfl (liS rfl) rfl (by decide) ⟨Nat.le_refl _, Nat.le_refl _⟩ (Nat.le_of_ble_eq_true rfl) (fun M4 hM4 gM4 => ?_)
            refine wp_if_eq_b (n := 98) K dX12_findSought_95 rfl (tgt := 109) (by decide) (fun c95 => ?_) (fun c95 => ?_)
            · rw [e78, e80] at c95
              rw [c95, if_neg (by decide)] at ih3
              refine wp_iinc (n := 112) K dX12_findSought_109 rfl rfl (by decide) ?_
              refine wp_goto K dX12_findSought_112 (tgt := 79) (by decide) ?_
              exact ih3 M4 ⟨fun a ha => (hM4 a (fun q => ha (by simp at q ⊢; omega))).trans (f1 a ha), gM4, (hM4 _ (by decide)).trans f3, (hM4 _ (by decide)).trans f4⟩
            · rw [e78, e80] at c95
              rw [c95, if_pos rfl] at ih3
              have hps : (2 ^ s : Nat) < 4096 := Nat.pow_lt_pow_right (by decide) (show s < 12 by omega)
              have hol := or_lt (n := N) (k := k) (s := s) (by omega) (by omega)
              refine wp_aload_n (n := 99) K dX12_findSought_98 rfl rfl ?_
              refine wp_getF (n := 102) K dX12_findSought_99 rfl fl_X12_43 rfl (liS rfl) rfl rfl ?_
              refine wp_iload_n (n := 103) K dX12_findSought_102 rfl rfl ?_
              refine wp_iconst (n := 104) K dX12_findSought_103 rfl ?_
              refine wp_iload_n (n := 105) K dX12_findSought_104 rfl rfl ?_
              refine wp_ishl (n := 106) K dX12_findSought_105 rfl ?_
              refine wp_ior (n := 107) K dX12_findSought_106 rfl ?_
              rw [bshl_1 (by omega), bor_n (by omega) (by omega)]
              refine wp_iconst (n := 108) K dX12_findSought_107 rfl ?_
              refine wp_zast (n := 109) K dX12_findSought_108 rfl rfl (liS rfl) (fun _ => rfl) ⟨by omega, by omega, by omega⟩ (by first | exact Or.inl rfl | exact Or.inr rfl) ?_
              try simp only [up_same, up_up, up_ne, ne_eq, Nat.reduceEqDiff, not_false_eq_true, Int.reduceToNat, Int.toNat_natCast]
              refine wp_iinc (n := 112) K dX12_findSought_109 rfl rfl (by decide) ?_
              refine wp_goto K dX12_findSought_112 (tgt := 79) (by decide) ?_
              refine ih3 _ ⟨fun a ha => ?_, fun j hj => gM4 j hj, ?_, ?_⟩
              · rw [up_ne _ _ (fun e => ha (by rw [e]; decide))]; exact (hM4 a (fun q => ha (by simp at q ⊢; omega))).trans (f1 a ha)
              · rw [up_same, hM4 _ (by decide), f3]
              · rw [up_ne _ _ (by decide), hM4 _ (by decide), f4]
        have q1 := cnt_le 12 k
        have q2 := cnt_le 12 sk
        refine wp_iload_n (n := 59) K dX12_findSought_58 rfl rfl ?_
        refine wp_invS_i (n := 62) K dX12_findSought_59 rfl cf_X12_70 (m_bits _ (by omega) _ _) rfl rfl (by decide) ⟨Nat.le_refl _, Nat.le_refl _⟩ (Nat.le_of_ble_eq_true rfl) ?_
        refine wp_aload_n (n := 63) K dX12_findSought_62 rfl rfl ?_
        refine wp_getI (n := 66) K dX12_findSought_63 rfl fl_X12_305 rfl (liS rfl) rfl ?_
        try simp only [up_same, up_up, up_ne, ne_eq, Nat.reduceEqDiff, not_false_eq_true, Int.reduceToNat, Int.toNat_natCast]
        rw [hs, up_same]
        refine wp_invS_i (n := 69) K dX12_findSought_66 rfl cf_X12_70 (m_bits _ (by omega) _ _) rfl rfl (by decide) ⟨Nat.le_refl _, Nat.le_refl _⟩ (Nat.le_of_ble_eq_true rfl) ?_
        refine wp_icmp_le (n := 72) K dX12_findSought_69 rfl (tgt := 77) (by decide) ⟨by omega, by omega⟩ ⟨by omega, by omega⟩ (fun c69 => ?_) (fun c69 => ?_)
        · exact inner _ M1 _ hM (by rw [if_neg (by omega)])
        · refine wp_aload_n (n := 73) K dX12_findSought_72 rfl rfl ?_
          refine wp_iload_n (n := 74) K dX12_findSought_73 rfl rfl ?_
          refine wp_putI (n := 77) K dX12_findSought_74 rfl fl_X12_305 rfl (liS rfl) (Or.inl rfl) rfl rfl ?_
          try simp only [up_same, up_up, up_ne, ne_eq, Nat.reduceEqDiff, not_false_eq_true, Int.reduceToNat, Int.toNat_natCast]
          refine inner (k : Int) _ _ ⟨fun a ha => ?_, fun j hj => hn j hj, ?_, ?_⟩ (by rw [if_pos ⟨c52, by omega⟩])
          · rw [up_ne _ _ (fun e => ha (by rw [e]; decide))]; exact hf a ha
          · rw [up_ne _ _ (by decide)]; exact hc
          · rw [up_same, hs, up_up]
      · rw [if_neg (by omega), if_neg (by omega)] at ih
        refine wp_goto K dX12_findSought_55 (tgt := 115) (by decide) ?_
        refine wp_iinc (n := 118) K dX12_findSought_115 rfl rfl (by decide) ?_
        refine wp_goto K dX12_findSought_118 (tgt := 38) (by decide) ?_
        exact ih M1 _ hM
  · have ih := ih (by omega)
    have step : ∀ v : Int, (v = 0 ∨ v = 1) → v = (if k = 0 then 1 else 0) → Wp E1 X 24 [.ref 77, .int (z (k : Int)), mkV] [.int (z v), .int (z (k : Int)), .ref 86] S (up M 86 (cm0 N (M 86) k)) := by
      intro v hv hv2
      refine wp_zast (n := 25) K dX12_findSought_24 rfl rfl (liS rfl) (fun _ => rfl) ⟨by omega, by omega, by omega⟩ hv ?_
      try simp only [up_same, up_up, up_ne, ne_eq, Nat.reduceEqDiff, not_false_eq_true, Int.reduceToNat, Int.toNat_natCast]
      refine wp_iinc (n := 28) K dX12_findSought_25 rfl rfl (by decide) ?_
      refine wp_goto K dX12_findSought_28 (tgt := 2) (by decide) ?_
      rw [show up (cm0 N (M 86) k) k v = cm0 N (M 86) (k + 1) from by
        funext j; unfold up cm0
        by_cases q1 : j = k
        · subst q1; rw [if_pos rfl, if_pos (by omega)]; exact hv2
        · rw [if_neg q1]
          by_cases q2 : j < k
          · have q3 : j < k + 1 := by omega
            rw [if_pos q2, if_pos q3]
          · rw [if_neg q2, if_neg (by omega)]]
      exact ih
    refine wp_aload_n (n := 11) K dX12_findSought_10 rfl rfl ?_
    refine wp_getF (n := 14) K dX12_findSought_11 rfl fl_X12_43 rfl (liS rfl) rfl rfl ?_
    refine wp_iload_n (n := 15) K dX12_findSought_14 rfl rfl ?_
    refine wp_iload_n (n := 16) K dX12_findSought_15 rfl rfl ?_
    refine wp_if_ne (n := 19) K dX12_findSought_16 rfl (tgt := 23) (by decide) ⟨by omega, by omega⟩ (fun c16 => ?_) (fun c16 => ?_)
    · refine wp_iconst (n := 24) K dX12_findSought_23 rfl ?_
      exact step 0 (Or.inl rfl) (by rw [if_neg (by omega)])
    · refine wp_iconst (n := 20) K dX12_findSought_19 rfl ?_
      refine wp_goto K dX12_findSought_20 (tgt := 24) (by decide) ?_
      exact step 1 (Or.inr rfl) (by rw [if_pos (by omega)])
