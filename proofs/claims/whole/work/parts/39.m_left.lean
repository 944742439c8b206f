def lvK (σ τ : Nat → Int) (so : Nat) (C Lf : Nat → Int) (set : Nat) : Nat → Int
  | 0 => if set = so then 0 else 100000000
  | s + 1 => if so.testBit s = true ∧ C set ≠ 0 ∧ mayF σ τ s set = true ∧ liftF σ τ s set + Lf (set ||| 2 ^ s) < lvK σ τ so C Lf set s then liftF σ τ s set + Lf (set ||| 2 ^ s) else lvK σ τ so C Lf set s
def lvV (σ τ : Nat → Int) (n so : Nat) (C Lf : Nat → Int) (set : Nat) : Int := if wo set so = 0 then lvK σ τ so C Lf set n else lvK σ τ so C Lf set 0
/-- left, behind d sets from the sought one downwards -/
def lfD (σ τ : Nat → Int) (n so : Nat) (C Lf : Nat → Int) : Nat → Nat → Int
  | 0 => Lf
  | d + 1 => up (lfD σ τ n so C Lf d) (so - d) (lvV σ τ n so C (lfD σ τ n so C Lf d) (so - d))
theorem sub_or {set so s : Nat} (h : wo set so = 0) (hs : so.testBit s = true) : set ||| 2 ^ s ≤ so := by
  apply Nat.le_of_testBit
  intro i hi
  rw [Nat.testBit_or] at hi
  have h1 := wo_bit set so i
  rw [h, Nat.zero_testBit] at h1
  cases hb : set.testBit i with
  | true => rw [hb] at h1; cases hc : so.testBit i; rw [hc] at h1; cases h1; rfl
  | false =>
    rw [hb, Bool.false_or, Nat.testBit_two_pow] at hi
    have : s = i := by simpa using hi
    rw [← this]; exact hs
theorem lvK_r {σ τ : Nat → Int} (hL : LW σ τ) {so n : Nat} {C Lf : Nat → Int} {set : Nat} (hn : n ≤ 12) (hw : wo set so = 0) (hLf : ∀ j, set < j → j ≤ so → 0 ≤ Lf j ∧ Lf j ≤ 100000000) : ∀ s, s ≤ n → 0 ≤ lvK σ τ so C Lf set s ∧ lvK σ τ so C Lf set s ≤ 100000000 := by
  intro s
  induction s with
  | zero => intro _; unfold lvK; split <;> omega
  | succ s ih =>
    intro hs
    have ih := ih (by omega)
    unfold lvK
    split
    · rename_i q
      have h1 := hLf _ (or_gt (mayF_bit q.2.2.1)) (sub_or hw q.1)
      have h2 := liftF_r hL (s := s) (by omega) set
      omega
    · exact ih
theorem lfD_r {σ τ : Nat → Int} (hL : LW σ τ) {so n : Nat} {C Lf : Nat → Int} (hn : n ≤ 12) : ∀ d, d ≤ so + 1 → ∀ j, so < j + d → j ≤ so → 0 ≤ lfD σ τ n so C Lf d j ∧ lfD σ τ n so C Lf d j ≤ 100000000 := by
  intro d
  induction d with
  | zero => intro _ j h1 h2; omega
  | succ d ih =>
    intro hd j h1 h2
    have ih := ih (by omega)
    unfold lfD
    by_cases he : j = so - d
    · subst he
      rw [up_same]
      unfold lvV
      split
      · rename_i q
        exact lvK_r hL hn q (fun j q1 q2 => ih j (by omega) q2) n (Nat.le_refl _)
      · unfold lvK; split <;> omega
    · rw [up_ne _ _ he]; exact ih j (by omega) h2
abbrev scr6 : List Nat := 87 :: scr5

/-- what findLeft leaves -/
def FL (M : MT) (N : Nat) (M1 : MT) : Prop := (∀ a, a ∉ scr6 → M1 a = M a) ∧ NB M1 ∧ M1 86 = cmT (M 78) (M 80) N (M 86) (2 ^ N) ∧ M1 77 = up (M 77) 27 (soT (M 78) (M 80) N (M 86) (2 ^ N) : Int) ∧ M1 87 = lfD (M 78) (M 80) N (soT (M 78) (M 80) N (M 86) (2 ^ N)) (cmT (M 78) (M 80) N (M 86) (2 ^ N)) (M 87) (soT (M 78) (M 80) N (M 86) (2 ^ N) + 1)
theorem m_findLeft (N : Nat) (hN : N ≤ 12) (S : ST) (M : MT) (hL : LW (M 78) (M 80)) (h0 : M 78 0 = N) (hnb : NB M) : Ct E1 yX12_findLeft cX12_findLeft 4 none rm_X12_findLeft [.ref 77] S M (Qn scr6 S M (FL M N)) := by
  have hp := p2_le hN
  have hp1 : 1 ≤ (2 ^ N : Nat) := Nat.one_le_two_pow
  have hsl := (soT_lt (M 78) (M 80) N (M 86) (2 ^ N)).2 (by omega)
  have h01 := cmT_01 (M 78) (M 80) N (M 86) (2 ^ N)
  refine Ct.mk [.ref 77, mkV, mkV, mkV] (by decide) rfl (Nat.le_of_ble_eq_true rfl) (fun X K => ?_)
  unfold FL at K
  refine wp_aload_n (n := 1) K dX12_findLeft_0 rfl rfl ?_
  refine wp_invV_qn (n := 4) K dX12_findLeft_1 rfl cf_X12_308 (m_findSought N hN _ _ hL h0 hnb) rfl rfl rfl (liS rfl) rfl (by decide) ⟨Nat.le_refl _, Nat.le_refl _⟩ (Nat.le_of_ble_eq_true rfl) (fun M1 hM1 gM1 => ?_)
  generalize cmT (M 78) (M 80) N (M 86) (2 ^ N) = C at *
  generalize soT (M 78) (M 80) N (M 86) (2 ^ N) = so at *
  obtain ⟨a1, a2, a3, a4⟩ := gM1
  refine wp_aload_n (n := 5) K dX12_findLeft_4 rfl rfl ?_
  refine wp_getI (n := 8) K dX12_findLeft_5 rfl fl_X12_305 rfl (liS rfl) rfl ?_
  try simp only [up_same, up_up, up_ne, ne_eq, Nat.reduceEqDiff, not_false_eq_true, Int.reduceToNat, Int.toNat_natCast]
  rw [a4, up_same]
  refine wp_istore_n (n := 9) K dX12_findLeft_8 rfl (by decide) ?_
  have main : ∀ (d : Nat), d ≤ so + 1 → ∀ (M2 : MT) (v2 v3 : Value), (∀ a, a ∉ scr6 → M2 a = M a) → NB M2 → M2 86 = C → M2 77 = up (M 77) 27 (so : Int) → M2 87 = lfD (M 78) (M 80) N so C (M 87) (so + 1 - d) → Wp E1 X 9 [.ref 77, .int (z ((d : Int) - 1)), v2, v3] [] S M2 := by
    intro d
    induction d with
    | zero =>
      intro _ M2 v2 v3 q1 q2 q3 q4 q5
      refine wp_iload_n (n := 10) K dX12_findLeft_9 rfl rfl ?_
      refine wp_if_lt (n := 13) K dX12_findLeft_10 rfl (tgt := 139) (by decide) ⟨by omega, by omega⟩ (fun c10 => ?_) (fun c10 => ?_)
      · refine ret_qn K dX12_findLeft_139 rfl ?_ ?_ ⟨Nat.le_refl _, Nat.le_refl _⟩
        · exact q1
        · exact ⟨q1, q2, q3, q4, q5⟩
      · omega
    | succ d ih =>
      intro hd M2 v2 v3 q1 q2 q3 q4 q5
      have ih := ih (by omega)
      have hd1 : so + 1 - d = (so + 1 - (d + 1)) + 1 := by omega
      have hset : so - (so + 1 - (d + 1)) = d := by omega
      rw [hd1] at ih
      unfold lfD at ih
      rw [hset] at ih
      have hLr := lfD_r hL (n := N) (so := so) (C := C) (Lf := M 87) hN (so + 1 - (d + 1)) (by omega)
      generalize lfD (M 78) (M 80) N so C (M 87) (so + 1 - (d + 1)) = Lf at *
      rw [show ((d + 1 : Nat) : Int) - 1 = (d : Int) by omega]
      have e77 : M2 77 27 = (so : Int) := by rw [q4, up_same]
      have hwl := wo_le d so
      have base : ∀ v : Int, v = lvK (M 78) (M 80) so C Lf d 0 → Wp E1 X 33 [.ref 77, .int (z (d : Int)), v2, v3] [.int (z v), .int (z (d : Int)), .ref 87] S M2 := by
        intro v hv
        refine wp_iast (n := 34) K dX12_findLeft_33 rfl rfl (liS rfl) (fun _ => rfl) ⟨by omega, by omega, by omega⟩ ?_
        try simp only [up_same, up_up, up_ne, ne_eq, Nat.reduceEqDiff, not_false_eq_true, Int.reduceToNat, Int.toNat_natCast]
        refine wp_iload_n (n := 35) K dX12_findLeft_34 rfl rfl ?_
        refine wp_aload_n (n := 36) K dX12_findLeft_35 rfl rfl ?_
        refine wp_getI (n := 39) K dX12_findLeft_36 rfl fl_X12_305 rfl (liS rfl) rfl ?_
        try simp only [up_same, up_up, up_ne, ne_eq, Nat.reduceEqDiff, not_false_eq_true, Int.reduceToNat, Int.toNat_natCast]
        refine wp_iconst (n := 40) K dX12_findLeft_39 rfl ?_
        refine wp_ixor (n := 41) K dX12_findLeft_40 rfl ?_
        refine wp_iand (n := 42) K dX12_findLeft_41 rfl ?_
        rw [e77, bandn_n (by omega) (by omega)]
        have fin1 : ∀ (M3 : MT) (v2 v3 : Value), (∀ a, a ∉ scr6 → M3 a = M a) → NB M3 → M3 86 = C → M3 77 = up (M 77) 27 (so : Int) → M3 87 = up Lf d (lvV (M 78) (M 80) N so C Lf d) → Wp E1 X 133 [.ref 77, .int (z (d : Int)), v2, v3] [] S M3 := by
          intro M3 v2 v3 r1 r2 r3 r4 r5
          refine wp_iinc (n := 136) K dX12_findLeft_133 rfl rfl (by decide) ?_
          refine wp_goto K dX12_findLeft_136 (tgt := 9) (by decide) ?_
          rw [show (d : Int) + -1 = (d : Int) - 1 by omega]
          exact ih M3 v2 v3 r1 r2 r3 r4 r5
        have m0 : ∀ a, a ∉ scr6 → up M2 87 (up (M2 87) d v) a = M a := fun a ha => by rw [up_ne _ _ (fun e => ha (by rw [e]; decide))]; exact q1 a ha
        refine wp_if_eq (n := 45) K dX12_findLeft_42 rfl (tgt := 48) (by decide) ⟨by omega, by omega⟩ (fun c42 => ?_) (fun c42 => ?_)
        · have hw0 : wo d so = 0 := by omega
          unfold lvV at fin1
          rw [if_pos hw0] at fin1
          refine wp_iconst (n := 49) K dX12_findLeft_48 rfl ?_
          refine wp_istore_n (n := 50) K dX12_findLeft_49 rfl (by decide) ?_
          have hK := lvK_r hL (so := so) (C := C) hN hw0 (fun j p1 p2 => hLr j (by omega) p2)
          refine dn N (Q := fun s => ∀ (M3 : MT) (v3 : Value), (∀ a, a ∉ scr6 → M3 a = M a) → NB M3 → M3 86 = C → M3 77 = up (M 77) 27 (so : Int) → M3 87 = up Lf d (lvK (M 78) (M 80) so C Lf d s) → Wp E1 X 50 [.ref 77, .int (z (d : Int)), .int (z (s : Int)), v3] [] S M3) (fun s hs ihs M3 v3 r1 r2 r3 r4 r5 => ?_) 0 (by omega) _ v3 m0 (fun j hj => q2 j hj) (by rw [up_ne _ _ (by decide)]; exact q3) (by rw [up_ne _ _ (by decide)]; exact q4) (by rw [up_same, q5, hv])
          have e78 : M3 78 = M 78 := r1 _ (by decide)
          have e80 : M3 80 = M 80 := r1 _ (by decide)
          have f77 : M3 77 27 = (so : Int) := by rw [r4, up_same]
          refine wp_iload_n (n := 51) K dX12_findLeft_50 rfl rfl ?_
          refine wp_aload_n (n := 52) K dX12_findLeft_51 rfl rfl ?_
          refine wp_getF (n := 55) K dX12_findLeft_52 rfl fl_X12_7 rfl (liS rfl) rfl rfl ?_
          refine wp_iconst (n := 56) K dX12_findLeft_55 rfl ?_
          refine wp_iald (n := 57) K dX12_findLeft_56 rfl rfl (liS rfl) ⟨by omega, by omega, by omega⟩ ?_
          try simp only [up_same, up_up, up_ne, ne_eq, Nat.reduceEqDiff, not_false_eq_true, Int.reduceToNat, Int.toNat_natCast]
          rw [e78, h0]
          refine wp_icmp_ge (n := 60) K dX12_findLeft_57 rfl (tgt := 133) (by decide) ⟨by omega, by omega⟩ ⟨by omega, by omega⟩ (fun c57 => ?_) (fun c57 => ?_)
          · exact fin1 M3 _ _ r1 r2 r3 r4 (by rw [r5, show s = N by omega])
          · have ihs := ihs (by omega)
            have hKs := hK s (by omega)
            unfold lvK at ihs
            have no : ∀ (M4 : MT) (v3 : Value), ¬ (so.testBit s = true ∧ C d ≠ 0 ∧ mayF (M 78) (M 80) s d = true ∧ liftF (M 78) (M 80) s d + Lf (d ||| 2 ^ s) < lvK (M 78) (M 80) so C Lf d s) → (∀ a, a ∉ scr6 → M4 a = M a) → NB M4 → M4 86 = C → M4 77 = up (M 77) 27 (so : Int) → M4 87 = up Lf d (lvK (M 78) (M 80) so C Lf d s) → Wp E1 X 127 [.ref 77, .int (z (d : Int)), .int (z (s : Int)), v3] [] S M4 := by
              intro M4 v3 hno t1 t2 t3 t4 t5
              rw [if_neg hno] at ihs
              refine wp_iinc (n := 130) K dX12_findLeft_127 rfl rfl (by decide) ?_
              refine wp_goto K dX12_findLeft_130 (tgt := 50) (by decide) ?_
              exact ihs M4 v3 t1 t2 t3 t4 t5
            have h01d := h01 d (by omega)
            refine wp_aload_n (n := 61) K dX12_findLeft_60 rfl rfl ?_
            refine wp_getI (n := 64) K dX12_findLeft_61 rfl fl_X12_305 rfl (liS rfl) rfl ?_
            try simp only [up_same, up_up, up_ne, ne_eq, Nat.reduceEqDiff, not_false_eq_true, Int.reduceToNat, Int.toNat_natCast]
            refine wp_iload_n (n := 65) K dX12_findLeft_64 rfl rfl ?_
            rw [f77]
            refine wp_invS_i (n := 68) K dX12_findLeft_65 rfl cf_X12_249 (m_has _ _ (by omega) (by omega) _ _) rfl rfl (by decide) ⟨Nat.le_refl _, Nat.le_refl _⟩ (Nat.le_of_ble_eq_true rfl) ?_
            refine wp_if_eq_b (n := 71) K dX12_findLeft_68 rfl (tgt := 127) (by decide) (fun c68 => ?_) (fun c68 => ?_)
            · exact no M3 _ (fun q => by rw [c68] at q; cases q.1) r1 r2 r3 r4 r5
            refine wp_aload_n (n := 72) K dX12_findLeft_71 rfl rfl ?_
            refine wp_getF (n := 75) K dX12_findLeft_72 rfl fl_X12_43 rfl (liS rfl) rfl rfl ?_
            refine wp_iload_n (n := 76) K dX12_findLeft_75 rfl rfl ?_
            refine wp_zald (n := 77) K dX12_findLeft_76 rfl rfl (liS rfl) ⟨by omega, by omega, by omega⟩ ?_
            try simp only [up_same, up_up, up_ne, ne_eq, Nat.reduceEqDiff, not_false_eq_true, Int.reduceToNat, Int.toNat_natCast]
            rw [r3]
            refine wp_if_eq (n := 80) K dX12_findLeft_77 rfl (tgt := 127) (by decide) ⟨by omega, by omega⟩ (fun c77 => ?_) (fun c77 => ?_)
            · exact no M3 _ (fun q => q.2.1 c77) r1 r2 r3 r4 r5
            refine wp_aload_n (n := 81) K dX12_findLeft_80 rfl rfl ?_
            refine wp_iload_n (n := 82) K dX12_findLeft_81 rfl rfl ?_
            refine wp_iload_n (n := 83) K dX12_findLeft_82 rfl rfl ?_
            refine wp_invV_qi (n := 86) K dX12_findLeft_83 rfl cf_X12_275 (m_may _ _ (by omega) (by omega) _ _ (by rw [e78, e80]; exact hL) r2) rfl rfl rfl (liS rfl) rfl (by decide) ⟨Nat.le_refl _, Nat.le_refl _⟩ (Nat.le_of_ble_eq_true rfl) (fun M4 hM4 gM4 => ?_)
            refine wp_if_ne_b (n := 89) K dX12_findLeft_86 rfl (tgt := 92) (by decide) (fun c86 => ?_) (fun c86 => ?_)
            rotate_left
            · rw [e78, e80] at c86
              refine wp_goto K dX12_findLeft_89 (tgt := 127) (by decide) ?_
              exact no M4 _ (fun q => by rw [c86] at q; cases q.2.2.1) (fun a ha => (hM4 a (fun q => ha (by simp at q ⊢; omega))).trans (r1 a ha)) gM4 ((hM4 _ (by decide)).trans r3) ((hM4 _ (by decide)).trans r4) ((hM4 _ (by decide)).trans r5)
            rw [e78, e80] at c86
            have g78 : M4 78 = M 78 := (hM4 _ (by decide)).trans e78
            have g80 : M4 80 = M 80 := (hM4 _ (by decide)).trans e80
            refine wp_aload_n (n := 93) K dX12_findLeft_92 rfl rfl ?_
            refine wp_iload_n (n := 94) K dX12_findLeft_93 rfl rfl ?_
            refine wp_iload_n (n := 95) K dX12_findLeft_94 rfl rfl ?_
            refine wp_invV_qi (n := 98) K dX12_findLeft_95 rfl cf_X12_278 (m_lift _ _ (by omega) (by omega) _ _ (by rw [g78, g80]; exact hL) gM4) rfl rfl rfl (liS rfl) rfl (by decide) ⟨Nat.le_refl _, Nat.le_refl _⟩ (Nat.le_of_ble_eq_true rfl) (fun M5 hM5 gM5 => ?_)
            rw [g78, g80]
            have hps : (2 ^ s : Nat) < 4096 := Nat.pow_lt_pow_right (by decide) (show s < 12 by omega)
            have hgt := or_gt (mayF_bit c86)
            have hle := sub_or hw0 c68
            have hlr := liftF_r hL (s := s) (by omega) d
            have hLo := hLr (d ||| 2 ^ s) (by omega) hle
            have t5 : M5 87 = up Lf d (lvK (M 78) (M 80) so C Lf d s) := (hM5 _ (by decide)).trans ((hM4 _ (by decide)).trans r5)
            have t1 : ∀ a, a ∉ scr6 → M5 a = M a := fun a ha => (hM5 a (fun q => ha (by simp at q ⊢; omega))).trans ((hM4 a (fun q => ha (by simp at q ⊢; omega))).trans (r1 a ha))
            have t3 : M5 86 = C := (hM5 _ (by decide)).trans ((hM4 _ (by decide)).trans r3)
            have t4 : M5 77 = up (M 77) 27 (so : Int) := (hM5 _ (by decide)).trans ((hM4 _ (by decide)).trans r4)
            refine wp_aload_n (n := 99) K dX12_findLeft_98 rfl rfl ?_
            refine wp_getF (n := 102) K dX12_findLeft_99 rfl fl_X12_46 rfl (liS rfl) rfl rfl ?_
            refine wp_iload_n (n := 103) K dX12_findLeft_102 rfl rfl ?_
            refine wp_iconst (n := 104) K dX12_findLeft_103 rfl ?_
            refine wp_iload_n (n := 105) K dX12_findLeft_104 rfl rfl ?_
            refine wp_ishl (n := 106) K dX12_findLeft_105 rfl ?_
            refine wp_ior (n := 107) K dX12_findLeft_106 rfl ?_
            rw [bshl_1 (by omega), bor_n (by omega) (by omega)]
            refine wp_iald (n := 108) K dX12_findLeft_107 rfl rfl (liS rfl) ⟨by omega, by omega, by omega⟩ ?_
            rw [Int.toNat_natCast, t5, up_ne _ _ (by omega)]
            refine wp_iadd (n := 109) K dX12_findLeft_108 rfl ?_
            refine wp_istore_n (n := 110) K dX12_findLeft_109 rfl (by decide) ?_
            refine wp_iload_n (n := 111) K dX12_findLeft_110 rfl rfl ?_
            refine wp_aload_n (n := 112) K dX12_findLeft_111 rfl rfl ?_
            refine wp_getF (n := 115) K dX12_findLeft_112 rfl fl_X12_46 rfl (liS rfl) rfl rfl ?_
            refine wp_iload_n (n := 116) K dX12_findLeft_115 rfl rfl ?_
            refine wp_iald (n := 117) K dX12_findLeft_116 rfl rfl (liS rfl) ⟨by omega, by omega, by omega⟩ ?_
            try simp only [up_same, up_up, up_ne, ne_eq, Nat.reduceEqDiff, not_false_eq_true, Int.reduceToNat, Int.toNat_natCast]
            rw [t5, up_same]
            refine wp_icmp_ge (n := 120) K dX12_findLeft_117 rfl (tgt := 127) (by decide) ⟨by omega, by omega⟩ ⟨by omega, by omega⟩ (fun c117 => ?_) (fun c117 => ?_)
            · exact no M5 _ (fun q => by omega) t1 gM5 t3 t4 t5
            · rw [if_pos ⟨c68, c77, c86, by omega⟩] at ihs
              refine wp_aload_n (n := 121) K dX12_findLeft_120 rfl rfl ?_
              refine wp_getF (n := 124) K dX12_findLeft_121 rfl fl_X12_46 rfl (liS rfl) rfl rfl ?_
              refine wp_iload_n (n := 125) K dX12_findLeft_124 rfl rfl ?_
              refine wp_iload_n (n := 126) K dX12_findLeft_125 rfl rfl ?_
              refine wp_iast (n := 127) K dX12_findLeft_126 rfl rfl (liS rfl) (fun _ => rfl) ⟨by omega, by omega, by omega⟩ ?_
              try simp only [up_same, up_up, up_ne, ne_eq, Nat.reduceEqDiff, not_false_eq_true, Int.reduceToNat, Int.toNat_natCast]
              refine wp_iinc (n := 130) K dX12_findLeft_127 rfl rfl (by decide) ?_
              refine wp_goto K dX12_findLeft_130 (tgt := 50) (by decide) ?_
              refine ihs _ _ (fun a ha => ?_) (fun j hj => gM5 j hj) ?_ ?_ ?_
              · rw [up_ne _ _ (fun e => ha (by rw [e]; decide))]; exact t1 a ha
              · rw [up_ne _ _ (by decide)]; exact t3
              · rw [up_ne _ _ (by decide)]; exact t4
              · rw [up_same, t5, up_up]
        · have hw0 : wo d so ≠ 0 := by omega
          unfold lvV at fin1
          rw [if_neg hw0] at fin1
          refine wp_goto K dX12_findLeft_45 (tgt := 133) (by decide) ?_
          exact fin1 _ _ _ m0 (fun j hj => q2 j hj) (by rw [up_ne _ _ (by decide)]; exact q3) (by rw [up_ne _ _ (by decide)]; exact q4) (by rw [up_same, q5, hv])
      refine wp_iload_n (n := 10) K dX12_findLeft_9 rfl rfl ?_
      refine wp_if_lt (n := 13) K dX12_findLeft_10 rfl (tgt := 139) (by decide) ⟨by omega, by omega⟩ (fun c10 => ?_) (fun c10 => ?_)
      · omega
      refine wp_aload_n (n := 14) K dX12_findLeft_13 rfl rfl ?_
      refine wp_getF (n := 17) K dX12_findLeft_14 rfl fl_X12_46 rfl (liS rfl) rfl rfl ?_
      refine wp_iload_n (n := 18) K dX12_findLeft_17 rfl rfl ?_
      refine wp_iload_n (n := 19) K dX12_findLeft_18 rfl rfl ?_
      refine wp_aload_n (n := 20) K dX12_findLeft_19 rfl rfl ?_
      refine wp_getI (n := 23) K dX12_findLeft_20 rfl fl_X12_305 rfl (liS rfl) rfl ?_
      try simp only [up_same, up_up, up_ne, ne_eq, Nat.reduceEqDiff, not_false_eq_true, Int.reduceToNat, Int.toNat_natCast]
      rw [e77]
      refine wp_icmp_ne (n := 26) K dX12_findLeft_23 rfl (tgt := 30) (by decide) ⟨by omega, by omega⟩ ⟨by omega, by omega⟩ (fun c23 => ?_) (fun c23 => ?_)
      · refine wp_ldc_w (n := 33) K dX12_findLeft_30 rfl (100000000) co_X12_311 ?_
        exact base _ (by unfold lvK; rw [if_neg (by omega)])
      · refine wp_iconst (n := 27) K dX12_findLeft_26 rfl ?_
        refine wp_goto K dX12_findLeft_27 (tgt := 33) (by decide) ?_
        exact base _ (by unfold lvK; rw [if_pos (by omega)])
  have := main (so + 1) (Nat.le_refl _) M1 mkV mkV (fun a ha => a1 a (fun q => ha (List.mem_cons_of_mem _ q))) a2 a3 a4 (by rw [Nat.sub_self]; exact a1 _ (by decide))
  rw [show ((so + 1 : Nat) : Int) - 1 = (so : Int) by omega] at this
  exact this
