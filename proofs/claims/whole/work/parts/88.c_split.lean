
theorem c_takeWord (p n : Nat) (hp : p ≤ n) (hn : n ≤ 300) (S : ST) (M : MT) (b : Nat → Int) (h : TB M b n) (h5 : M 55 5 = (p : Int)) (hok : okTp b n) : Ct E1 yX9_takeWord cX9_takeWord 2 (some .int) rm_X9_takeWord [.ref 55] S M (Pi (wdK (letters b p (spn isLet b n p)) : Int) S (up M 55 (up (M 55) 5 (spn isLet b n p : Int)))) := by
  refine Ct.mk [.ref 55, mkV] (by decide) rfl (Nat.le_of_ble_eq_true rfl) (fun X K => ?_)
  have hsp := spn_r b isLet_m hp
  have k44 : Wp E1 X 44 [.ref 55, .int (z (p : Int))] [] S (up M 55 (up (M 55) 5 (spn isLet b n p : Int))) := by
    have hT := h.at 5 (spn isLet b n p : Int) (by decide)
    refine wp_aload_n (n := 45) K dX9_takeWord_44 rfl rfl ?_
    refine wp_iload_n (n := 46) K dX9_takeWord_45 rfl rfl ?_
    refine wp_aload_n (n := 47) K dX9_takeWord_46 rfl rfl ?_
    refine wp_getI (n := 50) K dX9_takeWord_47 rfl fl_X9_29 rfl (liS rfl) rfl ?_
    try simp only [up_same, up_up, up_ne, ne_eq, Nat.reduceEqDiff, not_false_eq_true, Int.reduceToNat, Int.toNat_natCast]
    refine wp_invV_i (n := 53) K dX9_takeWord_50 rfl cf_X9_65 (c_wordFrom p (spn isLet b n p) n hsp.1 hsp.2 hn _ _ b hT hok) rfl rfl rfl (liS rfl) rfl (by decide) ⟨Nat.le_refl _, Nat.le_refl _⟩ (Nat.le_of_ble_eq_true rfl) ?_
    refine ret_i K dX9_takeWord_53 ?_ rfl ?_ ⟨Nat.le_refl _, Nat.le_refl _⟩
    · rfl
    · rfl
  have key : ∀ d q, q + d = n → spn isLet b n q = spn isLet b n p → Wp E1 X 5 [.ref 55, .int (z (p : Int))] [] S (up M 55 (up (M 55) 5 (q : Int))) := by
    intro d
    induction d with
    | zero =>
      intro q hq he
      have hbs : spn isLet b n q = q := spn_stop (by rw [bA_neg (by omega)]; rfl)
      have h4 := (h.at 5 (q : Int) (by decide)).1
      simp only [up_same, up_ne, ne_eq, Nat.reduceEqDiff, not_false_eq_true] at h4
      refine wp_aload_n (n := 6) K dX9_takeWord_5 rfl rfl ?_
      refine wp_getI (n := 9) K dX9_takeWord_6 rfl fl_X9_29 rfl (liS rfl) rfl ?_
      try simp only [up_same, up_up, up_ne, ne_eq, Nat.reduceEqDiff, not_false_eq_true, Int.reduceToNat, Int.toNat_natCast]
      refine wp_aload_n (n := 10) K dX9_takeWord_9 rfl rfl ?_
      refine wp_getI (n := 13) K dX9_takeWord_10 rfl fl_X9_25 rfl (liS rfl) rfl ?_
      try simp only [up_same, up_up, up_ne, ne_eq, Nat.reduceEqDiff, not_false_eq_true, Int.reduceToNat, Int.toNat_natCast]
      refine wp_icmp_ge (n := 16) K dX9_takeWord_13 rfl (tgt := 44) (by decide) ⟨by omega, by omega⟩ ⟨by omega, by omega⟩ (fun c13 => ?_) (fun c13 => ?_)
      · rw [← he, hbs] at k44; exact k44
      · omega
    | succ d ih =>
      intro q hq he
      have hT := h.at 5 (q : Int) (by decide)
      have h4 := hT.1
      simp only [up_same, up_ne, ne_eq, Nat.reduceEqDiff, not_false_eq_true] at h4
      have hbr := bA_r hok.2 q
      refine wp_aload_n (n := 6) K dX9_takeWord_5 rfl rfl ?_
      refine wp_getI (n := 9) K dX9_takeWord_6 rfl fl_X9_29 rfl (liS rfl) rfl ?_
      try simp only [up_same, up_up, up_ne, ne_eq, Nat.reduceEqDiff, not_false_eq_true, Int.reduceToNat, Int.toNat_natCast]
      refine wp_aload_n (n := 10) K dX9_takeWord_9 rfl rfl ?_
      refine wp_getI (n := 13) K dX9_takeWord_10 rfl fl_X9_25 rfl (liS rfl) rfl ?_
      try simp only [up_same, up_up, up_ne, ne_eq, Nat.reduceEqDiff, not_false_eq_true, Int.reduceToNat, Int.toNat_natCast]
      refine wp_icmp_ge (n := 16) K dX9_takeWord_13 rfl (tgt := 44) (by decide) ⟨by omega, by omega⟩ ⟨by omega, by omega⟩ (fun c13 => ?_) (fun c13 => ?_)
      · omega
      · refine wp_aload_n (n := 17) K dX9_takeWord_16 rfl rfl ?_
        refine wp_aload_n (n := 18) K dX9_takeWord_17 rfl rfl ?_
        refine wp_aload_n (n := 19) K dX9_takeWord_18 rfl rfl ?_
        refine wp_getI (n := 22) K dX9_takeWord_19 rfl fl_X9_29 rfl (liS rfl) rfl ?_
        try simp only [up_same, up_up, up_ne, ne_eq, Nat.reduceEqDiff, not_false_eq_true, Int.reduceToNat, Int.toNat_natCast]
        refine wp_invV_i (n := 25) K dX9_takeWord_22 rfl cf_X9_41 (c_byteAt q n (by omega) hn _ _ b hT) rfl rfl rfl (liS rfl) rfl (by decide) ⟨Nat.le_refl _, Nat.le_refl _⟩ (Nat.le_of_ble_eq_true rfl) ?_
        refine wp_invV_i (n := 28) K dX9_takeWord_25 rfl cf_X9_48 (c_isLetter _ ⟨by omega, by omega⟩ _ _) rfl rfl rfl (liS rfl) rfl (by decide) ⟨Nat.le_refl _, Nat.le_refl _⟩ (Nat.le_of_ble_eq_true rfl) ?_
        refine wp_if_eq_b (n := 31) K dX9_takeWord_28 rfl (tgt := 44) (by decide) (fun c28 => ?_) (fun c28 => ?_)
        · rw [← he, spn_stop c28] at k44; exact k44
        · have hst := spn_step isLet_m c28
          refine wp_aload_n (n := 32) K dX9_takeWord_31 rfl rfl ?_
          refine wp_dup (n := 33) K dX9_takeWord_32 rfl rfl ?_
          refine wp_getI (n := 36) K dX9_takeWord_33 rfl fl_X9_29 rfl (liS rfl) rfl ?_
          try simp only [up_same, up_up, up_ne, ne_eq, Nat.reduceEqDiff, not_false_eq_true, Int.reduceToNat, Int.toNat_natCast]
          refine wp_iconst (n := 37) K dX9_takeWord_36 rfl ?_
          refine wp_iadd (n := 38) K dX9_takeWord_37 rfl ?_
          refine wp_putI (n := 41) K dX9_takeWord_38 rfl fl_X9_29 rfl (liS rfl) (Or.inl rfl) rfl rfl ?_
          try simp only [up_same, up_up, up_ne, ne_eq, Nat.reduceEqDiff, not_false_eq_true, Int.reduceToNat, Int.toNat_natCast]
          refine wp_goto K dX9_takeWord_41 (tgt := 5) (by decide) ?_
          rw [show (q : Int) + 1 = ((q + 1 : Nat) : Int) by omega]
          exact ih (q + 1) (by omega) (by rw [← hst.1]; exact he)
  refine wp_aload_n (n := 1) K dX9_takeWord_0 rfl rfl ?_
  refine wp_getI (n := 4) K dX9_takeWord_1 rfl fl_X9_29 rfl (liS rfl) rfl ?_
  try simp only [up_same, up_up, up_ne, ne_eq, Nat.reduceEqDiff, not_false_eq_true, Int.reduceToNat, Int.toNat_natCast]
  refine wp_istore_n (n := 5) K dX9_takeWord_4 rfl (by decide) ?_
  rw [h5]
  have r := key (n - p) p (by omega) rfl
  rw [up5_0 M _ h5] at r
  exact r
theorem dgV_r {b : Nat → Int} {p : Nat} : ∀ k, (∀ i, i < k → 48 ≤ b (p + i) ∧ b (p + i) ≤ 57) → 0 ≤ dgV b p k ∧ dgV b p k ≤ 10000 := by
  intro k
  induction k with
  | zero => intro _; unfold dgV; omega
  | succ k ih =>
    intro h
    have := ih (fun i hi => h i (by omega))
    have := h k (by omega)
    unfold dgV
    omega

theorem c_takeDigits (p n : Nat) (hp : p ≤ n) (hn : n ≤ 300) (S : ST) (M : MT) (b : Nat → Int) (h : TB M b n) (h5 : M 55 5 = (p : Int)) (hok : okTp b n) : Ct E1 yX9_takeDigits cX9_takeDigits 2 (some .int) rm_X9_takeDigits [.ref 55] S M (Pi (dgV b p (spn isDig b n p - p)) S (up M 55 (up (M 55) 5 (spn isDig b n p : Int)))) := by
  refine Ct.mk [.ref 55, mkV] (by decide) rfl (Nat.le_of_ble_eq_true rfl) (fun X K => ?_)
  have key : ∀ d q, q + d = n → p ≤ q → (∀ i, i < q - p → 48 ≤ b (p + i) ∧ b (p + i) ≤ 57) → spn isDig b n q = spn isDig b n p → Wp E1 X 2 [.ref 55, .int (z (dgV b p (q - p)))] [] S (up M 55 (up (M 55) 5 (q : Int))) := by
    intro d
    induction d with
    | zero =>
      intro q hq hpq hdg he
      have hbs : spn isDig b n q = q := spn_stop (by rw [bA_neg (by omega)]; rfl)
      have h4 := (h.at 5 (q : Int) (by decide)).1
      simp only [up_same, up_ne, ne_eq, Nat.reduceEqDiff, not_false_eq_true] at h4
      refine wp_aload_n (n := 3) K dX9_takeDigits_2 rfl rfl ?_
      refine wp_getI (n := 6) K dX9_takeDigits_3 rfl fl_X9_29 rfl (liS rfl) rfl ?_
      try simp only [up_same, up_up, up_ne, ne_eq, Nat.reduceEqDiff, not_false_eq_true, Int.reduceToNat, Int.toNat_natCast]
      refine wp_aload_n (n := 7) K dX9_takeDigits_6 rfl rfl ?_
      refine wp_getI (n := 10) K dX9_takeDigits_7 rfl fl_X9_25 rfl (liS rfl) rfl ?_
      try simp only [up_same, up_up, up_ne, ne_eq, Nat.reduceEqDiff, not_false_eq_true, Int.reduceToNat, Int.toNat_natCast]
      refine wp_icmp_ge (n := 13) K dX9_takeDigits_10 rfl (tgt := 64) (by decide) ⟨by omega, by omega⟩ ⟨by omega, by omega⟩ (fun c10 => ?_) (fun c10 => ?_)
      · refine wp_iload_n (n := 65) K dX9_takeDigits_64 rfl rfl ?_
        refine ret_i K dX9_takeDigits_65 ?_ rfl ?_ ⟨Nat.le_refl _, Nat.le_refl _⟩
        · rw [← he, hbs]
        · rw [← he, hbs]
      · omega
    | succ d ih =>
      intro q hq hpq hdg he
      have hT := h.at 5 (q : Int) (by decide)
      have h4 := hT.1
      simp only [up_same, up_ne, ne_eq, Nat.reduceEqDiff, not_false_eq_true] at h4
      have hbr := bA_r hok.2 q
      have hvr := dgV_r (b := b) (p := p) (q - p) hdg
      refine wp_aload_n (n := 3) K dX9_takeDigits_2 rfl rfl ?_
      refine wp_getI (n := 6) K dX9_takeDigits_3 rfl fl_X9_29 rfl (liS rfl) rfl ?_
      try simp only [up_same, up_up, up_ne, ne_eq, Nat.reduceEqDiff, not_false_eq_true, Int.reduceToNat, Int.toNat_natCast]
      refine wp_aload_n (n := 7) K dX9_takeDigits_6 rfl rfl ?_
      refine wp_getI (n := 10) K dX9_takeDigits_7 rfl fl_X9_25 rfl (liS rfl) rfl ?_
      try simp only [up_same, up_up, up_ne, ne_eq, Nat.reduceEqDiff, not_false_eq_true, Int.reduceToNat, Int.toNat_natCast]
      refine wp_icmp_ge (n := 13) K dX9_takeDigits_10 rfl (tgt := 64) (by decide) ⟨by omega, by omega⟩ ⟨by omega, by omega⟩ (fun c10 => ?_) (fun c10 => ?_)
      · omega
      · refine wp_aload_n (n := 14) K dX9_takeDigits_13 rfl rfl ?_
        refine wp_aload_n (n := 15) K dX9_takeDigits_14 rfl rfl ?_
        refine wp_aload_n (n := 16) K dX9_takeDigits_15 rfl rfl ?_
        refine wp_getI (n := 19) K dX9_takeDigits_16 rfl fl_X9_29 rfl (liS rfl) rfl ?_
        try simp only [up_same, up_up, up_ne, ne_eq, Nat.reduceEqDiff, not_false_eq_true, Int.reduceToNat, Int.toNat_natCast]
        refine wp_invV_i (n := 22) K dX9_takeDigits_19 rfl cf_X9_41 (c_byteAt q n (by omega) hn _ _ b hT) rfl rfl rfl (liS rfl) rfl (by decide) ⟨Nat.le_refl _, Nat.le_refl _⟩ (Nat.le_of_ble_eq_true rfl) ?_
        refine wp_invV_i (n := 25) K dX9_takeDigits_22 rfl cf_X9_56 (c_isDigit _ ⟨by omega, by omega⟩ _ _) rfl rfl rfl (liS rfl) rfl (by decide) ⟨Nat.le_refl _, Nat.le_refl _⟩ (Nat.le_of_ble_eq_true rfl) ?_
        refine wp_if_eq_b (n := 28) K dX9_takeDigits_25 rfl (tgt := 64) (by decide) (fun c25 => ?_) (fun c25 => ?_)
        · have hbs := spn_stop c25
          refine wp_iload_n (n := 65) K dX9_takeDigits_64 rfl rfl ?_
          refine ret_i K dX9_takeDigits_65 ?_ rfl ?_ ⟨Nat.le_refl _, Nat.le_refl _⟩
          · rw [← he, hbs]
          · rw [← he, hbs]
        · have hst := spn_step isDig_m c25
          have hd : 48 ≤ bA b n q ∧ bA b n q ≤ 57 := of_decide_eq_true c25
          have ebA : bA b n q = b q := by unfold bA; rw [if_pos hst.2]
          have r := ih (q + 1) (by omega) (by omega) (fun i hi => by
            by_cases e : i = q - p
            · rw [e, show p + (q - p) = q by omega, ← ebA]; exact hd
            · exact hdg i (by omega)) (by rw [← hst.1]; exact he)
          have ev : dgV b p (q + 1 - p) = min (dgV b p (q - p) * 10 + bA b n q - 48) 10000 := by
            rw [show q + 1 - p = (q - p) + 1 by omega, dgV, show p + (q - p) = q by omega, ebA]; omega
          rw [ev] at r
          refine wp_iload_n (n := 29) K dX9_takeDigits_28 rfl rfl ?_
          refine wp_bipush (n := 31) K dX9_takeDigits_29 rfl rfl ?_
          refine wp_imul (n := 32) K dX9_takeDigits_31 rfl ?_
          refine wp_aload_n (n := 33) K dX9_takeDigits_32 rfl rfl ?_
          refine wp_aload_n (n := 34) K dX9_takeDigits_33 rfl rfl ?_
          refine wp_getI (n := 37) K dX9_takeDigits_34 rfl fl_X9_29 rfl (liS rfl) rfl ?_
          try simp only [up_same, up_up, up_ne, ne_eq, Nat.reduceEqDiff, not_false_eq_true, Int.reduceToNat, Int.toNat_natCast]
          refine wp_invV_i (n := 40) K dX9_takeDigits_37 rfl cf_X9_41 (c_byteAt q n (by omega) hn _ _ b hT) rfl rfl rfl (liS rfl) rfl (by decide) ⟨Nat.le_refl _, Nat.le_refl _⟩ (Nat.le_of_ble_eq_true rfl) ?_
          refine wp_iadd (n := 41) K dX9_takeDigits_40 rfl ?_
          refine wp_bipush (n := 43) K dX9_takeDigits_41 rfl rfl ?_
          refine wp_isub (n := 44) K dX9_takeDigits_43 rfl ?_
          refine wp_sipush (n := 47) K dX9_takeDigits_44 rfl rfl ?_
          refine wp_invS_i (n := 50) K dX9_takeDigits_47 rfl cf_X9_79 (j_min _ _ ⟨by omega, by omega⟩ ⟨by omega, by omega⟩ _ _) rfl rfl (by decide) ⟨Nat.le_refl _, Nat.le_refl _⟩ (Nat.le_of_ble_eq_true rfl) ?_
          refine wp_istore_n (n := 51) K dX9_takeDigits_50 rfl (by decide) ?_
          refine wp_aload_n (n := 52) K dX9_takeDigits_51 rfl rfl ?_
          refine wp_dup (n := 53) K dX9_takeDigits_52 rfl rfl ?_
          refine wp_getI (n := 56) K dX9_takeDigits_53 rfl fl_X9_29 rfl (liS rfl) rfl ?_
          try simp only [up_same, up_up, up_ne, ne_eq, Nat.reduceEqDiff, not_false_eq_true, Int.reduceToNat, Int.toNat_natCast]
          refine wp_iconst (n := 57) K dX9_takeDigits_56 rfl ?_
          refine wp_iadd (n := 58) K dX9_takeDigits_57 rfl ?_
          refine wp_putI (n := 61) K dX9_takeDigits_58 rfl fl_X9_29 rfl (liS rfl) (Or.inl rfl) rfl rfl ?_
          try simp only [up_same, up_up, up_ne, ne_eq, Nat.reduceEqDiff, not_false_eq_true, Int.reduceToNat, Int.toNat_natCast]
          refine wp_goto K dX9_takeDigits_61 (tgt := 2) (by decide) ?_
          rw [show (q : Int) + 1 = ((q + 1 : Nat) : Int) by omega]
          exact r
  refine wp_iconst (n := 1) K dX9_takeDigits_0 rfl ?_
  refine wp_istore_n (n := 2) K dX9_takeDigits_1 rfl (by decide) ?_
  have r := key (n - p) p (by omega) (Nat.le_refl _) (fun i hi => by omega) rfl
  rw [up5_0 M _ h5, Nat.sub_self] at r
  exact r
theorem sg_all : ((List.range 256).all fun c => decide (bi2c (c : Int) = (c : Int) ∧ (ixS (bi2b (c : Int)) 11 0 = -1 ∧ sgK (c : Int) = 42 ∨ 0 ≤ ixS (bi2b (c : Int)) 11 0 ∧ 20 + ixS (bi2b (c : Int)) 11 0 = (sgK (c : Int) : Int) ∧ sgK (c : Int) ≤ 30))) = true := by decide +kernel
theorem sg_c {c : Int} (h0 : 0 ≤ c) (h1 : c ≤ 255) : bi2c c = c ∧ (ixS (bi2b c) 11 0 = -1 ∧ sgK c = 42 ∨ 0 ≤ ixS (bi2b c) 11 0 ∧ 20 + ixS (bi2b c) 11 0 = (sgK c : Int) ∧ sgK c ≤ 30) := by
  have := of_decide_eq_true (List.all_eq_true.mp sg_all c.toNat (List.mem_range.mpr (by omega)))
  rwa [show ((c.toNat : Nat) : Int) = c by omega] at this
theorem sgK_60 {c : Int} : (sgK c = 20 ↔ c = 60) ∧ (sgK c = 21 ↔ c = 62) := by
  unfold sgK
  constructor
  · constructor
    · intro h
      (repeat' split at h) <;> first | assumption | (exfalso; revert h; decide) | omega
    · intro h; rw [if_pos h]
  · constructor
    · intro h
      (repeat' split at h) <;> first | assumption | (exfalso; revert h; decide) | omega
    · intro h; rw [if_neg (by omega), if_pos h]
def mkF2 (b : Nat → Int) (n p : Nat) : Nat × Nat := if (bA b n p = 60 ∨ bA b n p = 62) ∧ bA b n (p + 1) = 61 then (if bA b n p = 60 then 31 else 32, p + 2) else (sgK (bA b n p), p + 1)

theorem c_takeMark (p n : Nat) (hp : p < n) (hn : n ≤ 300) (S : ST) (M : MT) (b : Nat → Int) (h : TB M b n) (h5 : M 55 5 = (p : Int)) (hok : okTp b n) : Ct E1 yX9_takeMark cX9_takeMark 4 (some .int) rm_X9_takeMark [.ref 55, .int (z (bA b n p))] S M (Pi ((mkF2 b n p).1 : Int) S (up M 55 (up (M 55) 5 ((mkF2 b n p).2 : Int)))) := by
  have hbr := bA_r hok.2 p
  have h0 : 0 ≤ bA b n p := by unfold bA; rw [if_pos hp]; exact (hok.2 p hp).1
  obtain ⟨s1, s2⟩ := sg_c h0 hbr.2
  obtain ⟨g1, g2⟩ := sgK_60 (c := bA b n p)
  unfold mkF2
  generalize hc : bA b n p = c at *
  refine Ct.mk [.ref 55, .int (z c), mkV, mkV] (by decide) rfl (Nat.le_of_ble_eq_true rfl) (fun X K => ?_)
  refine wp_ldcS (n := 2) (b := 4) K dX9_takeMark_0 rfl rfl (by decide) ?_
  refine wp_iload_n (n := 3) K dX9_takeMark_2 rfl rfl ?_
  refine wp_i2c (n := 4) K dX9_takeMark_3 rfl ?_
  rw [s1]
  have hT1 := h.at 5 (((p + 1 : Nat)) : Int) (by decide)
  have hbr2 := bA_r hok.2 (p + 1)
  refine wp_invVS (n := 7) K dX9_takeMark_4 rfl cf_X9_86 (j_indexOf c ⟨h0, hbr.2⟩ _ _) rfl rfl (i := 1) (by decide) rfl (by decide) ⟨Nat.le_refl _, Nat.le_refl _⟩ (Nat.le_of_ble_eq_true rfl) ?_
  refine wp_istore_n (n := 8) K dX9_takeMark_7 rfl (by decide) ?_
  refine wp_aload_n (n := 9) K dX9_takeMark_8 rfl rfl ?_
  refine wp_dup (n := 10) K dX9_takeMark_9 rfl rfl ?_
  refine wp_getI (n := 13) K dX9_takeMark_10 rfl fl_X9_29 rfl (liS rfl) rfl ?_
  try simp only [up_same, up_up, up_ne, ne_eq, Nat.reduceEqDiff, not_false_eq_true, Int.reduceToNat, Int.toNat_natCast]
  refine wp_iconst (n := 14) K dX9_takeMark_13 rfl ?_
  refine wp_iadd (n := 15) K dX9_takeMark_14 rfl ?_
  refine wp_putI (n := 18) K dX9_takeMark_15 rfl fl_X9_29 rfl (liS rfl) (Or.inl rfl) rfl rfl ?_
  try simp only [up_same, up_up, up_ne, ne_eq, Nat.reduceEqDiff, not_false_eq_true, Int.reduceToNat, Int.toNat_natCast]
  rw [h5, show (p : Int) + 1 = ((p + 1 : Nat) : Int) by omega]
  have hixr : -1 ≤ ixS (bi2b c) 11 0 ∧ ixS (bi2b c) 11 0 ≤ 10 := by rcases s2 with q | q <;> omega
  generalize ixS (bi2b c) 11 0 = ix at *
  refine wp_iload_n (n := 19) K dX9_takeMark_18 rfl rfl ?_
  refine wp_if_ge (n := 22) K dX9_takeMark_19 rfl (tgt := 25) (by decide) ⟨by omega, by omega⟩ (fun c19 => ?_) (fun c19 => ?_)
  · rcases s2 with q | ⟨q1, q2, q3⟩
    · omega
    · refine wp_bipush (n := 27) K dX9_takeMark_25 rfl rfl ?_
      refine wp_iload_n (n := 28) K dX9_takeMark_27 rfl rfl ?_
      refine wp_iadd (n := 29) K dX9_takeMark_28 rfl ?_
      refine wp_istore_n (n := 30) K dX9_takeMark_29 rfl (by decide) ?_
      rw [q2]
      have k79 : ¬ ((c = 60 ∨ c = 62) ∧ bA b n (p + 1) = 61) → Wp E1 X 79 [.ref 55, .int (z c), .int (z ix), .int (z (sgK c : Int))] [] S (up M 55 (up (M 55) 5 ((p + 1 : Nat) : Int))) := fun hq => by
        rw [if_neg hq] at K
        refine wp_iload_n (n := 80) K dX9_takeMark_79 rfl rfl ?_
        refine ret_i K dX9_takeMark_80 ?_ rfl ?_ ⟨Nat.le_refl _, Nat.le_refl _⟩
        · rfl
        · rfl
      have k42 : (c = 60 ∨ c = 62) → Wp E1 X 42 [.ref 55, .int (z c), .int (z ix), .int (z (sgK c : Int))] [] S (up M 55 (up (M 55) 5 ((p + 1 : Nat) : Int))) := fun hq => by
        refine wp_aload_n (n := 43) K dX9_takeMark_42 rfl rfl ?_
        refine wp_aload_n (n := 44) K dX9_takeMark_43 rfl rfl ?_
        refine wp_getI (n := 47) K dX9_takeMark_44 rfl fl_X9_29 rfl (liS rfl) rfl ?_
        try simp only [up_same, up_up, up_ne, ne_eq, Nat.reduceEqDiff, not_false_eq_true, Int.reduceToNat, Int.toNat_natCast]
        refine wp_invV_i (n := 50) K dX9_takeMark_47 rfl cf_X9_41 (c_byteAt (p + 1) n (by omega) hn _ _ b hT1) rfl rfl rfl (liS rfl) rfl (by decide) ⟨Nat.le_refl _, Nat.le_refl _⟩ (Nat.le_of_ble_eq_true rfl) ?_
        refine wp_bipush (n := 52) K dX9_takeMark_50 rfl rfl ?_
        refine wp_icmp_ne (n := 55) K dX9_takeMark_52 rfl (tgt := 79) (by decide) ⟨by omega, by omega⟩ ⟨by omega, by omega⟩ (fun c52 => ?_) (fun c52 => ?_)
        · exact k79 (fun u => c52 u.2)
        · rw [if_pos ⟨hq, c52⟩] at K
          refine wp_aload_n (n := 56) K dX9_takeMark_55 rfl rfl ?_
          refine wp_dup (n := 57) K dX9_takeMark_56 rfl rfl ?_
          refine wp_getI (n := 60) K dX9_takeMark_57 rfl fl_X9_29 rfl (liS rfl) rfl ?_
          try simp only [up_same, up_up, up_ne, ne_eq, Nat.reduceEqDiff, not_false_eq_true, Int.reduceToNat, Int.toNat_natCast]
          refine wp_iconst (n := 61) K dX9_takeMark_60 rfl ?_
          refine wp_iadd (n := 62) K dX9_takeMark_61 rfl ?_
          refine wp_putI (n := 65) K dX9_takeMark_62 rfl fl_X9_29 rfl (liS rfl) (Or.inl rfl) rfl rfl ?_
          try simp only [up_same, up_up, up_ne, ne_eq, Nat.reduceEqDiff, not_false_eq_true, Int.reduceToNat, Int.toNat_natCast]
          rw [show ((p + 1 : Nat) : Int) + 1 = ((p + 2 : Nat) : Int) by omega]
          refine wp_iload_n (n := 66) K dX9_takeMark_65 rfl rfl ?_
          refine wp_bipush (n := 68) K dX9_takeMark_66 rfl rfl ?_
          refine wp_icmp_ne (n := 71) K dX9_takeMark_68 rfl (tgt := 76) (by decide) ⟨by omega, by omega⟩ ⟨by omega, by omega⟩ (fun c68 => ?_) (fun c68 => ?_)
          · rw [if_neg (fun e => c68 (by rw [g1.mpr e]; rfl))] at K
            refine wp_bipush (n := 78) K dX9_takeMark_76 rfl rfl ?_
            refine ret_i K dX9_takeMark_78 ?_ rfl ?_ ⟨Nat.le_refl _, Nat.le_refl _⟩
            · rfl
            · rfl
          · rw [if_pos (g1.mp (by omega))] at K
            refine wp_bipush (n := 73) K dX9_takeMark_71 rfl rfl ?_
            refine wp_goto K dX9_takeMark_73 (tgt := 78) (by decide) ?_
            refine ret_i K dX9_takeMark_78 ?_ rfl ?_ ⟨Nat.le_refl _, Nat.le_refl _⟩
            · rfl
            · rfl
      refine wp_iload_n (n := 31) K dX9_takeMark_30 rfl rfl ?_
      refine wp_bipush (n := 33) K dX9_takeMark_31 rfl rfl ?_
      refine wp_icmp_eq (n := 36) K dX9_takeMark_33 rfl (tgt := 42) (by decide) ⟨by omega, by omega⟩ ⟨by omega, by omega⟩ (fun c33 => ?_) (fun c33 => ?_)
      · exact k42 (Or.inl (g1.mp (by omega)))
      · refine wp_iload_n (n := 37) K dX9_takeMark_36 rfl rfl ?_
        refine wp_bipush (n := 39) K dX9_takeMark_37 rfl rfl ?_
        refine wp_icmp_ne (n := 42) K dX9_takeMark_39 rfl (tgt := 79) (by decide) ⟨by omega, by omega⟩ ⟨by omega, by omega⟩ (fun c39 => ?_) (fun c39 => ?_)
        · exact k79 (fun u => by
            rcases u.1 with e | e
            · exact c33 (by rw [g1.mpr e]; rfl)
            · exact c39 (by rw [g2.mpr e]; rfl))
        · exact k42 (Or.inr (g2.mp (by omega)))
  · rcases s2 with ⟨q1, q2⟩ | q
    · rw [if_neg (fun u => by
        rcases u.1 with e | e
        · have := g1.mpr e; omega
        · have := g2.mpr e; omega), q2] at K
      refine wp_bipush (n := 24) K dX9_takeMark_22 rfl rfl ?_
      refine ret_i K dX9_takeMark_24 ?_ rfl ?_ ⟨Nat.le_refl _, Nat.le_refl _⟩
      · rfl
      · rfl
    · omega
theorem tokK_d {b : Nat → Int} {n p : Nat} (h0 : 0 ≤ bA b n p) (hd : isDig (bA b n p) = true) : tokK b n p = (40, dgV b p (spn isDig b n p - p), spn isDig b n p) := by
  unfold tokK; dsimp only; rw [if_neg (by omega), if_pos hd]
theorem tokK_l {b : Nat → Int} {n p : Nat} (h0 : 0 ≤ bA b n p) (hl : isLet (bA b n p) = true) : tokK b n p = (wdK (letters b p (spn isLet b n p)), 0, spn isLet b n p) := by
  have hd : isDig (bA b n p) = false := by
    unfold isLet at hl; unfold isDig
    simp only [Bool.or_eq_true, decide_eq_true_eq] at hl
    exact decide_eq_false (by omega)
  unfold tokK; dsimp only; rw [if_neg (by omega), if_neg (by rw [hd]; decide), if_pos hl]
theorem tokK_m {b : Nat → Int} {n p : Nat} (h0 : 0 ≤ bA b n p) (hd : isDig (bA b n p) = false) (hl : isLet (bA b n p) = false) : tokK b n p = ((mkF2 b n p).1, 0, (mkF2 b n p).2) := by
  unfold tokK mkF2; dsimp only; rw [if_neg (by omega), if_neg (by rw [hd]; decide), if_neg (by rw [hl]; decide)]
  split <;> rfl

theorem c_takeToken (p n T : Nat) (hp : p < n) (hn : n ≤ 300) (hT : T < 301) (S : ST) (M : MT) (b : Nat → Int) (h : TB M b n) (h5 : M 55 5 = (p : Int)) (h6 : M 55 6 = (T : Int)) (h9 : M 59 T = 0) (hok : okTp b n) : Ct E1 yX9_takeToken cX9_takeToken 2 (some .int) rm_X9_takeToken [.ref 55, .int (z (bA b n p))] S M (Qi ((tokK b n p).1 : Int) [55, 59] S M (fun M1 => M1 55 = up (M 55) 5 ((tokK b n p).2.2 : Int) ∧ M1 59 = up (M 59) T (tokK b n p).2.1)) := by
  have hbr := bA_r hok.2 p
  have h0 : 0 ≤ bA b n p := by unfold bA; rw [if_pos hp]; exact (hok.2 p hp).1
  have e59 : up (M 59) T 0 = M 59 := by rw [← h9, up_self]
  have e59' : ∀ f : Nat → Int, (up M 55 f) 59 = M 59 := fun f => up_ne _ _ (by decide)
  refine Ct.mk [.ref 55, .int (z (bA b n p))] (by decide) rfl (Nat.le_of_ble_eq_true rfl) (fun X K => ?_)
  refine wp_aload_n (n := 1) K dX9_takeToken_0 rfl rfl ?_
  refine wp_iload_n (n := 2) K dX9_takeToken_1 rfl rfl ?_
  refine wp_invV_i (n := 5) K dX9_takeToken_2 rfl cf_X9_48 (c_isLetter _ ⟨by omega, by omega⟩ _ _) rfl rfl rfl (liS rfl) rfl (by decide) ⟨Nat.le_refl _, Nat.le_refl _⟩ (Nat.le_of_ble_eq_true rfl) ?_
  refine wp_if_eq_b (n := 8) K dX9_takeToken_5 rfl (tgt := 13) (by decide) (fun c5 => ?_) (fun c5 => ?_)
  · refine wp_aload_n (n := 14) K dX9_takeToken_13 rfl rfl ?_
    refine wp_iload_n (n := 15) K dX9_takeToken_14 rfl rfl ?_
    refine wp_invV_i (n := 18) K dX9_takeToken_15 rfl cf_X9_56 (c_isDigit _ ⟨by omega, by omega⟩ _ _) rfl rfl rfl (liS rfl) rfl (by decide) ⟨Nat.le_refl _, Nat.le_refl _⟩ (Nat.le_of_ble_eq_true rfl) ?_
    refine wp_if_eq_b (n := 21) K dX9_takeToken_18 rfl (tgt := 37) (by decide) (fun c18 => ?_) (fun c18 => ?_)
    · have e := tokK_m h0 c18 c5
      rw [e] at K
      refine wp_aload_n (n := 38) K dX9_takeToken_37 rfl rfl ?_
      refine wp_iload_n (n := 39) K dX9_takeToken_38 rfl rfl ?_
      refine wp_invV_i (n := 42) K dX9_takeToken_39 rfl cf_X9_62 (c_takeMark p n hp hn _ _ b h h5 hok) rfl rfl rfl (liS rfl) rfl (by decide) ⟨Nat.le_refl _, Nat.le_refl _⟩ (Nat.le_of_ble_eq_true rfl) ?_
      refine ret_qi K dX9_takeToken_42 ?_ rfl ?_ ?_ ⟨Nat.le_refl _, Nat.le_refl _⟩
      · rfl
      · (intro a ha; simp only [List.mem_cons, List.not_mem_nil, or_false, not_or] at ha; simp [up, ha])
      · exact ⟨up_same _ _ _, by rw [e59', e59]⟩
    · have e := tokK_d h0 c18
      rw [e] at K
      refine wp_aload_n (n := 22) K dX9_takeToken_21 rfl rfl ?_
      refine wp_getF (n := 25) K dX9_takeToken_22 rfl fl_X9_22 rfl (liS rfl) rfl rfl ?_
      refine wp_aload_n (n := 26) K dX9_takeToken_25 rfl rfl ?_
      refine wp_getI (n := 29) K dX9_takeToken_26 rfl fl_X9_32 rfl (liS rfl) rfl ?_
      try simp only [up_same, up_up, up_ne, ne_eq, Nat.reduceEqDiff, not_false_eq_true, Int.reduceToNat, Int.toNat_natCast]
      refine wp_aload_n (n := 30) K dX9_takeToken_29 rfl rfl ?_
      refine wp_invV_i (n := 33) K dX9_takeToken_30 rfl cf_X9_59 (c_takeDigits p n (by omega) hn _ _ b h h5 hok) rfl rfl rfl (liS rfl) rfl (by decide) ⟨Nat.le_refl _, Nat.le_refl _⟩ (Nat.le_of_ble_eq_true rfl) ?_
      refine wp_iast (n := 34) K dX9_takeToken_33 rfl rfl (liS rfl) (fun _ => rfl) ⟨by omega, by omega, by omega⟩ ?_
      try simp only [up_same, up_up, up_ne, ne_eq, Nat.reduceEqDiff, not_false_eq_true, Int.reduceToNat, Int.toNat_natCast]
      refine wp_bipush (n := 36) K dX9_takeToken_34 rfl rfl ?_
      refine ret_qi K dX9_takeToken_36 ?_ rfl ?_ ?_ ⟨Nat.le_refl _, Nat.le_refl _⟩
      · rfl
      · (intro a ha; simp only [List.mem_cons, List.not_mem_nil, or_false, not_or] at ha; simp [up, ha])
      · refine ⟨by rw [up_ne _ _ (by decide), up_same], ?_⟩
        rw [up_same]
        simp [h6]
  · have e := tokK_l h0 c5
    rw [e] at K
    refine wp_aload_n (n := 9) K dX9_takeToken_8 rfl rfl ?_
    refine wp_invV_i (n := 12) K dX9_takeToken_9 rfl cf_X9_52 (c_takeWord p n (by omega) hn _ _ b h h5 hok) rfl rfl rfl (liS rfl) rfl (by decide) ⟨Nat.le_refl _, Nat.le_refl _⟩ (Nat.le_of_ble_eq_true rfl) ?_
    refine ret_qi K dX9_takeToken_12 ?_ rfl ?_ ?_ ⟨Nat.le_refl _, Nat.le_refl _⟩
    · rfl
    · (intro a ha; simp only [List.mem_cons, List.not_mem_nil, or_false, not_or] at ha; simp [up, ha])
    · exact ⟨up_same _ _ _, by rw [e59', e59]⟩
