
theorem c_lendersTo (set : Nat) (hs : set < 1024) (S : ST) (M : MT) (σ : Nat → Int) (hH : HN M σ) (hw : WH σ) : Ct E1 yX1_lendersTo cX1_lendersTo 4 (some .int) rm_X1_lendersTo [.ref 24, .int (z (set : Int))] S M (Pi ((bs (lnP σ set) (σ 3).toNat : Nat) : Int) S M) := by
  have h3 := hw.1
  have g4 := hH.1
  refine Ct.mk [.ref 24, .int (z (set : Int)), mkV, mkV] (by decide) rfl (Nat.le_of_ble_eq_true rfl) (fun X K => ?_)
  refine wp_iconst (n := 1) K dX1_lendersTo_0 rfl ?_
  refine wp_istore_n (n := 2) K dX1_lendersTo_1 rfl (by decide) ?_
  refine wp_iconst (n := 3) K dX1_lendersTo_2 rfl ?_
  refine wp_istore_n (n := 4) K dX1_lendersTo_3 rfl (by decide) ?_
  refine dn (σ 3).toNat (Q := fun k => Wp E1 X 4 [.ref 24, .int (z (set : Int)), .int (z (bs (lnP σ set) k : Int)), .int (z (k : Int))] [] S M) (fun k hk ih => ?_) 0 (by omega)
  refine wp_iload_n (n := 5) K dX1_lendersTo_4 rfl rfl ?_
  refine wp_aload_n (n := 6) K dX1_lendersTo_5 rfl rfl ?_
  refine wp_getI (n := 9) K dX1_lendersTo_6 rfl fl_X1_24 rfl (liS rfl) rfl ?_
  try simp only [up_same, up_up, Int.reduceToNat, Int.toNat_natCast]
  refine wp_icmp_ge (n := 12) K dX1_lendersTo_9 rfl (tgt := 45) (by decide) ⟨by omega, by omega⟩ ⟨by omega, by omega⟩ (fun c9 => ?_) (fun c9 => ?_)
  · refine wp_iload_n (n := 46) K dX1_lendersTo_45 rfl rfl ?_
    refine ret_i K dX1_lendersTo_46 ?_ rfl ?_ ⟨Nat.le_refl _, Nat.le_refl _⟩
    · rw [show k = (σ 3).toNat by omega]
    · rfl
  · have ih := ih (by omega)
    obtain ⟨u1, u2, u3⟩ := hH.2 k (by omega)
    obtain ⟨w1, -⟩ := hw.2 k (by omega)
    obtain ⟨n1, n2⟩ := hw.nr (h := k) (by omega)
    have hbl := bs_lt (lnP σ set) k
    have hpk : 2 ^ k ≤ 1024 := Nat.pow_le_pow_right (n := 2) (by decide) (show k ≤ 10 by omega)
    have hand : nrN σ k &&& set < 1024 := Nat.lt_of_le_of_lt Nat.and_le_left n2
    refine wp_aload_n (n := 13) K dX1_lendersTo_12 rfl rfl ?_
    refine wp_getF (n := 16) K dX1_lendersTo_13 rfl fl_X1_9 rfl (liS rfl) rfl rfl ?_
    refine wp_iload_n (n := 17) K dX1_lendersTo_16 rfl rfl ?_
    refine wp_iald (n := 18) K dX1_lendersTo_17 rfl rfl (liS rfl) ⟨by omega, by omega, by omega⟩ ?_
    try simp only [up_same, up_up, Int.reduceToNat, Int.toNat_natCast]
    refine wp_iconst (n := 19) K dX1_lendersTo_18 rfl ?_
    rw [u1]
    refine wp_icmp_lt (n := 22) K dX1_lendersTo_19 rfl (tgt := 39) (by decide) ⟨by omega, by omega⟩ ⟨by omega, by omega⟩ (fun c19 => ?_) (fun c19 => ?_)
    · rw [bs_no _ _ (by unfold lnP; rw [decide_eq_false (by omega)]; rfl)] at ih
      refine wp_iinc (n := 42) K dX1_lendersTo_39 rfl rfl (by decide) ?_
      refine wp_goto K dX1_lendersTo_42 (tgt := 4) (by decide) ?_
      exact ih
    · refine wp_aload_n (n := 23) K dX1_lendersTo_22 rfl rfl ?_
      refine wp_getF (n := 26) K dX1_lendersTo_23 rfl fl_X1_18 rfl (liS rfl) rfl rfl ?_
      refine wp_iload_n (n := 27) K dX1_lendersTo_26 rfl rfl ?_
      refine wp_iald (n := 28) K dX1_lendersTo_27 rfl rfl (liS rfl) ⟨by omega, by omega, by omega⟩ ?_
      try simp only [up_same, up_up, Int.reduceToNat, Int.toNat_natCast]
      refine wp_iload_n (n := 29) K dX1_lendersTo_28 rfl rfl ?_
      refine wp_iand (n := 30) K dX1_lendersTo_29 rfl ?_
      rw [u3, n1, band_n (by omega) (by omega)]
      refine wp_if_eq (n := 33) K dX1_lendersTo_30 rfl (tgt := 39) (by decide) ⟨by omega, by omega⟩ (fun c30 => ?_) (fun c30 => ?_)
      · rw [bs_no _ _ (by unfold lnP; rw [decide_eq_false (p := nrN σ k &&& set ≠ 0) (by omega), Bool.and_false])] at ih
        refine wp_iinc (n := 42) K dX1_lendersTo_39 rfl rfl (by decide) ?_
        refine wp_goto K dX1_lendersTo_42 (tgt := 4) (by decide) ?_
        exact ih
      · rw [bs_or _ _ (by unfold lnP; rw [decide_eq_true (by omega), decide_eq_true (by omega)]; rfl)] at ih
        refine wp_iload_n (n := 34) K dX1_lendersTo_33 rfl rfl ?_
        refine wp_iconst (n := 35) K dX1_lendersTo_34 rfl ?_
        refine wp_iload_n (n := 36) K dX1_lendersTo_35 rfl rfl ?_
        refine wp_ishl (n := 37) K dX1_lendersTo_36 rfl ?_
        refine wp_ior (n := 38) K dX1_lendersTo_37 rfl ?_
        rw [bshl_1 (by omega), bor_n (by omega) (by omega)]
        refine wp_istore_n (n := 39) K dX1_lendersTo_38 rfl (by decide) ?_
        refine wp_iinc (n := 42) K dX1_lendersTo_39 rfl rfl (by decide) ?_
        refine wp_goto K dX1_lendersTo_42 (tgt := 4) (by decide) ?_
        exact ih
def lyP (F : Nat → Int) (l : Nat) (h : Nat) : Bool := decide (F h = (l : Int))
def snP (F : Nat → Int) (l : Nat) (h : Nat) : Bool := decide (F h ≤ (l : Int))
/-- what the looks come to rest at -/
def FX (σ : Nat → Int) (n t : Nat) (F : Nat → Int) : Prop := F t = 1 ∧ (∀ h, h < n → 1 ≤ F h) ∧ ∀ h, h < n → h ≠ t → (∀ k, adjB σ n h k → F h ≤ F k + 1) ∧ (F h = 100000000 ∨ (F h ≤ n ∧ ∃ k, adjB σ n h k ∧ F k + 1 = F h))
theorem FX.next {σ F : Nat → Int} {n t l : Nat} (hF : FX σ n t F) (hl : 1 ≤ l) (hl2 : l < 1000) : wo (bs (lnP σ (bs (lyP F l) n)) n) (bs (snP F l) n) = bs (lyP F (l + 1)) n := by
  obtain ⟨f1, f2, f3⟩ := hF
  refine bs_eq (fun j => ?_)
  rw [wo_bit, bs_bit, bs_bit]
  by_cases hj : j < n
  · simp only [hj, decide_true, Bool.true_and]
    unfold lnP snP lyP
    rw [Bool.eq_iff_iff]
    simp only [Bool.and_eq_true, decide_eq_true_eq, Bool.not_eq_true', decide_eq_false_iff_not]
    constructor
    · rintro ⟨⟨q1, q2⟩, q3⟩
      obtain ⟨k, k1, k2⟩ := (and_ne0 _ _).mp q2
      rw [bs_bit, Bool.and_eq_true] at k2
      have k3 := of_decide_eq_true k2.1
      have k4 : F k = (l : Int) := of_decide_eq_true k2.2
      have hjt : j ≠ t := fun e => by rw [e, f1] at q3; omega
      have := (f3 j hj hjt).1 k ⟨hj, k3, q1, k1⟩
      omega
    · intro q
      have hjt : j ≠ t := fun e => by rw [e, f1] at q; omega
      rcases (f3 j hj hjt).2 with u | ⟨u1, k, ⟨a1, a2, a3, a4⟩, u2⟩
      · omega
      · refine ⟨⟨a3, (and_ne0 _ _).mpr ⟨k, a4, ?_⟩⟩, by omega⟩
        rw [bs_bit]
        simp only [a2, decide_true, Bool.true_and]
        exact decide_eq_true (by omega)
  · simp [hj]
theorem FX.or {F : Nat → Int} {n l : Nat} : bs (snP F l) n ||| bs (lyP F (l + 1)) n = bs (snP F (l + 1)) n := by
  refine bs_eq (fun j => ?_)
  rw [Nat.testBit_or, bs_bit, bs_bit]
  by_cases hj : j < n
  · simp only [hj, decide_true, Bool.true_and]
    unfold snP lyP
    rw [Bool.eq_iff_iff]
    simp only [Bool.or_eq_true, decide_eq_true_eq]
    omega
  · simp [hj]

theorem c_rowLength (fr t n : Nat) (hn : n ≤ 10) (hfr : fr < n) (ht : t < n) (S : ST) (M : MT) (σ F : Nat → Int) (hH : HN M σ) (hw : WH σ) (h3 : σ 3 = n) (hF : FX σ n t F) : Ct E1 yX1_rowLength cX1_rowLength 6 (some .int) rm_X1_rowLength [.ref 24, .int (z (fr : Int)), .int (z (t : Int))] S M (Qi (if F fr < 100000000 then F fr else 0) [28] S M (fun M1 => ∀ j : Nat, (j : Int) < F fr → F fr < 100000000 → M1 28 j = ((bs (lyP F (j + 1)) n : Nat) : Int))) := by
  have hp : 2 ^ n ≤ 1024 := Nat.pow_le_pow_right (n := 2) (by decide) hn
  have hb : ∀ p, bs p n < 1024 := fun p => by have := bs_lt p n; omega
  have hfr2 : F fr = 100000000 ∨ F fr ≤ 10 := by
    by_cases e : fr = t
    · rw [e, hF.1]; omega
    · rcases (hF.2.2 fr hfr e).2 with q | q
      · exact Or.inl q
      · right; omega
  have hfr1 := hF.2.1 fr hfr
  have e1 : 2 ^ t = bs (lyP F 1) n := by
    refine bs_eq (fun j => ?_)
    rw [bit_ne]
    by_cases hj : j < n
    · simp only [hj, decide_true, Bool.true_and]
      unfold lyP
      rw [Bool.eq_iff_iff]
      simp only [decide_eq_true_eq]
      constructor
      · rintro rfl; exact hF.1
      · intro q
        by_cases e : t = j
        · exact e
        · rcases (hF.2.2 j hj (fun u => e u.symm)).2 with u | ⟨u1, k, a, u2⟩
          · omega
          · have := hF.2.1 k a.2.1; omega
    · simp [hj]; omega
  have e2 : bs (lyP F 1) n = bs (snP F 1) n := by
    refine bs_eq (fun j => ?_)
    rw [bs_bit]
    by_cases hj : j < n
    · simp only [hj, decide_true, Bool.true_and]
      unfold lyP snP
      rw [Bool.eq_iff_iff]
      simp only [decide_eq_true_eq]
      have := hF.2.1 j hj
      omega
    · simp [hj]
  have hbit : ∀ l, band (bshr ((bs (lyP F l) n : Nat) : Int) (fr : Int)) 1 = (((lyP F l fr).toNat : Nat) : Int) := fun l => by
    rw [bit_n (by omega) (by have := hb (lyP F l); omega), bs_bit]; simp [hfr]
  refine Ct.mk [.ref 24, .int (z (fr : Int)), .int (z (t : Int)), mkV, mkV, mkV] (by decide) rfl (Nat.le_of_ble_eq_true rfl) (fun X K => ?_)
  refine wp_iconst (n := 1) K dX1_rowLength_0 rfl ?_
  refine wp_iload_n (n := 2) K dX1_rowLength_1 rfl rfl ?_
  refine wp_ishl (n := 3) K dX1_rowLength_2 rfl ?_
  rw [bshl_1 (by omega), e1]
  refine wp_istore_n (n := 4) K dX1_rowLength_3 rfl (by decide) ?_
  refine wp_iload_n (n := 5) K dX1_rowLength_4 rfl rfl ?_
  refine wp_istore (n := 7) K dX1_rowLength_5 rfl (by decide) ?_
  refine wp_iconst (n := 8) K dX1_rowLength_7 rfl ?_
  refine wp_istore (n := 10) K dX1_rowLength_8 rfl (by decide) ?_
  refine wp_aload_n (n := 11) K dX1_rowLength_10 rfl rfl ?_
  refine wp_getF (n := 14) K dX1_rowLength_11 rfl fl_X1_21 rfl (liS rfl) rfl rfl ?_
  refine wp_iconst (n := 15) K dX1_rowLength_14 rfl ?_
  refine wp_iload_n (n := 16) K dX1_rowLength_15 rfl rfl ?_
  refine wp_iast (n := 17) K dX1_rowLength_16 rfl rfl (liS rfl) (fun _ => rfl) ⟨by omega, by omega, by omega⟩ ?_
  try simp only [up_same, up_up, up_ne, ne_eq, Nat.reduceEqDiff, not_false_eq_true, Int.reduceToNat, Int.toNat_natCast]
  have start : ∀ l : Nat, l ≤ 10 → 1 ≤ l → ∀ B : MT, (∀ a, a ∉ [28] → B a = M a) → (∀ j, j < l → B 28 j = ((bs (lyP F (j + 1)) n : Nat) : Int)) → (l : Int) ≤ F fr → Wp E1 X 17 [.ref 24, .int (z (fr : Int)), .int (z (t : Int)), .int (z ((bs (lyP F l) n : Nat) : Int)), .int (z ((bs (snP F l) n : Nat) : Int)), .int (z (l : Int))] [] S B := by
    intro l hl
    refine dn 10 (Q := fun l => 1 ≤ l → ∀ B : MT, (∀ a, a ∉ [28] → B a = M a) → (∀ j, j < l → B 28 j = ((bs (lyP F (j + 1)) n : Nat) : Int)) → (l : Int) ≤ F fr → Wp E1 X 17 [.ref 24, .int (z (fr : Int)), .int (z (t : Int)), .int (z ((bs (lyP F l) n : Nat) : Int)), .int (z ((bs (snP F l) n : Nat) : Int)), .int (z (l : Int))] [] S B) (fun l hl ih h1 B hB hL hle => ?_) l hl
    have hb1 := hb (lyP F l)
    have hb2 := hb (snP F l)
    have hbl := Bool.toNat_le (lyP F l fr)
    have k63 : (lyP F l fr = true ∨ l = 10) → Wp E1 X 63 [.ref 24, .int (z (fr : Int)), .int (z (t : Int)), .int (z ((bs (lyP F l) n : Nat) : Int)), .int (z ((bs (snP F l) n : Nat) : Int)), .int (z (l : Int))] [] S B := fun hc => by
      refine wp_iload_n (n := 64) K dX1_rowLength_63 rfl rfl ?_
      refine wp_iload_n (n := 65) K dX1_rowLength_64 rfl rfl ?_
      refine wp_ishr (n := 66) K dX1_rowLength_65 rfl ?_
      refine wp_iconst (n := 67) K dX1_rowLength_66 rfl ?_
      refine wp_iand (n := 68) K dX1_rowLength_67 rfl ?_
      refine wp_iconst (n := 69) K dX1_rowLength_68 rfl ?_
      rw [hbit]
      refine wp_icmp_ne (n := 72) K dX1_rowLength_69 rfl (tgt := 77) (by decide) ⟨by omega, by omega⟩ ⟨by omega, by omega⟩ (fun c69 => ?_) (fun c69 => ?_)
      · have : lyP F l fr = false := by cases hq : lyP F l fr with
          | false => rfl
          | true => rw [hq] at c69; exact absurd rfl c69
        have hne : ¬ F fr = (l : Int) := of_decide_eq_false this
        refine wp_iconst (n := 78) K dX1_rowLength_77 rfl ?_
        refine ret_qi K dX1_rowLength_78 ?_ rfl ?_ ?_ ⟨Nat.le_refl _, Nat.le_refl _⟩
        · rcases hc with q | q
          · rw [this] at q; cases q
          · rw [if_neg (by omega)]
        · exact hB
        · intro j hj1 hj2
          rcases hc with q | q
          · rw [this] at q; cases q
          · omega
      · have hq : lyP F l fr = true := by cases hq : lyP F l fr with
          | true => rfl
          | false => rw [hq] at c69; cases c69
        have heq : F fr = (l : Int) := of_decide_eq_true hq
        refine wp_iload (n := 74) K dX1_rowLength_72 rfl rfl ?_
        refine wp_goto K dX1_rowLength_74 (tgt := 78) (by decide) ?_
        refine ret_qi K dX1_rowLength_78 ?_ rfl ?_ ?_ ⟨Nat.le_refl _, Nat.le_refl _⟩
        · rw [if_pos (by omega), heq]
        · exact hB
        · intro j hj1 hj2
          exact hL j (by omega)
    refine wp_iload (n := 19) K dX1_rowLength_17 rfl rfl ?_
    refine wp_bipush (n := 21) K dX1_rowLength_19 rfl rfl ?_
    refine wp_icmp_ge (n := 24) K dX1_rowLength_21 rfl (tgt := 63) (by decide) ⟨by omega, by omega⟩ ⟨by omega, by omega⟩ (fun c21 => ?_) (fun c21 => ?_)
    · exact k63 (Or.inr (by omega))
    · refine wp_iload_n (n := 25) K dX1_rowLength_24 rfl rfl ?_
      refine wp_iload_n (n := 26) K dX1_rowLength_25 rfl rfl ?_
      refine wp_ishr (n := 27) K dX1_rowLength_26 rfl ?_
      refine wp_iconst (n := 28) K dX1_rowLength_27 rfl ?_
      refine wp_iand (n := 29) K dX1_rowLength_28 rfl ?_
      rw [hbit]
      refine wp_if_ne (n := 32) K dX1_rowLength_29 rfl (tgt := 63) (by decide) ⟨by omega, by omega⟩ (fun c29 => ?_) (fun c29 => ?_)
      · refine k63 (Or.inl ?_)
        cases hq : lyP F l fr with
        | true => rfl
        | false => rw [hq] at c29; exact absurd rfl c29
      · have this : lyP F l fr = false := by cases hq : lyP F l fr with
          | false => rfl
          | true => rw [hq] at c29; cases c29
        have hne : ¬ F fr = (l : Int) := of_decide_eq_false this
        have hHB : HN B σ := HNm hH (fun a u1 u2 => hB a (by simp; omega))
        refine wp_aload_n (n := 33) K dX1_rowLength_32 rfl rfl ?_
        refine wp_iload_n (n := 34) K dX1_rowLength_33 rfl rfl ?_
        refine wp_invV_i (n := 37) K dX1_rowLength_34 rfl cf_X1_32 (c_lendersTo _ hb1 _ _ σ hHB hw) rfl rfl rfl (liS rfl) rfl (by decide) ⟨Nat.le_refl _, Nat.le_refl _⟩ (Nat.le_of_ble_eq_true rfl) ?_
        refine wp_iload (n := 39) K dX1_rowLength_37 rfl rfl ?_
        refine wp_iconst (n := 40) K dX1_rowLength_39 rfl ?_
        refine wp_ixor (n := 41) K dX1_rowLength_40 rfl ?_
        refine wp_iand (n := 42) K dX1_rowLength_41 rfl ?_
        have hb3 := hb (lnP σ (bs (lyP F l) n))
        rw [show (σ 3).toNat = n by omega, bandn_n (by omega) (by omega), hF.next h1 (by omega)]
        have hb4 := hb (lyP F (l + 1))
        refine wp_istore_n (n := 43) K dX1_rowLength_42 rfl (by decide) ?_
        refine wp_iload (n := 45) K dX1_rowLength_43 rfl rfl ?_
        refine wp_iload_n (n := 46) K dX1_rowLength_45 rfl rfl ?_
        refine wp_ior (n := 47) K dX1_rowLength_46 rfl ?_
        rw [bor_n (by omega) (by omega), FX.or]
        refine wp_istore (n := 49) K dX1_rowLength_47 rfl (by decide) ?_
        refine wp_aload_n (n := 50) K dX1_rowLength_49 rfl rfl ?_
        refine wp_getF (n := 53) K dX1_rowLength_50 rfl fl_X1_21 rfl (liS rfl) rfl rfl ?_
        refine wp_iload (n := 55) K dX1_rowLength_53 rfl rfl ?_
        refine wp_iload_n (n := 56) K dX1_rowLength_55 rfl rfl ?_
        refine wp_iast (n := 57) K dX1_rowLength_56 rfl rfl (liS rfl) (fun _ => rfl) ⟨by omega, by omega, by omega⟩ ?_
        try simp only [up_same, up_up, up_ne, ne_eq, Nat.reduceEqDiff, not_false_eq_true, Int.reduceToNat, Int.toNat_natCast]
        refine wp_iinc (n := 60) K dX1_rowLength_57 rfl rfl (by decide) ?_
        refine wp_goto K dX1_rowLength_60 (tgt := 17) (by decide) ?_
        refine ih (by omega) (by omega) _ (fun a ha => ?_) (fun j hj => ?_) (by omega)
        · rw [← hB a ha]
          simp only [List.mem_cons, List.not_mem_nil, or_false] at ha
          simp [up, ha]
        · by_cases he : j = l
          · subst he; simp [up]
          · simp [up, he]; exact hL j (by omega)
  have k := start 1 (by decide) (by decide) (up M 28 (up (M 28) 0 ((bs (lyP F 1) n : Nat) : Int))) (fun a ha => by simp only [List.mem_cons, List.not_mem_nil, or_false] at ha; simp [up, ha]) (fun j hj => by obtain rfl : j = 0 := (by omega); simp [up]) (by omega)
  rw [← e2] at k
  exact k
theorem rowI_ok {σ F : Nat → Int} {n t fr : Nat} (hn : n ≤ 10) (hF : FX σ n t F) (hfr : fr < n) (hlt : F fr < 100000000) (hN : ∀ h j, h < n → (nrN σ h).testBit j = true → j < n) : ∀ i : Nat, (i : Int) < F fr → rowI σ F fr i < n ∧ F (rowI σ F fr i) = F fr - i := by
  intro i
  induction i with
  | zero => intro _; exact ⟨hfr, by show F fr = _; omega⟩
  | succ i ih =>
    intro hi
    obtain ⟨h1, h2⟩ := ih (by omega)
    have hnt : rowI σ F fr i ≠ t := fun e => by rw [e, hF.1] at h2; omega
    rcases (hF.2.2 _ h1 hnt).2 with u | ⟨u1, k, a, u2⟩
    · omega
    · obtain ⟨q1, q2, q3, q4⟩ := nxF_ok (σ := σ) (F := F) (h := rowI σ F fr i) 10 0 ⟨k, by omega, by have := a.2.1; omega, a.2.2.2, by omega⟩
      exact ⟨hN _ _ h1 q1, by show F (nxF σ F _ 10 0) = _; omega⟩

theorem c_rowAt (fr n t i : Nat) (l : Int) (hn : n ≤ 10) (hfr : fr < n) (S : ST) (M : MT) (σ F : Nat → Int) (hH : HN M σ) (hw : WH σ) (h3 : σ 3 = n) (hF : FX σ n t F) (hl : F fr = l) (hl2 : l < 100000000) (hi : (i : Int) < l) (hN : ∀ h j, h < n → (nrN σ h).testBit j = true → j < n) (hL : ∀ j : Nat, (j : Int) < l → M 28 j = ((bs (lyP F (j + 1)) n : Nat) : Int)) : Ct E1 yX1_rowAt cX1_rowAt 6 (some .int) rm_X1_rowAt [.ref 24, .int (z (fr : Int)), .int (z l), .int (z (i : Int))] S M (Pi (rowI σ F fr i : Int) S M) := by
  have hw3 := hw.1
  have hl10 : l ≤ 10 := by
    by_cases e : fr = t
    · rw [← hl, e, hF.1]; omega
    · rcases (hF.2.2 fr hfr e).2 with q | q
      · omega
      · omega
  have hp : 2 ^ n ≤ 1024 := Nat.pow_le_pow_right (n := 2) (by decide) hn
  have hb : ∀ p, bs p n < 1024 := fun p => by have := bs_lt p n; omega
  have hR := rowI_ok hn hF hfr (by omega) hN
  refine Ct.mk [.ref 24, .int (z (fr : Int)), .int (z l), .int (z (i : Int)), mkV, mkV] (by decide) rfl (Nat.le_of_ble_eq_true rfl) (fun X K => ?_)
  refine wp_iload_n (n := 1) K dX1_rowAt_0 rfl rfl ?_
  refine wp_istore (n := 3) K dX1_rowAt_1 rfl (by decide) ?_
  refine wp_iload_n (n := 4) K dX1_rowAt_3 rfl rfl ?_
  refine wp_iconst (n := 5) K dX1_rowAt_4 rfl ?_
  refine wp_isub (n := 6) K dX1_rowAt_5 rfl ?_
  refine wp_istore (n := 8) K dX1_rowAt_6 rfl (by decide) ?_
  rw [show l - 2 = l - 2 - ((0 : Nat) : Int) by omega]
  refine dn i (Q := fun k => Wp E1 X 8 [.ref 24, .int (z (fr : Int)), .int (z l), .int (z (i : Int)), .int (z (rowI σ F fr k : Int)), .int (z (l - 2 - (k : Int)))] [] S M) (fun k hk ih => ?_) 0 (by omega)
  obtain ⟨r1, r2⟩ := hR k (by omega)
  refine wp_iload (n := 10) K dX1_rowAt_8 rfl rfl ?_
  refine wp_iload_n (n := 11) K dX1_rowAt_10 rfl rfl ?_
  refine wp_iconst (n := 12) K dX1_rowAt_11 rfl ?_
  refine wp_isub (n := 13) K dX1_rowAt_12 rfl ?_
  refine wp_iload_n (n := 14) K dX1_rowAt_13 rfl rfl ?_
  refine wp_isub (n := 15) K dX1_rowAt_14 rfl ?_
  refine wp_icmp_lt (n := 18) K dX1_rowAt_15 rfl (tgt := 67) (by decide) ⟨by omega, by omega⟩ ⟨by omega, by omega⟩ (fun c15 => ?_) (fun c15 => ?_)
  · have : k = i := by omega
    subst this
    refine wp_aload_n (n := 68) K dX1_rowAt_67 rfl rfl ?_
    refine wp_iload (n := 70) K dX1_rowAt_68 rfl rfl ?_
    refine wp_invV_i (n := 73) K dX1_rowAt_70 rfl cf_X1_28 (c_hasH _ ⟨by omega, by omega⟩ _ _ n ⟨by omega, by omega⟩ (by rw [hH.1, h3])) rfl rfl rfl (liS rfl) rfl (by decide) ⟨Nat.le_refl _, Nat.le_refl _⟩ (Nat.le_of_ble_eq_true rfl) ?_
    refine wp_if_eq_b (n := 76) K dX1_rowAt_73 rfl (tgt := 81) (by decide) (fun c73 => ?_) (fun c73 => ?_)
    · have := of_decide_eq_false c73; omega
    · refine wp_iload (n := 78) K dX1_rowAt_76 rfl rfl ?_
      refine wp_goto K dX1_rowAt_78 (tgt := 82) (by decide) ?_
      refine ret_i K dX1_rowAt_82 ?_ rfl ?_ ⟨Nat.le_refl _, Nat.le_refl _⟩
      · rfl
      · rfl
  · obtain ⟨r3, r4⟩ := hR (k + 1) (by omega)
    refine wp_aload_n (n := 19) K dX1_rowAt_18 rfl rfl ?_
    refine wp_iload (n := 21) K dX1_rowAt_19 rfl rfl ?_
    refine wp_invV_i (n := 24) K dX1_rowAt_21 rfl cf_X1_28 (c_hasH _ ⟨by omega, by omega⟩ _ _ n ⟨by omega, by omega⟩ (by rw [hH.1, h3])) rfl rfl rfl (liS rfl) rfl (by decide) ⟨Nat.le_refl _, Nat.le_refl _⟩ (Nat.le_of_ble_eq_true rfl) ?_
    refine wp_if_eq_b (n := 27) K dX1_rowAt_24 rfl (tgt := 39) (by decide) (fun c24 => ?_) (fun c24 => ?_)
    · have := of_decide_eq_false c24; omega
    · refine wp_iload (n := 29) K dX1_rowAt_27 rfl rfl ?_
      refine wp_if_lt (n := 32) K dX1_rowAt_29 rfl (tgt := 39) (by decide) ⟨by omega, by omega⟩ (fun c29 => ?_) (fun c29 => ?_)
      · omega
      · refine wp_iload (n := 34) K dX1_rowAt_32 rfl rfl ?_
        refine wp_bipush (n := 36) K dX1_rowAt_34 rfl rfl ?_
        refine wp_icmp_lt (n := 39) K dX1_rowAt_36 rfl (tgt := 41) (by decide) ⟨by omega, by omega⟩ ⟨by omega, by omega⟩ (fun c36 => ?_) (fun c36 => ?_)
        · obtain ⟨n1, n2⟩ := hw.nr (h := rowI σ F fr k) (by omega)
          have hj := hL (l - 2 - (k : Int)).toNat (by omega)
          have hb1 := hb (lyP F ((l - 2 - (k : Int)).toNat + 1))
          refine wp_aload_n (n := 42) K dX1_rowAt_41 rfl rfl ?_
          refine wp_getF (n := 45) K dX1_rowAt_42 rfl fl_X1_18 rfl (liS rfl) rfl rfl ?_
          refine wp_iload (n := 47) K dX1_rowAt_45 rfl rfl ?_
          refine wp_iald (n := 48) K dX1_rowAt_47 rfl rfl (liS rfl) ⟨by omega, by omega, by omega⟩ ?_
          try simp only [up_same, up_up, Int.reduceToNat, Int.toNat_natCast]
          refine wp_aload_n (n := 49) K dX1_rowAt_48 rfl rfl ?_
          refine wp_getF (n := 52) K dX1_rowAt_49 rfl fl_X1_21 rfl (liS rfl) rfl rfl ?_
          refine wp_iload (n := 54) K dX1_rowAt_52 rfl rfl ?_
          refine wp_iald (n := 55) K dX1_rowAt_54 rfl rfl (liS rfl) ⟨by omega, by omega, by omega⟩ ?_
          try simp only [up_same, up_up, Int.reduceToNat, Int.toNat_natCast]
          rw [(hH.2 _ (by omega)).2.2, n1, hj]
          refine wp_iand (n := 56) K dX1_rowAt_55 rfl ?_
          rw [band_n (by omega) (by omega)]
          have hx : nrN σ (rowI σ F fr k) &&& bs (lyP F ((l - 2 - (k : Int)).toNat + 1)) n < 1024 := Nat.lt_of_le_of_lt Nat.and_le_left n2
          have hnt : rowI σ F fr k ≠ t := fun e => by rw [e, hF.1] at r2; omega
          have hex : ∃ j, j < n ∧ (nrN σ (rowI σ F fr k)).testBit j = true ∧ F j = F (rowI σ F fr k) - 1 := by
            rcases (hF.2.2 _ r1 hnt).2 with u | ⟨u1, j, a, u2⟩
            · omega
            · exact ⟨j, a.2.1, a.2.2.2, by omega⟩
          have hbit : ∀ j, (nrN σ (rowI σ F fr k) &&& bs (lyP F ((l - 2 - (k : Int)).toNat + 1)) n).testBit j = true ↔ (nrN σ (rowI σ F fr k)).testBit j = true ∧ j < n ∧ F j = F (rowI σ F fr k) - 1 := fun j => by
            rw [Nat.testBit_and, bs_bit, Bool.and_eq_true, Bool.and_eq_true]
            unfold lyP
            rw [decide_eq_true_eq, decide_eq_true_eq]
            constructor
            · rintro ⟨q1, q2, q3⟩; exact ⟨q1, q2, by omega⟩
            · rintro ⟨q1, q2, q3⟩; exact ⟨q1, q2, by omega⟩
          have hne : nrN σ (rowI σ F fr k) &&& bs (lyP F ((l - 2 - (k : Int)).toNat + 1)) n ≠ 0 := fun e => by
            obtain ⟨j, j1, j2, j3⟩ := hex
            have := (hbit j).mpr ⟨j2, j1, j3⟩
            rw [e, Nat.zero_testBit] at this; cases this
          obtain ⟨z1, z2, z3⟩ := ntz_lo hx hne
          have ez : ntz (nrN σ (rowI σ F fr k) &&& bs (lyP F ((l - 2 - (k : Int)).toNat + 1)) n) = rowI σ F fr (k + 1) := by
            have hb2 := (hbit _).mp z2
            obtain ⟨j, j1, j2, j3⟩ := hex
            obtain ⟨q1, q2, q3, q4⟩ := nxF_ok (σ := σ) (F := F) (h := rowI σ F fr k) 10 0 ⟨j, by omega, by omega, j2, j3⟩
            have le1 := nxF_le (σ := σ) (F := F) (h := rowI σ F fr k) hb2.1 hb2.2.2 10 0 (by omega) (by omega)
            show _ = nxF σ F (rowI σ F fr k) 10 0
            rcases Nat.lt_or_eq_of_le le1 with q | q
            · have := z3 _ q
              rw [(hbit _).mpr ⟨q1, hN _ _ r1 q1, q2⟩] at this; cases this
            · exact q.symm
          refine wp_invS_i (n := 59) K dX1_rowAt_56 rfl cf_X1_36 (j_ntz _ (by omega) _ _) rfl rfl (by decide) ⟨Nat.le_refl _, Nat.le_refl _⟩ (Nat.le_of_ble_eq_true rfl) ?_
          rw [ez]
          refine wp_istore (n := 61) K dX1_rowAt_59 rfl (by decide) ?_
          refine wp_iinc (n := 64) K dX1_rowAt_61 rfl rfl (by decide) ?_
          refine wp_goto K dX1_rowAt_64 (tgt := 8) (by decide) ?_
          rw [show l - 2 - (k : Int) + -1 = l - 2 - ((k + 1 : Nat) : Int) by omega]
          exact ih (by omega)
        · omega

theorem c_row (fr to i : Int) (h1 : InR fr) (h2 : InR to) (h4 : InR i) (S : ST) (M : MT) (σ f0 : Nat → Int) (hH : HN M σ) (hw : WH σ) (hN : WN σ) : Ct E1 yX11_row cX11_row 5 (some .int) rm_X11_row [.ref 16, .int (z fr), .int (z to), .int (z i)] S M (Qi (rowF σ f0 fr to i) [28] S M (fun _ => True)) := by
  have h3 := hw.1
  have hno : ∀ (c : ¬ ((0 ≤ fr ∧ fr < σ 3) ∧ (0 ≤ to ∧ to < σ 3) ∧ -1 ≤ i ∧ farT σ to.toNat f0 (σ 3).toNat fr.toNat < 100000000 ∧ i < farT σ to.toNat f0 (σ 3).toNat fr.toNat)), rowF σ f0 fr to i = -1 := fun c => by unfold rowF; rw [if_neg c]
  refine Ct.mk [.ref 16, .int (z fr), .int (z to), .int (z i), mkV] (by decide) rfl (Nat.le_of_ble_eq_true rfl) (fun X K => ?_)
  refine wp_aload_n (n := 1) K dX11_row_0 rfl rfl ?_
  refine wp_getF (n := 4) K dX11_row_1 rfl fl_X11_12 rfl (liS rfl) rfl rfl ?_
  refine wp_getF (n := 7) K dX11_row_4 rfl fl_X11_106 rfl (liS rfl) rfl rfl ?_
  refine wp_iload_n (n := 8) K dX11_row_7 rfl rfl ?_
  refine wp_invV_i (n := 11) K dX11_row_8 rfl cf_X11_122 (c_hasH fr h1 _ _ _ h3 hH.1) rfl rfl rfl (liS rfl) rfl (by decide) ⟨Nat.le_refl _, Nat.le_refl _⟩ (Nat.le_of_ble_eq_true rfl) ?_
  refine wp_if_eq_b (n := 14) K dX11_row_11 rfl (tgt := 28) (by decide) (fun c11 => ?_) (fun c11 => ?_)
  · have c := of_decide_eq_false c11
    refine wp_iconst (n := 29) K dX11_row_28 rfl ?_
    refine ret_qi K dX11_row_29 ?_ rfl ?_ ?_ ⟨Nat.le_refl _, Nat.le_refl _⟩
    · rw [hno (fun q => c q.1)]
    · intro a _; rfl
    · trivial
  · have g1 := of_decide_eq_true c11
    refine wp_aload_n (n := 15) K dX11_row_14 rfl rfl ?_
    refine wp_getF (n := 18) K dX11_row_15 rfl fl_X11_12 rfl (liS rfl) rfl rfl ?_
    refine wp_getF (n := 21) K dX11_row_18 rfl fl_X11_106 rfl (liS rfl) rfl rfl ?_
    refine wp_iload_n (n := 22) K dX11_row_21 rfl rfl ?_
    refine wp_invV_i (n := 25) K dX11_row_22 rfl cf_X11_122 (c_hasH to h2 _ _ _ h3 hH.1) rfl rfl rfl (liS rfl) rfl (by decide) ⟨Nat.le_refl _, Nat.le_refl _⟩ (Nat.le_of_ble_eq_true rfl) ?_
    refine wp_if_ne_b (n := 28) K dX11_row_25 rfl (tgt := 30) (by decide) (fun c25 => ?_) (fun c25 => ?_)
    · have g2 := of_decide_eq_true c25
      obtain ⟨n, hn⟩ : ∃ n : Nat, σ 3 = n := ⟨(σ 3).toNat, by omega⟩
      have en : (σ 3).toNat = n := by omega
      obtain ⟨a, rfl⟩ : ∃ a : Nat, fr = a := ⟨fr.toNat, by omega⟩
      obtain ⟨t, rfl⟩ : ∃ a : Nat, to = a := ⟨to.toNat, by omega⟩
      rw [Int.toNat_natCast, Int.toNat_natCast, en] at hno
      have hNN : ∀ h j, h < n → (nrN σ h).testBit j = true → j < n := fun h j hh hb => by
        have q1 := hN h (by omega)
        obtain ⟨n1, n2⟩ := hw.nr (h := h) (by omega)
        rw [en, p2_c, n1] at q1
        rcases Nat.lt_or_ge j n with q | q
        · exact q
        · have := Nat.testBit_lt_two_pow (Nat.lt_of_lt_of_le (show nrN σ h < 2 ^ n by omega) (Nat.pow_le_pow_right (by decide) q))
          rw [hb] at this; cases this
      have hI := farT_i (σ := σ) (f0 := f0) (t := t) (n := n) hn (by omega) (by omega) n
      have hF : FX σ n t (farT σ t f0 n) := ⟨hI.1, fun h hh => (hI.2.1 h hh).1, farT_fix hn (by omega) (by omega)⟩
      have eR : rowF σ f0 (a : Int) (t : Int) i = if -1 ≤ i ∧ farT σ t f0 n a < 100000000 ∧ i < farT σ t f0 n a then (if i = -1 then farT σ t f0 n a else (rowI σ (farT σ t f0 n) a i.toNat : Int)) else -1 := by
        unfold rowF
        rw [Int.toNat_natCast, Int.toNat_natCast, en]
        by_cases q : -1 ≤ i ∧ farT σ t f0 n a < 100000000 ∧ i < farT σ t f0 n a
        · rw [if_pos ⟨g1, g2, q⟩, if_pos q]
        · rw [if_neg (fun u => q u.2.2), if_neg q]
      generalize farT σ t f0 n = F at *
      rw [eR] at K
      have hF1 := hF.2.1 a (by omega)
      have hFr : F a = 100000000 ∨ F a ≤ 10 := by
        by_cases e : a = t
        · rw [e, hF.1]; omega
        · rcases (hF.2.2 a (by omega) e).2 with q | q
          · exact Or.inl q
          · right; omega
      refine wp_aload_n (n := 31) K dX11_row_30 rfl rfl ?_
      refine wp_getF (n := 34) K dX11_row_31 rfl fl_X11_12 rfl (liS rfl) rfl rfl ?_
      refine wp_getF (n := 37) K dX11_row_34 rfl fl_X11_106 rfl (liS rfl) rfl rfl ?_
      refine wp_iload_n (n := 38) K dX11_row_37 rfl rfl ?_
      refine wp_iload_n (n := 39) K dX11_row_38 rfl rfl ?_
      refine wp_invV_qi (n := 42) K dX11_row_39 rfl cf_X11_257 (c_rowLength a t n (by omega) (by omega) (by omega) _ _ σ F hH hw hn hF) rfl rfl rfl (liS rfl) rfl (by decide) ⟨Nat.le_refl _, Nat.le_refl _⟩ (Nat.le_of_ble_eq_true rfl) (fun A1 hA1 gA1 => ?_)
      generalize hlen : (if F a < 100000000 then F a else 0) = len
      have hlr : 0 ≤ len ∧ len ≤ 10 ∧ (len = 0 ↔ ¬ F a < 100000000) ∧ (F a < 100000000 → len = F a) := by
        rw [← hlen]; split <;> omega
      refine wp_istore (n := 44) K dX11_row_42 rfl (by decide) ?_
      refine wp_iload (n := 46) K dX11_row_44 rfl rfl ?_
      refine wp_if_ne (n := 49) K dX11_row_46 rfl (tgt := 51) (by decide) ⟨by omega, by omega⟩ (fun c46 => ?_) (fun c46 => ?_)
      · refine wp_iload_n (n := 52) K dX11_row_51 rfl rfl ?_
        refine wp_iconst (n := 53) K dX11_row_52 rfl ?_
        refine wp_icmp_ne (n := 56) K dX11_row_53 rfl (tgt := 59) (by decide) ⟨by omega, by omega⟩ ⟨by omega, by omega⟩ (fun c53 => ?_) (fun c53 => ?_)
        · refine wp_iload_n (n := 60) K dX11_row_59 rfl rfl ?_
          refine wp_if_lt (n := 63) K dX11_row_60 rfl (tgt := 86) (by decide) ⟨by omega, by omega⟩ (fun c60 => ?_) (fun c60 => ?_)
          · refine wp_iconst (n := 87) K dX11_row_86 rfl ?_
            refine ret_qi K dX11_row_87 ?_ rfl ?_ ?_ ⟨Nat.le_refl _, Nat.le_refl _⟩
            · rw [if_neg (by omega)]
            · exact hA1
            · trivial
          · refine wp_iload_n (n := 64) K dX11_row_63 rfl rfl ?_
            refine wp_iload (n := 66) K dX11_row_64 rfl rfl ?_
            refine wp_icmp_ge (n := 69) K dX11_row_66 rfl (tgt := 86) (by decide) ⟨by omega, by omega⟩ ⟨by omega, by omega⟩ (fun c66 => ?_) (fun c66 => ?_)
            · refine wp_iconst (n := 87) K dX11_row_86 rfl ?_
              refine ret_qi K dX11_row_87 ?_ rfl ?_ ?_ ⟨Nat.le_refl _, Nat.le_refl _⟩
              · rw [if_neg (by omega)]
              · exact hA1
              · trivial
            · have hHA : HN A1 σ := HNm hH (fun b u1 u2 => hA1 b (by simp; omega))
              obtain ⟨ii, rfl⟩ : ∃ ii : Nat, i = ii := ⟨i.toNat, by omega⟩
              refine wp_aload_n (n := 70) K dX11_row_69 rfl rfl ?_
              refine wp_getF (n := 73) K dX11_row_70 rfl fl_X11_12 rfl (liS rfl) rfl rfl ?_
              refine wp_getF (n := 76) K dX11_row_73 rfl fl_X11_106 rfl (liS rfl) rfl rfl ?_
              refine wp_iload_n (n := 77) K dX11_row_76 rfl rfl ?_
              refine wp_iload (n := 79) K dX11_row_77 rfl rfl ?_
              refine wp_iload_n (n := 80) K dX11_row_79 rfl rfl ?_
              refine wp_invV_i (n := 83) K dX11_row_80 rfl cf_X11_261 (c_rowAt a n t ii len (by omega) (by omega) _ _ σ F hHA hw hn hF (by omega) (by omega) (by omega) hNN (fun j hj => gA1 j (by omega) (by omega))) rfl rfl rfl (liS rfl) rfl (by decide) ⟨Nat.le_refl _, Nat.le_refl _⟩ (Nat.le_of_ble_eq_true rfl) ?_
              refine wp_goto K dX11_row_83 (tgt := 87) (by decide) ?_
              refine ret_qi K dX11_row_87 ?_ rfl ?_ ?_ ⟨Nat.le_refl _, Nat.le_refl _⟩
              · rw [if_pos (by omega), if_neg (by omega), Int.toNat_natCast]
              · exact hA1
              · trivial
        · refine wp_iload (n := 58) K dX11_row_56 rfl rfl ?_
          refine ret_qi K dX11_row_58 ?_ rfl ?_ ?_ ⟨Nat.le_refl _, Nat.le_refl _⟩
          · rw [if_pos (by omega), if_pos (by omega)]; omega
          · exact hA1
          · trivial
      · refine wp_iconst (n := 50) K dX11_row_49 rfl ?_
        refine ret_qi K dX11_row_50 ?_ rfl ?_ ?_ ⟨Nat.le_refl _, Nat.le_refl _⟩
        · rw [if_neg (by omega)]
        · exact hA1
        · trivial
    · have c := of_decide_eq_false c25
      refine wp_iconst (n := 29) K dX11_row_28 rfl ?_
      refine ret_qi K dX11_row_29 ?_ rfl ?_ ?_ ⟨Nat.le_refl _, Nat.le_refl _⟩
      · rw [hno (fun q => c q.2.1)]
      · intro a _; rfl
      · trivial
