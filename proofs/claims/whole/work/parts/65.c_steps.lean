def rowC (W : Nat → Int) (x : Nat) (L n : Int) (sp ow : Nat → Int) : Nat → Int := cpy ow (cpy sp (up (up W x L) (x + 1) n) 0 (x + 2) 10) 0 (x + 12) 10
theorem rowC_0 (W : Nat → Int) (x : Nat) (L n : Int) (sp ow : Nat → Int) : rowC W x L n sp ow x = L := by
  unfold rowC cpy; rw [if_neg (by omega), if_neg (by omega), up_ne _ _ (by omega), up_same]
theorem rowC_1 (W : Nat → Int) (x : Nat) (L n : Int) (sp ow : Nat → Int) : rowC W x L n sp ow (x + 1) = n := by
  unfold rowC cpy; rw [if_neg (by omega), if_neg (by omega), up_same]
theorem rowC_s (W : Nat → Int) (x : Nat) (L n : Int) (sp ow : Nat → Int) (h : Nat) (hh : h < 10) : rowC W x L n sp ow (x + 2 + h) = sp h := by
  unfold rowC cpy; rw [if_neg (by omega), if_pos (by omega)]; congr 1; omega
theorem rowC_w (W : Nat → Int) (x : Nat) (L n : Int) (sp ow : Nat → Int) (h : Nat) (hh : h < 10) : rowC W x L n sp ow (x + 12 + h) = ow h := by
  unfold rowC cpy; rw [if_pos (by omega)]; congr 1; omega
theorem rowC_o (W : Nat → Int) (x : Nat) (L n : Int) (sp ow : Nat → Int) (j : Nat) (hj : j < x ∨ x + 22 ≤ j) : rowC W x L n sp ow j = W j := by
  unfold rowC cpy; rw [if_neg (by omega), if_neg (by omega), up_ne _ _ (by omega), up_ne _ _ (by omega)]
theorem GW.shift {f : Nat} {W σ : Nat → Int} (h : GW f 30 W σ) : GW ((f + 1) % 30) 29 W (up (shiftA σ 638) 6 29) := by
  intro k hk
  obtain ⟨g1, g2, g3⟩ := h (k + 1) (by omega)
  rw [show ((f + 1) % 30 + k) % 30 = (f + (k + 1)) % 30 by omega]
  have e : ∀ j, 120 ≤ j → j < 758 → up (shiftA σ 638) 6 29 j = σ (j + 22) := fun j h1 h2 => by
    rw [up_ne _ _ (by omega)]; unfold shiftA; rw [if_pos ⟨h1, by omega⟩]
  refine ⟨?_, ?_, fun i hi => ⟨?_, ?_⟩⟩
  · rw [g1, e _ (by omega) (by omega)]; congr 1
  · rw [g2, e _ (by omega) (by omega)]; congr 1
  · rw [(g3 i hi).1, e _ (by omega) (by omega)]; congr 1; omega
  · rw [(g3 i hi).2, e _ (by omega) (by omega)]; congr 1; omega
theorem GW.push {f c : Nat} {W τ : Nat → Int} (h : GW f c W τ) (hf : f < 30) (hc : c < 30) (v : Int) (sp ow : Nat → Int) (hs : ∀ i, i < 10 → sp i = τ (70 + 3 * i) ∧ ow i = τ (71 + 3 * i)) : GW f (c + 1) (rowC W (22 * ((f + c) % 30)) (τ 1) (τ 3) sp ow) (up (rowT τ (120 + 22 * c) 22) 6 v) := by
  intro k hk
  by_cases he : k = c
  · subst he
    have e : ∀ i, i < 22 → up (rowT τ (120 + 22 * k) 22) 6 v (120 + 22 * k + i) = stepR τ i := fun i hi => by
      rw [up_ne _ _ (by omega)]; unfold rowT; rw [if_pos (by omega)]; congr 1; omega
    refine ⟨?_, ?_, fun i hi => ⟨?_, ?_⟩⟩
    · rw [rowC_0]; exact (e 0 (by omega)).symm
    · rw [rowC_1]; rw [show 121 + 22 * k = 120 + 22 * k + 1 by omega, e 1 (by omega)]; rfl
    · rw [rowC_s _ _ _ _ _ _ i hi, (hs i hi).1, show 122 + 22 * k + 2 * i = 120 + 22 * k + (2 + 2 * i) by omega, e _ (by omega)]
      unfold stepR; rw [if_neg (by omega), if_neg (by omega), if_pos (by omega)]; congr 1; omega
    · rw [rowC_w _ _ _ _ _ _ i hi, (hs i hi).2, show 123 + 22 * k + 2 * i = 120 + 22 * k + (3 + 2 * i) by omega, e _ (by omega)]
      unfold stepR; rw [if_neg (by omega), if_neg (by omega), if_neg (by omega)]; congr 1; omega
  · obtain ⟨g1, g2, g3⟩ := h k (by omega)
    have e : ∀ j, 120 ≤ j → j < 120 + 22 * c → up (rowT τ (120 + 22 * c) 22) 6 v j = τ j := fun j h1 h2 => by
      rw [up_ne _ _ (by omega), rowT_lo _ _ _ _ h2]
    have hd : (f + k) % 30 ≠ (f + c) % 30 := by omega
    refine ⟨?_, ?_, fun i hi => ⟨?_, ?_⟩⟩
    · rw [rowC_o _ _ _ _ _ _ _ (by omega), e _ (by omega) (by omega)]; exact g1
    · rw [rowC_o _ _ _ _ _ _ _ (by omega), e _ (by omega) (by omega)]; exact g2
    · rw [rowC_o _ _ _ _ _ _ _ (by omega), e _ (by omega) (by omega)]; exact (g3 i hi).1
    · rw [rowC_o _ _ _ _ _ _ _ (by omega), e _ (by omega) (by omega)]; exact (g3 i hi).2

/-- from the place on where there is room -/
theorem c_keep2 {X : XT} {S : ST} {M0 M : MT} (σ τ : Nat → Int) (f c : Nat) (hf : f < 30) (hc : c < 30) (h1 : M 32 1 = (f : Int)) (h2 : M 32 2 = (c : Int)) (hg : GW f c (M 33) τ) (hH : HN M τ) (h6 : keepA σ = up (rowT τ (120 + 22 * c) 22) 6 ((c : Int) + 1)) (hM : ∀ a, a ∉ [32, 33] → M a = M0 a) (K : Ok E1 X yX7_keep cX7_keep 4 none rm_X7_keep (Qn [32, 33] S M0 (fun M1 => GN M1 (keepA σ))) S) (l3 : Value) : Wp E1 X 28 [.ref 32, .int (z (τ 1)), .ref 24, l3] [] S M := by
  refine wp_aload_n (n := 29) K dX7_keep_28 rfl rfl ?_
  refine wp_getI (n := 32) K dX7_keep_29 rfl fl_X7_15 rfl (liS rfl) rfl ?_
  try simp only [up_same, up_up, up_ne, ne_eq, Nat.reduceEqDiff, not_false_eq_true, Int.reduceToNat, Int.toNat_natCast]
  refine wp_aload_n (n := 33) K dX7_keep_32 rfl rfl ?_
  refine wp_getI (n := 36) K dX7_keep_33 rfl fl_X7_19 rfl (liS rfl) rfl ?_
  try simp only [up_same, up_up, up_ne, ne_eq, Nat.reduceEqDiff, not_false_eq_true, Int.reduceToNat, Int.toNat_natCast]
  refine wp_iadd (n := 37) K dX7_keep_36 rfl ?_
  refine wp_bipush (n := 39) K dX7_keep_37 rfl rfl ?_
  refine wp_irem (n := 40) K dX7_keep_39 rfl (by decide) ?_
  refine wp_bipush (n := 42) K dX7_keep_40 rfl rfl ?_
  refine wp_imul (n := 43) K dX7_keep_42 rfl ?_
  rw [h1, h2]
  have e : brem ((f : Int) + (c : Int)) 30 * 22 = ((22 * ((f + c) % 30) : Nat) : Int) := by
    have := brem_n (a := f + c) (d := 30) (by omega) (by omega) (by omega)
    rw [show (f : Int) + (c : Int) = ((f + c : Nat) : Int) by omega]
    rw [show (30 : Int) = ((30 : Nat) : Int) from rfl, this]; omega
  rw [e]
  generalize hr : (f + c) % 30 = r
  have hr30 : r < 30 := by omega
  refine wp_istore_n (n := 44) K dX7_keep_43 rfl (by decide) ?_
  refine wp_aload_n (n := 45) K dX7_keep_44 rfl rfl ?_
  refine wp_getF (n := 48) K dX7_keep_45 rfl fl_X7_11 rfl (liS rfl) rfl rfl ?_
  refine wp_iload_n (n := 49) K dX7_keep_48 rfl rfl ?_
  refine wp_iload_n (n := 50) K dX7_keep_49 rfl rfl ?_
  refine wp_iast (n := 51) K dX7_keep_50 rfl rfl (liS rfl) (fun _ => rfl) ⟨by omega, by omega, by omega⟩ ?_
  try simp only [up_same, up_up, up_ne, ne_eq, Nat.reduceEqDiff, not_false_eq_true, Int.reduceToNat, Int.toNat_natCast]
  refine wp_aload_n (n := 52) K dX7_keep_51 rfl rfl ?_
  refine wp_getF (n := 55) K dX7_keep_52 rfl fl_X7_11 rfl (liS rfl) rfl rfl ?_
  refine wp_iload_n (n := 56) K dX7_keep_55 rfl rfl ?_
  refine wp_iconst (n := 57) K dX7_keep_56 rfl ?_
  refine wp_iadd (n := 58) K dX7_keep_57 rfl ?_
  refine wp_aload_n (n := 59) K dX7_keep_58 rfl rfl ?_
  refine wp_getI (n := 62) K dX7_keep_59 rfl fl_X7_22 rfl (liS rfl) rfl ?_
  try simp only [up_same, up_up, up_ne, ne_eq, Nat.reduceEqDiff, not_false_eq_true, Int.reduceToNat, Int.toNat_natCast]
  refine wp_iast (n := 63) K dX7_keep_62 rfl rfl (liS rfl) (fun _ => rfl) ⟨by omega, by omega, by omega⟩ ?_
  try simp only [up_same, up_up, up_ne, ne_eq, Nat.reduceEqDiff, not_false_eq_true, Int.reduceToNat, Int.toNat_natCast]
  refine wp_aload_n (n := 64) K dX7_keep_63 rfl rfl ?_
  refine wp_getF (n := 67) K dX7_keep_64 rfl fl_X7_25 rfl (liS rfl) rfl rfl ?_
  refine wp_iconst (n := 68) K dX7_keep_67 rfl ?_
  refine wp_aload_n (n := 69) K dX7_keep_68 rfl rfl ?_
  refine wp_getF (n := 72) K dX7_keep_69 rfl fl_X7_11 rfl (liS rfl) rfl rfl ?_
  refine wp_iload_n (n := 73) K dX7_keep_72 rfl rfl ?_
  refine wp_iconst (n := 74) K dX7_keep_73 rfl ?_
  refine wp_iadd (n := 75) K dX7_keep_74 rfl ?_
  refine wp_bipush (n := 77) K dX7_keep_75 rfl rfl ?_
  refine wp_copy (n := 80) K dX7_keep_77 rfl ac_X7_28 rfl (liS rfl) rfl (liS rfl) (fun _ => rfl) ⟨by omega, by omega, by omega, by omega, by omega, by omega, by omega⟩ (by decide +kernel) ?_
  refine wp_aload_n (n := 81) K dX7_keep_80 rfl rfl ?_
  refine wp_getF (n := 84) K dX7_keep_81 rfl fl_X7_34 rfl (liS rfl) rfl rfl ?_
  refine wp_iconst (n := 85) K dX7_keep_84 rfl ?_
  refine wp_aload_n (n := 86) K dX7_keep_85 rfl rfl ?_
  refine wp_getF (n := 89) K dX7_keep_86 rfl fl_X7_11 rfl (liS rfl) rfl rfl ?_
  refine wp_iload_n (n := 90) K dX7_keep_89 rfl rfl ?_
  refine wp_bipush (n := 92) K dX7_keep_90 rfl rfl ?_
  refine wp_iadd (n := 93) K dX7_keep_92 rfl ?_
  refine wp_bipush (n := 95) K dX7_keep_93 rfl rfl ?_
  refine wp_copy (n := 98) K dX7_keep_95 rfl ac_X7_28 rfl (liS rfl) rfl (liS rfl) (fun _ => rfl) ⟨by omega, by omega, by omega, by omega, by omega, by omega, by omega⟩ (by decide +kernel) ?_
  refine wp_aload_n (n := 99) K dX7_keep_98 rfl rfl ?_
  refine wp_dup (n := 100) K dX7_keep_99 rfl rfl ?_
  refine wp_getI (n := 103) K dX7_keep_100 rfl fl_X7_19 rfl (liS rfl) rfl ?_
  try simp only [up_same, up_up, up_ne, ne_eq, Nat.reduceEqDiff, not_false_eq_true, Int.reduceToNat, Int.toNat_natCast]
  refine wp_iconst (n := 104) K dX7_keep_103 rfl ?_
  refine wp_iadd (n := 105) K dX7_keep_104 rfl ?_
  refine wp_putI (n := 108) K dX7_keep_105 rfl fl_X7_19 rfl (liS rfl) (Or.inl rfl) rfl rfl ?_
  try simp only [up_same, up_up, up_ne, ne_eq, Nat.reduceEqDiff, not_false_eq_true, Int.reduceToNat, Int.toNat_natCast]
  refine ret_qn K dX7_keep_108 rfl ?_ ?_ ⟨Nat.le_refl _, Nat.le_refl _⟩
  · intro a ha
    rw [← hM a ha]
    simp only [List.mem_cons, List.not_mem_nil, or_false, not_or] at ha
    simp [up, ha]
  · have hp := hg.push hf hc ((c : Int) + 1) (M 25) (M 26) (fun i hi => ⟨(hH.2 i hi).1, (hH.2 i hi).2.1⟩)
    rw [hr] at hp
    rw [h6]
    refine ⟨?_, ?_, ?_⟩
    · simp [up, h1]; omega
    · simp [up, h2]
    · rw [up_same (k := 6), show ((c : Int) + 1).toNat = c + 1 by omega]
      simp [up, h1]
      rw [show (22 * (r : Int) + 1).toNat = 22 * r + 1 by omega, show (22 * (r : Int) + 2).toNat = 22 * r + 2 by omega, show (22 * (r : Int) + 12).toNat = 22 * r + 12 by omega, hH.1]
      exact hp
theorem c_keep (S : ST) (M : MT) (σ : Nat → Int) (h6 : 0 ≤ σ 6 ∧ σ 6 ≤ 30) (hg : GN M σ) (hH : HN M σ) : Ct E1 yX7_keep cX7_keep 4 none rm_X7_keep [.ref 32, .int (z (σ 1)), .ref 24] S M (Qn [32, 33] S M (fun M1 => GN M1 (keepA σ))) := by
  obtain ⟨g1, g2, g3⟩ := hg
  refine Ct.mk [.ref 32, .int (z (σ 1)), .ref 24, mkV] (by decide) rfl (Nat.le_of_ble_eq_true rfl) (fun X K => ?_)
  refine wp_aload_n (n := 1) K dX7_keep_0 rfl rfl ?_
  refine wp_getI (n := 4) K dX7_keep_1 rfl fl_X7_19 rfl (liS rfl) rfl ?_
  try simp only [up_same, up_up, up_ne, ne_eq, Nat.reduceEqDiff, not_false_eq_true, Int.reduceToNat, Int.toNat_natCast]
  refine wp_bipush (n := 6) K dX7_keep_4 rfl rfl ?_
  refine wp_icmp_lt (n := 9) K dX7_keep_6 rfl (tgt := 28) (by decide) ⟨by omega, by omega⟩ ⟨by omega, by omega⟩ (fun c6 => ?_) (fun c6 => ?_)
  · have e : keep1 σ = σ := by unfold keep1; rw [if_neg (by omega)]
    exact c_keep2 σ σ (M 32 1).toNat (σ 6).toNat (by omega) (by omega) (by omega) (by omega) g3 hH (by unfold keepA; rw [e, show (((σ 6).toNat : Nat) : Int) = σ 6 by omega]) (fun a _ => rfl) K mkV
  · have h30 : σ 6 = 30 := by omega
    have e : keep1 σ = up (shiftA σ 638) 6 29 := by unfold keep1; rw [if_pos h30]
    have e1 : up (shiftA σ 638) 6 29 1 = σ 1 := by rw [up_ne _ _ (by decide), shiftA_lo _ _ _ (by omega)]
    have e3 : ∀ j, j < 120 → j ≠ 6 → up (shiftA σ 638) 6 29 j = σ j := fun j h1 h2 => by rw [up_ne _ _ h2, shiftA_lo _ _ _ (by omega)]
    rw [h30] at g3
    have h := GW.shift g3
    refine wp_aload_n (n := 10) K dX7_keep_9 rfl rfl ?_
    refine wp_aload_n (n := 11) K dX7_keep_10 rfl rfl ?_
    refine wp_getI (n := 14) K dX7_keep_11 rfl fl_X7_15 rfl (liS rfl) rfl ?_
    try simp only [up_same, up_up, up_ne, ne_eq, Nat.reduceEqDiff, not_false_eq_true, Int.reduceToNat, Int.toNat_natCast]
    refine wp_iconst (n := 15) K dX7_keep_14 rfl ?_
    refine wp_iadd (n := 16) K dX7_keep_15 rfl ?_
    refine wp_bipush (n := 18) K dX7_keep_16 rfl rfl ?_
    refine wp_irem (n := 19) K dX7_keep_18 rfl (by decide) ?_
    have er : brem (M 32 1 + 1) 30 = ((((M 32 1).toNat + 1) % 30 : Nat) : Int) := by
      have := brem_n (a := (M 32 1).toNat + 1) (d := 30) (by omega) (by omega) (by omega)
      rw [show M 32 1 + 1 = (((M 32 1).toNat + 1 : Nat) : Int) by omega]
      exact this
    rw [er]
    refine wp_putI (n := 22) K dX7_keep_19 rfl fl_X7_15 rfl (liS rfl) (Or.inl rfl) rfl rfl ?_
    try simp only [up_same, up_up, up_ne, ne_eq, Nat.reduceEqDiff, not_false_eq_true, Int.reduceToNat, Int.toNat_natCast]
    refine wp_aload_n (n := 23) K dX7_keep_22 rfl rfl ?_
    refine wp_bipush (n := 25) K dX7_keep_23 rfl rfl ?_
    refine wp_putI (n := 28) K dX7_keep_25 rfl fl_X7_19 rfl (liS rfl) (Or.inl rfl) rfl rfl ?_
    try simp only [up_same, up_up, up_ne, ne_eq, Nat.reduceEqDiff, not_false_eq_true, Int.reduceToNat, Int.toNat_natCast]
    have k2 := c_keep2 (X := X) (S := S) (M0 := M) (M := up M 32 (up (up (M 32) 1 ((((M 32 1).toNat + 1) % 30 : Nat) : Int)) 2 29)) σ (up (shiftA σ 638) 6 29) (((M 32 1).toNat + 1) % 30) 29 (by omega) (by decide) (by simp [up]) (by simp [up]) (by simpa [up] using h)
      ⟨by rw [e3 _ (by decide) (by decide)]; simpa [up] using hH.1, fun i hi => by rw [e3 _ (by omega) (by omega), e3 _ (by omega) (by omega), e3 _ (by omega) (by omega)]; simpa [up] using hH.2 i hi⟩ (by unfold keepA; rw [e]; simp [up_same]) (by (intro a ha; simp only [List.mem_cons, List.not_mem_nil, or_false, not_or] at ha; simp [up, ha])) K mkV
    rw [e1] at k2
    exact k2

theorem c_takeLatest (S : ST) (M : MT) (σ : Nat → Int) (h6 : 0 < σ 6 ∧ σ 6 ≤ 30) (hg : GN M σ) (hH : HN M σ) (hs : ∀ i : Nat, i < 30 → 0 ≤ σ (121 + 22 * i) ∧ σ (121 + 22 * i) ≤ 10) : Ct E1 yX7_takeLatest cX7_takeLatest 4 (some .int) rm_X7_takeLatest [.ref 32, .ref 24] S M (Qi (undoA σ 1) [25, 26, 32] S M (fun M1 => GN M1 (undoA σ) ∧ HN M1 (undoA σ))) := by
  obtain ⟨g1, g2, g3⟩ := hg
  obtain ⟨c, hc⟩ : ∃ c : Nat, σ 6 = (c : Int) + 1 := ⟨(σ 6 - 1).toNat, by omega⟩
  have e6 : (σ 6).toNat = c + 1 := by omega
  have ec : (σ 6 - 1).toNat = c := by omega
  rw [e6] at g3
  obtain ⟨r1, r2, r3⟩ := g3 c (by omega)
  have hn := hs c (by omega)
  obtain ⟨n, hn1⟩ : ∃ n : Nat, σ (121 + 22 * c) = (n : Int) := ⟨(σ (121 + 22 * c)).toNat, by omega⟩
  generalize hf : (M 32 1).toNat = f at g3 r1 r2 r3
  have hf1 : M 32 1 = (f : Int) := by omega
  generalize hr : (f + c) % 30 = r at r1 r2 r3
  have hr30 : r < 30 := by omega
  have eU : undoA σ = undoT (undo1 σ) (120 + 22 * c) n := by unfold undoA; rw [ec, hn1]; rfl
  have eo : ∀ j, j ≠ 6 → j ≠ 1 → undo1 σ j = σ j := fun j h1 h2 => by unfold undo1; rw [up_ne _ _ h2, up_ne _ _ h1]
  have eL : undoA σ 1 = σ (120 + 22 * c) := by rw [eU, undoT_lo _ _ _ _ (by omega)]; unfold undo1; rw [up_same, ec]
  have e6' : undoA σ 6 = (c : Int) := by rw [eU, undoT_lo _ _ _ _ (by omega)]; unfold undo1; rw [up_ne _ _ (by decide), up_same]; omega
  have eh : ∀ j, 100 ≤ j → undoA σ j = σ j := fun j hj => by rw [eU, undoT_lo _ _ _ _ (by omega), eo _ (by omega) (by omega)]
  refine Ct.mk [.ref 32, .ref 24, mkV, mkV] (by decide) rfl (Nat.le_of_ble_eq_true rfl) (fun X K => ?_)
  refine wp_aload_n (n := 1) K dX7_takeLatest_0 rfl rfl ?_
  refine wp_dup (n := 2) K dX7_takeLatest_1 rfl rfl ?_
  refine wp_getI (n := 5) K dX7_takeLatest_2 rfl fl_X7_19 rfl (liS rfl) rfl ?_
  try simp only [up_same, up_up, up_ne, ne_eq, Nat.reduceEqDiff, not_false_eq_true, Int.reduceToNat, Int.toNat_natCast]
  refine wp_iconst (n := 6) K dX7_takeLatest_5 rfl ?_
  refine wp_isub (n := 7) K dX7_takeLatest_6 rfl ?_
  refine wp_putI (n := 10) K dX7_takeLatest_7 rfl fl_X7_19 rfl (liS rfl) (Or.inl rfl) rfl rfl ?_
  try simp only [up_same, up_up, up_ne, ne_eq, Nat.reduceEqDiff, not_false_eq_true, Int.reduceToNat, Int.toNat_natCast]
  refine wp_aload_n (n := 11) K dX7_takeLatest_10 rfl rfl ?_
  refine wp_getI (n := 14) K dX7_takeLatest_11 rfl fl_X7_15 rfl (liS rfl) rfl ?_
  try simp only [up_same, up_up, up_ne, ne_eq, Nat.reduceEqDiff, not_false_eq_true, Int.reduceToNat, Int.toNat_natCast]
  refine wp_aload_n (n := 15) K dX7_takeLatest_14 rfl rfl ?_
  refine wp_getI (n := 18) K dX7_takeLatest_15 rfl fl_X7_19 rfl (liS rfl) rfl ?_
  try simp only [up_same, up_up, up_ne, ne_eq, Nat.reduceEqDiff, not_false_eq_true, Int.reduceToNat, Int.toNat_natCast]
  refine wp_iadd (n := 19) K dX7_takeLatest_18 rfl ?_
  refine wp_bipush (n := 21) K dX7_takeLatest_19 rfl rfl ?_
  refine wp_irem (n := 22) K dX7_takeLatest_21 rfl (by decide) ?_
  refine wp_bipush (n := 24) K dX7_takeLatest_22 rfl rfl ?_
  refine wp_imul (n := 25) K dX7_takeLatest_24 rfl ?_
  rw [hf1, g2, hc]
  have e : brem ((f : Int) + ((c : Int) + 1 - 1)) 30 * 22 = ((22 * r : Nat) : Int) := by
    have := brem_n (a := f + c) (d := 30) (by omega) (by omega) (by omega)
    rw [show (f : Int) + ((c : Int) + 1 - 1) = ((f + c : Nat) : Int) by omega, show (30 : Int) = ((30 : Nat) : Int) from rfl, this]; omega
  rw [e]
  refine wp_istore_n (n := 26) K dX7_takeLatest_25 rfl (by decide) ?_
  refine wp_aload_n (n := 27) K dX7_takeLatest_26 rfl rfl ?_
  refine wp_getF (n := 30) K dX7_takeLatest_27 rfl fl_X7_11 rfl (liS rfl) rfl rfl ?_
  refine wp_iload_n (n := 31) K dX7_takeLatest_30 rfl rfl ?_
  refine wp_iconst (n := 32) K dX7_takeLatest_31 rfl ?_
  refine wp_iadd (n := 33) K dX7_takeLatest_32 rfl ?_
  refine wp_iald (n := 34) K dX7_takeLatest_33 rfl rfl (liS rfl) ⟨by omega, by omega, by omega⟩ ?_
  try simp only [up_same, up_up, up_ne, ne_eq, Nat.reduceEqDiff, not_false_eq_true, Int.reduceToNat, Int.toNat_natCast]
  rw [show ((22 * r : Nat) : Int) + 1 = ((22 * r + 1 : Nat) : Int) by omega, Int.toNat_natCast, r2, hn1]
  have em : min (n : Int) 10 = (n : Int) := by omega
  refine wp_bipush (n := 36) K dX7_takeLatest_34 rfl rfl ?_
  refine wp_invS_i (n := 39) K dX7_takeLatest_36 rfl cf_X7_37 (j_min _ _ ⟨by omega, by omega⟩ ⟨by omega, by omega⟩ _ _) rfl rfl (by decide) ⟨Nat.le_refl _, Nat.le_refl _⟩ (Nat.le_of_ble_eq_true rfl) ?_
  rw [em]
  refine wp_istore_n (n := 40) K dX7_takeLatest_39 rfl (by decide) ?_
  refine wp_aload_n (n := 41) K dX7_takeLatest_40 rfl rfl ?_
  refine wp_getF (n := 44) K dX7_takeLatest_41 rfl fl_X7_11 rfl (liS rfl) rfl rfl ?_
  refine wp_iload_n (n := 45) K dX7_takeLatest_44 rfl rfl ?_
  refine wp_iconst (n := 46) K dX7_takeLatest_45 rfl ?_
  refine wp_iadd (n := 47) K dX7_takeLatest_46 rfl ?_
  refine wp_aload_n (n := 48) K dX7_takeLatest_47 rfl rfl ?_
  refine wp_getF (n := 51) K dX7_takeLatest_48 rfl fl_X7_25 rfl (liS rfl) rfl rfl ?_
  refine wp_iconst (n := 52) K dX7_takeLatest_51 rfl ?_
  refine wp_iload_n (n := 53) K dX7_takeLatest_52 rfl rfl ?_
  refine wp_copy (n := 56) K dX7_takeLatest_53 rfl ac_X7_28 rfl (liS rfl) rfl (liS rfl) (fun _ => rfl) ⟨by omega, by omega, by omega, by omega, by omega, by omega, by omega⟩ (by decide +kernel) ?_
  refine wp_aload_n (n := 57) K dX7_takeLatest_56 rfl rfl ?_
  refine wp_getF (n := 60) K dX7_takeLatest_57 rfl fl_X7_11 rfl (liS rfl) rfl rfl ?_
  refine wp_iload_n (n := 61) K dX7_takeLatest_60 rfl rfl ?_
  refine wp_bipush (n := 63) K dX7_takeLatest_61 rfl rfl ?_
  refine wp_iadd (n := 64) K dX7_takeLatest_63 rfl ?_
  refine wp_aload_n (n := 65) K dX7_takeLatest_64 rfl rfl ?_
  refine wp_getF (n := 68) K dX7_takeLatest_65 rfl fl_X7_34 rfl (liS rfl) rfl rfl ?_
  refine wp_iconst (n := 69) K dX7_takeLatest_68 rfl ?_
  refine wp_iload_n (n := 70) K dX7_takeLatest_69 rfl rfl ?_
  refine wp_copy (n := 73) K dX7_takeLatest_70 rfl ac_X7_28 rfl (liS rfl) rfl (liS rfl) (fun _ => rfl) ⟨by omega, by omega, by omega, by omega, by omega, by omega, by omega⟩ (by decide +kernel) ?_
  refine wp_aload_n (n := 74) K dX7_takeLatest_73 rfl rfl ?_
  refine wp_getF (n := 77) K dX7_takeLatest_74 rfl fl_X7_11 rfl (liS rfl) rfl rfl ?_
  refine wp_iload_n (n := 78) K dX7_takeLatest_77 rfl rfl ?_
  refine wp_iald (n := 79) K dX7_takeLatest_78 rfl rfl (liS rfl) ⟨by omega, by omega, by omega⟩ ?_
  try simp only [up_same, up_up, up_ne, ne_eq, Nat.reduceEqDiff, not_false_eq_true, Int.reduceToNat, Int.toNat_natCast]
  refine ret_qi K dX7_takeLatest_79 ?_ rfl ?_ ?_ ⟨Nat.le_refl _, Nat.le_refl _⟩
  · rw [eL]; simpa using r1
  · (intro a ha; simp only [List.mem_cons, List.not_mem_nil, or_false, not_or] at ha; simp [up, ha])
  · have q1 : ((22 * r : Nat) : Int) + 2 = ((22 * r + 2 : Nat) : Int) := by omega
    have q2 : ((22 * r : Nat) : Int) + 12 = ((22 * r + 12 : Nat) : Int) := by omega
    refine ⟨⟨?_, ?_, ?_⟩, ?_, fun h hh => ?_⟩
    · simp [up, hf1]; omega
    · rw [e6']; simp [up]
    · rw [e6', Int.toNat_natCast]
      simp [up, hf1]
      intro k hk
      rw [eh _ (by omega), eh _ (by omega)]
      obtain ⟨u1, u2, u3⟩ := g3 k (by omega)
      refine ⟨u1, u2, fun i hi => ?_⟩
      rw [eh _ (by omega), eh _ (by omega)]
      exact u3 i hi
    · rw [eU, undoT_lo _ _ _ _ (by omega), eo _ (by decide) (by decide)]; simpa [up] using hH.1
    · obtain ⟨w1, w2, w3⟩ := hH.2 h hh
      rw [q1, q2]
      simp [up]
      rw [eU]
      refine ⟨?_, ?_, ?_⟩
      · unfold cpy undoT
        by_cases hk : h < n
        · rw [if_pos (by omega), if_pos (by omega), if_pos (by omega), eo _ (by omega) (by omega)]
          rw [show (22 * (r : Int) + 2).toNat + (h - 0) = 22 * r + 2 + h by omega, (r3 h hh).1]; congr 1; omega
        · rw [if_neg (by omega), if_neg (by omega), eo _ (by omega) (by omega)]; exact w1
      · unfold cpy undoT
        by_cases hk : h < n
        · rw [if_pos (by omega), if_pos (by omega), if_neg (by omega), eo _ (by omega) (by omega)]
          rw [show (22 * (r : Int) + 12).toNat + (h - 0) = 22 * r + 12 + h by omega, (r3 h hh).2]; congr 1; omega
        · rw [if_neg (by omega), if_neg (by omega), eo _ (by omega) (by omega)]; exact w2
      · unfold undoT
        rw [if_neg (by omega), eo _ (by omega) (by omega)]; exact w3
