theorem SNm {M M' : MT} {σ : Nat → Int} (h : SN M σ) (e : ∀ a, 18 ≤ a → a ≤ 23 → M' a = M a) : SN M' σ := by
  unfold SN SR; rw [e 18 (by decide) (by decide), e 19 (by decide) (by decide), e 20 (by decide) (by decide), e 21 (by decide) (by decide), e 22 (by decide) (by decide), e 23 (by decide) (by decide)]; exact h
theorem HNm {M M' : MT} {σ : Nat → Int} (h : HN M σ) (e : ∀ a, 24 ≤ a → a ≤ 27 → M' a = M a) : HN M' σ := by
  unfold HN HR; rw [e 24 (by decide) (by decide), e 25 (by decide) (by decide), e 26 (by decide) (by decide), e 27 (by decide) (by decide)]; exact h
theorem NNm {M M' : MT} {σ : Nat → Int} (h : NN M σ) (e : ∀ a, 29 ≤ a → a ≤ 31 → M' a = M a) : NN M' σ := by
  unfold NN NR; rw [e 29 (by decide) (by decide), e 30 (by decide) (by decide), e 31 (by decide) (by decide)]; exact h
theorem GNm {M M' : MT} {σ : Nat → Int} (h : GN M σ) (e : ∀ a, 32 ≤ a → a ≤ 33 → M' a = M a) : GN M' σ := by
  unfold GN GR; rw [e 32 (by decide) (by decide), e 33 (by decide) (by decide)]; exact h
theorem SNs {M : MT} {σ τ : Nat → Int} (h : SN M σ) (e : ∀ j, j = 0 ∨ (10 ≤ j ∧ j < 70) → τ j = σ j) : SN M τ :=
  ⟨by rw [e 0 (by omega)]; exact h.1, fun s hs => by rw [e _ (by omega), e _ (by omega), e _ (by omega), e _ (by omega), e _ (by omega)]; exact h.2 s hs⟩
theorem HNs {M : MT} {σ τ : Nat → Int} (h : HN M σ) (e : ∀ j, j = 3 ∨ (70 ≤ j ∧ j < 100) → τ j = σ j) : HN M τ :=
  ⟨by rw [e 3 (by omega)]; exact h.1, fun s hs => by rw [e _ (by omega), e _ (by omega), e _ (by omega)]; exact h.2 s hs⟩
theorem NNs {M : MT} {σ τ : Nat → Int} (h : NN M σ) (e : ∀ j, j = 7 ∨ (100 ≤ j ∧ j < 120) → τ j = σ j) : NN M τ :=
  ⟨by rw [e 7 (by omega)]; exact h.1, fun s hs => by rw [e _ (by omega), e _ (by omega)]; exact h.2 s hs⟩
theorem GNs {M : MT} {σ τ : Nat → Int} (h : GN M σ) (e : ∀ j, j = 6 ∨ 120 ≤ j → τ j = σ j) : GN M τ := by
  refine ⟨h.1, by rw [e 6 (by omega)]; exact h.2.1, fun k hk => ?_⟩
  rw [e 6 (by omega)] at hk
  obtain ⟨u1, u2, u3⟩ := h.2.2 k hk
  refine ⟨by rw [e _ (by omega)]; exact u1, by rw [e _ (by omega)]; exact u2, fun i hi => by rw [e _ (by omega), e _ (by omega)]; exact u3 i hi⟩
/-- all of the state that is now -/
def CN (M : MT) (σ : Nat → Int) : Prop := SN M σ ∧ HN M σ ∧ NN M σ ∧ GN M σ ∧ FD 17 M σ
theorem CN.mem {M M' : MT} {σ : Nat → Int} (h : CN M σ) (e : ∀ a, 17 ≤ a → a ≤ 33 → a ≠ 28 → M' a = M a) : CN M' σ :=
  ⟨SNm h.1 (fun a h1 h2 => e a (by omega) (by omega) (by omega)), HNm h.2.1 (fun a h1 h2 => e a (by omega) (by omega) (by omega)), NNm h.2.2.1 (fun a h1 h2 => e a (by omega) (by omega) (by omega)), GNm h.2.2.2.1 (fun a h1 h2 => e a (by omega) (by omega) (by omega)), by unfold FD; rw [e 17 (by decide) (by decide) (by decide)]; exact h.2.2.2.2⟩
/-- what a step keeps -/
theorem keep_rest {M : MT} {σ : Nat → Int} (h6 : 0 ≤ σ 6 ∧ σ 6 ≤ 30) (h : CN M σ) {M1 : MT} (hM : ∀ a, a ∉ [32, 33] → M1 a = M a) (g : GN M1 (keepA σ)) : CN M1 (keepA σ) := by
  have e := keepA_h σ h6
  refine ⟨SNs (SNm h.1 (fun a h1 h2 => hM a (by simp; omega))) (fun j hj => e j (by omega) (by omega)), HNs (HNm h.2.1 (fun a h1 h2 => hM a (by simp; omega))) (fun j hj => e j (by omega) (by omega)), NNs (NNm h.2.2.1 (fun a h1 h2 => hM a (by simp; omega))) (fun j hj => e j (by omega) (by omega)), g, ?_⟩
  unfold FD
  rw [hM 17 (by decide), e 4 (by decide) (by decide), e 5 (by decide) (by decide), e 2 (by decide) (by decide), e 1 (by decide) (by decide)]
  exact h.2.2.2.2
theorem lend_rest {M : MT} {σ : Nat → Int} (h : CN M σ) {M1 : MT} (hM : ∀ a, a ∉ [25, 26] → M1 a = M a) {x t : Nat} (hx : x < 10) (ht : t < 10) (g : HN M1 (lendsA σ x t)) : CN M1 (lendsA σ x t) := by
  have e : ∀ j, (j < 70 ∨ 100 ≤ j) → lendsA σ x t j = σ j := fun j hj => lendsA_o σ x t j (fun k hk => by omega) (fun k hk => by omega) hx ht
  refine ⟨SNs (SNm h.1 (fun a h1 h2 => hM a (by simp; omega))) (fun j hj => e j (by omega)), g, NNs (NNm h.2.2.1 (fun a h1 h2 => hM a (by simp; omega))) (fun j hj => e j (by omega)), GNs (GNm h.2.2.2.1 (fun a h1 h2 => hM a (by simp; omega))) (fun j hj => e j (by omega)), ?_⟩
  unfold FD
  rw [hM 17 (by decide), e 4 (by omega), e 5 (by omega), e 2 (by omega), e 1 (by omega)]
  exact h.2.2.2.2
theorem laid_rest {M : MT} {σ : Nat → Int} (h : CN M σ) (v : Int) : CN (up M 17 (up (M 17) 9 v)) (up σ 1 v) := by
  have e : ∀ j, j ≠ 1 → up σ 1 v j = σ j := fun j hj => up_ne _ _ hj
  have em : ∀ a, a ≠ 17 → up M 17 (up (M 17) 9 v) a = M a := fun a ha => up_ne _ _ ha
  refine ⟨SNs (SNm h.1 (fun a h1 h2 => em a (by omega))) (fun j hj => e j (by omega)), HNs (HNm h.2.1 (fun a h1 h2 => em a (by omega))) (fun j hj => e j (by omega)), NNs (NNm h.2.2.1 (fun a h1 h2 => em a (by omega))) (fun j hj => e j (by omega)), GNs (GNm h.2.2.2.1 (fun a h1 h2 => em a (by omega))) (fun j hj => e j (by omega)), ?_⟩
  have := h.2.2.2.2
  unfold FD at this ⊢
  simp [up]
  exact ⟨this.1, this.2.1, this.2.2.1⟩

theorem c_lend (x t : Int) (h1 : InR x) (h2 : InR t) (S : ST) (M : MT) (σ : Nat → Int) (h : CN M σ) (hw : WH σ) (h6 : 0 ≤ σ 6 ∧ σ 6 ≤ 30) : (canL σ x t → Ct E1 yX11_lend cX11_lend 3 (some .int) rm_X11_lend [.ref 16, .int (z x), .int (z t)] S M (Qi (lendsA (keepA σ) x.toNat t.toNat (70 + 3 * x.toNat)) [25, 26, 32, 33] S M (fun M1 => CN M1 (lendsA (keepA σ) x.toNat t.toNat)))) ∧ (¬ canL σ x t → Ct E1 yX11_lend cX11_lend 3 (some .int) rm_X11_lend [.ref 16, .int (z x), .int (z t)] S M (Pi (-1) S M)) := by
  have h3 := hw.1
  refine ⟨fun c => ?_, fun c => ?_⟩
  · obtain ⟨c1, c2, c3, c4⟩ := c
    refine Ct.mk [.ref 16, .int (z x), .int (z t)] (by decide) rfl (Nat.le_of_ble_eq_true rfl) (fun X K => ?_)
    refine wp_aload_n (n := 1) K dX11_lend_0 rfl rfl ?_
    refine wp_getF (n := 4) K dX11_lend_1 rfl fl_X11_12 rfl (liS rfl) rfl rfl ?_
    refine wp_getF (n := 7) K dX11_lend_4 rfl fl_X11_106 rfl (liS rfl) rfl rfl ?_
    refine wp_iload_n (n := 8) K dX11_lend_7 rfl rfl ?_
    refine wp_iload_n (n := 9) K dX11_lend_8 rfl rfl ?_
    refine wp_invV_i (n := 12) K dX11_lend_9 rfl cf_X11_197 (c_canLend x t h1 h2 _ _ σ h.2.1 hw true ⟨fun _ => ⟨c1, c2, c3, c4⟩, fun _ => rfl⟩) rfl rfl rfl (liS rfl) rfl (by decide) ⟨Nat.le_refl _, Nat.le_refl _⟩ (Nat.le_of_ble_eq_true rfl) ?_
    refine wp_if_ne_b (n := 15) K dX11_lend_12 rfl (tgt := 17) (by decide) (fun c12 => ?_) (fun c12 => ?_)
    · refine wp_aload_n (n := 18) K dX11_lend_17 rfl rfl ?_
      refine wp_getF (n := 21) K dX11_lend_18 rfl fl_X11_12 rfl (liS rfl) rfl rfl ?_
      refine wp_getF (n := 24) K dX11_lend_21 rfl fl_X11_187 rfl (liS rfl) rfl rfl ?_
      refine wp_aload_n (n := 25) K dX11_lend_24 rfl rfl ?_
      refine wp_getF (n := 28) K dX11_lend_25 rfl fl_X11_12 rfl (liS rfl) rfl rfl ?_
      refine wp_getI (n := 31) K dX11_lend_28 rfl fl_X11_177 rfl (liS rfl) rfl ?_
      try simp only [up_same, up_up, up_ne, ne_eq, Nat.reduceEqDiff, not_false_eq_true, Int.reduceToNat, Int.toNat_natCast]
      refine wp_aload_n (n := 32) K dX11_lend_31 rfl rfl ?_
      refine wp_getF (n := 35) K dX11_lend_32 rfl fl_X11_12 rfl (liS rfl) rfl rfl ?_
      refine wp_getF (n := 38) K dX11_lend_35 rfl fl_X11_106 rfl (liS rfl) rfl rfl ?_
      rw [h.2.2.2.2.2.2.2]
      refine wp_invV_qn (n := 41) K dX11_lend_38 rfl cf_X11_191 (c_keep _ _ σ h6 h.2.2.2.1 h.2.1) rfl rfl rfl (liS rfl) rfl (by decide) ⟨Nat.le_refl _, Nat.le_refl _⟩ (Nat.le_of_ble_eq_true rfl) (fun A1 hA1 gA1 => ?_)
      refine wp_aload_n (n := 42) K dX11_lend_41 rfl rfl ?_
      refine wp_getF (n := 45) K dX11_lend_42 rfl fl_X11_12 rfl (liS rfl) rfl rfl ?_
      refine wp_getF (n := 48) K dX11_lend_45 rfl fl_X11_106 rfl (liS rfl) rfl rfl ?_
      refine wp_iload_n (n := 49) K dX11_lend_48 rfl rfl ?_
      refine wp_iload_n (n := 50) K dX11_lend_49 rfl rfl ?_
      have g1 := keep_rest h6 h hA1 gA1
      have e1 : x = (x.toNat : Int) := by omega
      have e2 : t = (t.toNat : Int) := by omega
      generalize x.toNat = u at e1 K ⊢
      generalize t.toNat = v at e2 K ⊢
      subst e1 e2
      refine wp_invV_qn (n := 53) K dX11_lend_50 rfl cf_X11_200 (c_moveOne u v (by omega) (by omega) _ _ _ g1.2.1) rfl rfl rfl (liS rfl) rfl (by decide) ⟨Nat.le_refl _, Nat.le_refl _⟩ (Nat.le_of_ble_eq_true rfl) (fun A2 hA2 gA2 => ?_)
      refine wp_aload_n (n := 54) K dX11_lend_53 rfl rfl ?_
      refine wp_getF (n := 57) K dX11_lend_54 rfl fl_X11_12 rfl (liS rfl) rfl rfl ?_
      refine wp_getF (n := 60) K dX11_lend_57 rfl fl_X11_106 rfl (liS rfl) rfl rfl ?_
      refine wp_getF (n := 63) K dX11_lend_60 rfl fl_X11_113 rfl (liS rfl) rfl rfl ?_
      refine wp_iload_n (n := 64) K dX11_lend_63 rfl rfl ?_
      refine wp_iald (n := 65) K dX11_lend_64 rfl rfl (liS rfl) ⟨by omega, by omega, by omega⟩ ?_
      try simp only [up_same, up_up, up_ne, ne_eq, Nat.reduceEqDiff, not_false_eq_true, Int.reduceToNat, Int.toNat_natCast]
      refine ret_qi K dX11_lend_65 ?_ rfl ?_ ?_ ⟨Nat.le_refl _, Nat.le_refl _⟩
      · exact (gA2.2 u (by omega)).1
      · intro a ha
        simp only [List.mem_cons, List.not_mem_nil, or_false, not_or] at ha
        rw [hA2 a (by simp [ha]), hA1 a (by simp [ha])]
      · exact lend_rest g1 hA2 (by omega) (by omega) gA2
    · cases c12
  · refine Ct.mk [.ref 16, .int (z x), .int (z t)] (by decide) rfl (Nat.le_of_ble_eq_true rfl) (fun X K => ?_)
    refine wp_aload_n (n := 1) K dX11_lend_0 rfl rfl ?_
    refine wp_getF (n := 4) K dX11_lend_1 rfl fl_X11_12 rfl (liS rfl) rfl rfl ?_
    refine wp_getF (n := 7) K dX11_lend_4 rfl fl_X11_106 rfl (liS rfl) rfl rfl ?_
    refine wp_iload_n (n := 8) K dX11_lend_7 rfl rfl ?_
    refine wp_iload_n (n := 9) K dX11_lend_8 rfl rfl ?_
    refine wp_invV_i (n := 12) K dX11_lend_9 rfl cf_X11_197 (c_canLend x t h1 h2 _ _ σ h.2.1 hw false ⟨(fun q => by cases q), fun q => absurd q c⟩) rfl rfl rfl (liS rfl) rfl (by decide) ⟨Nat.le_refl _, Nat.le_refl _⟩ (Nat.le_of_ble_eq_true rfl) ?_
    refine wp_if_ne_b (n := 15) K dX11_lend_12 rfl (tgt := 17) (by decide) (fun c12 => ?_) (fun c12 => ?_)
    · cases c12
    · refine wp_iconst (n := 16) K dX11_lend_15 rfl ?_
      refine ret_i K dX11_lend_16 ?_ rfl ?_ ⟨Nat.le_refl _, Nat.le_refl _⟩
      · rfl
      · rfl
theorem wo_ltn {a b n : Nat} (h : a < n) : wo a b < n := Nat.lt_of_le_of_lt (wo_le a b) h

theorem c_out (s : Int) (hs : InR s) (S : ST) (M : MT) (σ : Nat → Int) (h : CN M σ) (hw : WS σ) (h6 : 0 ≤ σ 6 ∧ σ 6 ≤ 30) (L : Nat) (hL : σ 1 = L) (hL2 : L < 4096) : ((0 ≤ s ∧ s < σ 0) ∧ L.testBit s.toNat = true ∧ standB σ (wo L (2 ^ s.toNat)) = true → Ct E1 yX11_out cX11_out 3 (some .int) rm_X11_out [.ref 16, .int (z s)] S M (Qi (cnt 12 (wo L (2 ^ s.toNat)) : Int) [17, 32, 33] S M (fun M1 => CN M1 (up (keepA σ) 1 ((wo L (2 ^ s.toNat) : Nat) : Int))))) ∧ (¬ ((0 ≤ s ∧ s < σ 0) ∧ L.testBit s.toNat = true ∧ standB σ (wo L (2 ^ s.toNat)) = true) → Ct E1 yX11_out cX11_out 3 (some .int) rm_X11_out [.ref 16, .int (z s)] S M (Pi (-1) S M)) := by
  have h0 := hw.1
  have hwo : wo L (2 ^ s.toNat) < 4096 := wo_ltn hL2
  have eL : M 17 9 = (L : Int) := by rw [h.2.2.2.2.2.2.2, hL]
  have key : 0 ≤ s → s < 12 → band (M 17 9) (bxor (bshl 1 s) (-1)) = ((wo L (2 ^ s.toNat) : Nat) : Int) := fun q1 q2 => by
    rw [eL]
    obtain ⟨n, rfl⟩ := Int.eq_ofNat_of_zero_le q1
    rw [bshl_1 (by omega), bandn_n (by omega) (Nat.lt_of_lt_of_le (Nat.pow_lt_pow_right (by decide) (show n < 31 by omega)) (by decide))]
    simp
  refine ⟨fun c => ?_, fun c => ?_⟩
  · obtain ⟨c1, c2, c3⟩ := c
    have e1 : s = (s.toNat : Int) := by omega
    have key := key (by omega) (by omega)
    refine Ct.mk [.ref 16, .int (z s), mkV] (by decide) rfl (Nat.le_of_ble_eq_true rfl) (fun X K => ?_)
    refine wp_aload_n (n := 1) K dX11_out_0 rfl rfl ?_
    refine wp_getF (n := 4) K dX11_out_1 rfl fl_X11_12 rfl (liS rfl) rfl rfl ?_
    refine wp_getF (n := 7) K dX11_out_4 rfl fl_X11_65 rfl (liS rfl) rfl rfl ?_
    refine wp_iload_n (n := 8) K dX11_out_7 rfl rfl ?_
    refine wp_invV_i (n := 11) K dX11_out_8 rfl cf_X11_163 (c_hasS s hs _ _ σ h.1.1 hw.1) rfl rfl rfl (liS rfl) rfl (by decide) ⟨Nat.le_refl _, Nat.le_refl _⟩ (Nat.le_of_ble_eq_true rfl) ?_
    refine wp_if_eq_b (n := 14) K dX11_out_11 rfl (tgt := 25) (by decide) (fun c11 => ?_) (fun c11 => ?_)
    · have := of_decide_eq_false c11; omega
    · have k19 : Wp E1 X 19 [.ref 16, .int (z s), mkV] [.int (z (s.toNat : Int)), .ref 17] S M := by
        refine wp_invV_i (n := 22) K dX11_out_19 rfl cf_X11_164 (c_isLaid s.toNat L (by omega) hL2 _ _ eL) rfl rfl rfl (liS rfl) rfl (by decide) ⟨Nat.le_refl _, Nat.le_refl _⟩ (Nat.le_of_ble_eq_true rfl) ?_
        refine wp_if_ne_b (n := 25) K dX11_out_22 rfl (tgt := 27) (by decide) (fun c22 => ?_) (fun c22 => ?_)
        · refine wp_aload_n (n := 28) K dX11_out_27 rfl rfl ?_
          refine wp_getF (n := 31) K dX11_out_28 rfl fl_X11_12 rfl (liS rfl) rfl rfl ?_
          refine wp_getI (n := 34) K dX11_out_31 rfl fl_X11_177 rfl (liS rfl) rfl ?_
          try simp only [up_same, up_up, up_ne, ne_eq, Nat.reduceEqDiff, not_false_eq_true, Int.reduceToNat, Int.toNat_natCast]
          refine wp_iconst (n := 35) K dX11_out_34 rfl ?_
          refine wp_iload_n (n := 36) K dX11_out_35 rfl rfl ?_
          refine wp_ishl (n := 37) K dX11_out_36 rfl ?_
          refine wp_iconst (n := 38) K dX11_out_37 rfl ?_
          refine wp_ixor (n := 39) K dX11_out_38 rfl ?_
          refine wp_iand (n := 40) K dX11_out_39 rfl ?_
          rw [key]
          refine wp_istore_n (n := 41) K dX11_out_40 rfl (by decide) ?_
          refine wp_aload_n (n := 42) K dX11_out_41 rfl rfl ?_
          refine wp_getF (n := 45) K dX11_out_42 rfl fl_X11_12 rfl (liS rfl) rfl rfl ?_
          refine wp_getF (n := 48) K dX11_out_45 rfl fl_X11_65 rfl (liS rfl) rfl rfl ?_
          refine wp_iload_n (n := 49) K dX11_out_48 rfl rfl ?_
          refine wp_invV_i (n := 52) K dX11_out_49 rfl cf_X11_184 (c_isStanding _ (by omega) _ _ σ h.1 hw) rfl rfl rfl (liS rfl) rfl (by decide) ⟨Nat.le_refl _, Nat.le_refl _⟩ (Nat.le_of_ble_eq_true rfl) ?_
          refine wp_if_ne_b (n := 55) K dX11_out_52 rfl (tgt := 57) (by decide) (fun c52 => ?_) (fun c52 => ?_)
          · refine wp_aload_n (n := 58) K dX11_out_57 rfl rfl ?_
            refine wp_getF (n := 61) K dX11_out_58 rfl fl_X11_12 rfl (liS rfl) rfl rfl ?_
            refine wp_getF (n := 64) K dX11_out_61 rfl fl_X11_187 rfl (liS rfl) rfl rfl ?_
            refine wp_aload_n (n := 65) K dX11_out_64 rfl rfl ?_
            refine wp_getF (n := 68) K dX11_out_65 rfl fl_X11_12 rfl (liS rfl) rfl rfl ?_
            refine wp_getI (n := 71) K dX11_out_68 rfl fl_X11_177 rfl (liS rfl) rfl ?_
            try simp only [up_same, up_up, up_ne, ne_eq, Nat.reduceEqDiff, not_false_eq_true, Int.reduceToNat, Int.toNat_natCast]
            refine wp_aload_n (n := 72) K dX11_out_71 rfl rfl ?_
            refine wp_getF (n := 75) K dX11_out_72 rfl fl_X11_12 rfl (liS rfl) rfl rfl ?_
            refine wp_getF (n := 78) K dX11_out_75 rfl fl_X11_106 rfl (liS rfl) rfl rfl ?_
            rw [h.2.2.2.2.2.2.2]
            refine wp_invV_qn (n := 81) K dX11_out_78 rfl cf_X11_191 (c_keep _ _ σ h6 h.2.2.2.1 h.2.1) rfl rfl rfl (liS rfl) rfl (by decide) ⟨Nat.le_refl _, Nat.le_refl _⟩ (Nat.le_of_ble_eq_true rfl) (fun A1 hA1 gA1 => ?_)
            refine wp_aload_n (n := 82) K dX11_out_81 rfl rfl ?_
            refine wp_getF (n := 85) K dX11_out_82 rfl fl_X11_12 rfl (liS rfl) rfl rfl ?_
            refine wp_iload_n (n := 86) K dX11_out_85 rfl rfl ?_
            refine wp_putI (n := 89) K dX11_out_86 rfl fl_X11_177 rfl (liS rfl) (Or.inl rfl) rfl rfl ?_
            try simp only [up_same, up_up, up_ne, ne_eq, Nat.reduceEqDiff, not_false_eq_true, Int.reduceToNat, Int.toNat_natCast]
            refine wp_iload_n (n := 90) K dX11_out_89 rfl rfl ?_
            refine wp_invS_i (n := 93) K dX11_out_90 rfl cf_X11_75 (j_bitCount _ hwo _ _) rfl rfl (by decide) ⟨Nat.le_refl _, Nat.le_refl _⟩ (Nat.le_of_ble_eq_true rfl) ?_
            refine ret_qi K dX11_out_93 ?_ rfl ?_ ?_ ⟨Nat.le_refl _, Nat.le_refl _⟩
            · rfl
            · intro a ha
              simp only [List.mem_cons, List.not_mem_nil, or_false, not_or] at ha
              rw [up_ne _ _ (by simp [ha]), hA1 a (by simp [ha])]
            · exact laid_rest (keep_rest h6 h hA1 gA1) _
          · rw [c3] at c52; cases c52
        · rw [c2] at c22; cases c22
      rw [← e1] at k19
      refine wp_aload_n (n := 15) K dX11_out_14 rfl rfl ?_
      refine wp_getF (n := 18) K dX11_out_15 rfl fl_X11_12 rfl (liS rfl) rfl rfl ?_
      refine wp_iload_n (n := 19) K dX11_out_18 rfl rfl ?_
      exact k19
  · refine Ct.mk [.ref 16, .int (z s), mkV] (by decide) rfl (Nat.le_of_ble_eq_true rfl) (fun X K => ?_)
    refine wp_aload_n (n := 1) K dX11_out_0 rfl rfl ?_
    refine wp_getF (n := 4) K dX11_out_1 rfl fl_X11_12 rfl (liS rfl) rfl rfl ?_
    refine wp_getF (n := 7) K dX11_out_4 rfl fl_X11_65 rfl (liS rfl) rfl rfl ?_
    refine wp_iload_n (n := 8) K dX11_out_7 rfl rfl ?_
    refine wp_invV_i (n := 11) K dX11_out_8 rfl cf_X11_163 (c_hasS s hs _ _ σ h.1.1 hw.1) rfl rfl rfl (liS rfl) rfl (by decide) ⟨Nat.le_refl _, Nat.le_refl _⟩ (Nat.le_of_ble_eq_true rfl) ?_
    refine wp_if_eq_b (n := 14) K dX11_out_11 rfl (tgt := 25) (by decide) (fun c11 => ?_) (fun c11 => ?_)
    · refine wp_iconst (n := 26) K dX11_out_25 rfl ?_
      refine ret_i K dX11_out_26 ?_ rfl ?_ ⟨Nat.le_refl _, Nat.le_refl _⟩
      · rfl
      · rfl
    · have c1 := of_decide_eq_true c11
      have e1 : s = (s.toNat : Int) := by omega
      have key := key (by omega) (by omega)
      have k19 : Wp E1 X 19 [.ref 16, .int (z s), mkV] [.int (z (s.toNat : Int)), .ref 17] S M := by
        refine wp_invV_i (n := 22) K dX11_out_19 rfl cf_X11_164 (c_isLaid s.toNat L (by omega) hL2 _ _ eL) rfl rfl rfl (liS rfl) rfl (by decide) ⟨Nat.le_refl _, Nat.le_refl _⟩ (Nat.le_of_ble_eq_true rfl) ?_
        refine wp_if_ne_b (n := 25) K dX11_out_22 rfl (tgt := 27) (by decide) (fun c22 => ?_) (fun c22 => ?_)
        · refine wp_aload_n (n := 28) K dX11_out_27 rfl rfl ?_
          refine wp_getF (n := 31) K dX11_out_28 rfl fl_X11_12 rfl (liS rfl) rfl rfl ?_
          refine wp_getI (n := 34) K dX11_out_31 rfl fl_X11_177 rfl (liS rfl) rfl ?_
          try simp only [up_same, up_up, up_ne, ne_eq, Nat.reduceEqDiff, not_false_eq_true, Int.reduceToNat, Int.toNat_natCast]
          refine wp_iconst (n := 35) K dX11_out_34 rfl ?_
          refine wp_iload_n (n := 36) K dX11_out_35 rfl rfl ?_
          refine wp_ishl (n := 37) K dX11_out_36 rfl ?_
          refine wp_iconst (n := 38) K dX11_out_37 rfl ?_
          refine wp_ixor (n := 39) K dX11_out_38 rfl ?_
          refine wp_iand (n := 40) K dX11_out_39 rfl ?_
          rw [key]
          refine wp_istore_n (n := 41) K dX11_out_40 rfl (by decide) ?_
          refine wp_aload_n (n := 42) K dX11_out_41 rfl rfl ?_
          refine wp_getF (n := 45) K dX11_out_42 rfl fl_X11_12 rfl (liS rfl) rfl rfl ?_
          refine wp_getF (n := 48) K dX11_out_45 rfl fl_X11_65 rfl (liS rfl) rfl rfl ?_
          refine wp_iload_n (n := 49) K dX11_out_48 rfl rfl ?_
          refine wp_invV_i (n := 52) K dX11_out_49 rfl cf_X11_184 (c_isStanding _ (by omega) _ _ σ h.1 hw) rfl rfl rfl (liS rfl) rfl (by decide) ⟨Nat.le_refl _, Nat.le_refl _⟩ (Nat.le_of_ble_eq_true rfl) ?_
          refine wp_if_ne_b (n := 55) K dX11_out_52 rfl (tgt := 57) (by decide) (fun c52 => ?_) (fun c52 => ?_)
          · exact absurd ⟨c1, c22, c52⟩ c
          · refine wp_iconst (n := 56) K dX11_out_55 rfl ?_
            refine ret_i K dX11_out_56 ?_ rfl ?_ ⟨Nat.le_refl _, Nat.le_refl _⟩
            · rfl
            · rfl
        · refine wp_iconst (n := 26) K dX11_out_25 rfl ?_
          refine ret_i K dX11_out_26 ?_ rfl ?_ ⟨Nat.le_refl _, Nat.le_refl _⟩
          · rfl
          · rfl
      rw [← e1] at k19
      refine wp_aload_n (n := 15) K dX11_out_14 rfl rfl ?_
      refine wp_getF (n := 18) K dX11_out_15 rfl fl_X11_12 rfl (liS rfl) rfl rfl ?_
      refine wp_iload_n (n := 19) K dX11_out_18 rfl rfl ?_
      exact k19

theorem c_undo (S : ST) (M : MT) (σ : Nat → Int) (h : CN M σ) (h6 : 0 ≤ σ 6 ∧ σ 6 ≤ 30) (hs : ∀ i : Nat, i < 30 → 0 ≤ σ (121 + 22 * i) ∧ σ (121 + 22 * i) ≤ 10) : (σ 6 ≠ 0 → Ct E1 yX11_undo cX11_undo 1 (some .int) rm_X11_undo [.ref 16] S M (Qi (σ 6 - 1) [17, 25, 26, 32] S M (fun M1 => CN M1 (undoA σ)))) ∧ (σ 6 = 0 → Ct E1 yX11_undo cX11_undo 1 (some .int) rm_X11_undo [.ref 16] S M (Pi (-1) S M)) := by
  have g2 := h.2.2.2.1.2.1
  refine ⟨fun c => ?_, fun c => ?_⟩
  · refine Ct.mk [.ref 16] (by decide) rfl (Nat.le_of_ble_eq_true rfl) (fun X K => ?_)
    refine wp_aload_n (n := 1) K dX11_undo_0 rfl rfl ?_
    refine wp_getF (n := 4) K dX11_undo_1 rfl fl_X11_12 rfl (liS rfl) rfl rfl ?_
    refine wp_getF (n := 7) K dX11_undo_4 rfl fl_X11_187 rfl (liS rfl) rfl rfl ?_
    refine wp_getI (n := 10) K dX11_undo_7 rfl fl_X11_213 rfl (liS rfl) rfl ?_
    try simp only [up_same, up_up, up_ne, ne_eq, Nat.reduceEqDiff, not_false_eq_true, Int.reduceToNat, Int.toNat_natCast]
    refine wp_if_ne (n := 13) K dX11_undo_10 rfl (tgt := 15) (by decide) ⟨by omega, by omega⟩ (fun c10 => ?_) (fun c10 => ?_)
    · refine wp_aload_n (n := 16) K dX11_undo_15 rfl rfl ?_
      refine wp_getF (n := 19) K dX11_undo_16 rfl fl_X11_12 rfl (liS rfl) rfl rfl ?_
      refine wp_aload_n (n := 20) K dX11_undo_19 rfl rfl ?_
      refine wp_getF (n := 23) K dX11_undo_20 rfl fl_X11_12 rfl (liS rfl) rfl rfl ?_
      refine wp_getF (n := 26) K dX11_undo_23 rfl fl_X11_187 rfl (liS rfl) rfl rfl ?_
      refine wp_aload_n (n := 27) K dX11_undo_26 rfl rfl ?_
      refine wp_getF (n := 30) K dX11_undo_27 rfl fl_X11_12 rfl (liS rfl) rfl rfl ?_
      refine wp_getF (n := 33) K dX11_undo_30 rfl fl_X11_106 rfl (liS rfl) rfl rfl ?_
      refine wp_invV_qi (n := 36) K dX11_undo_33 rfl cf_X11_214 (c_takeLatest _ _ σ ⟨by omega, h6.2⟩ h.2.2.2.1 h.2.1 hs) rfl rfl rfl (liS rfl) rfl (by decide) ⟨Nat.le_refl _, Nat.le_refl _⟩ (Nat.le_of_ble_eq_true rfl) (fun A1 hA1 gA1 => ?_)
      obtain ⟨q1, q2⟩ := gA1
      have e1 : ∀ j, j ≠ 1 → j ≠ 6 → (j < 70 ∨ 100 ≤ j) → undoA σ j = σ j := fun j j1 j2 j3 => by
        have hn := hs (σ 6 - 1).toNat (by omega)
        unfold undoA
        rw [undoT_lo _ _ _ _ (by omega)]
        unfold undo1
        rw [up_ne _ _ j1, up_ne _ _ j2]
      have e6 : undoA σ 6 = σ 6 - 1 := by
        unfold undoA; rw [undoT_lo _ _ _ _ (by omega)]; unfold undo1; rw [up_ne _ _ (by decide), up_same]
      refine wp_putI (n := 39) K dX11_undo_36 rfl fl_X11_177 rfl (liS rfl) (Or.inl rfl) rfl rfl ?_
      try simp only [up_same, up_up, up_ne, ne_eq, Nat.reduceEqDiff, not_false_eq_true, Int.reduceToNat, Int.toNat_natCast]
      refine wp_aload_n (n := 40) K dX11_undo_39 rfl rfl ?_
      refine wp_getF (n := 43) K dX11_undo_40 rfl fl_X11_12 rfl (liS rfl) rfl rfl ?_
      refine wp_getF (n := 46) K dX11_undo_43 rfl fl_X11_187 rfl (liS rfl) rfl rfl ?_
      refine wp_getI (n := 49) K dX11_undo_46 rfl fl_X11_213 rfl (liS rfl) rfl ?_
      try simp only [up_same, up_up, up_ne, ne_eq, Nat.reduceEqDiff, not_false_eq_true, Int.reduceToNat, Int.toNat_natCast]
      refine ret_qi K dX11_undo_49 ?_ rfl ?_ ?_ ⟨Nat.le_refl _, Nat.le_refl _⟩
      · rw [← e6]; exact q1.2.1
      · intro a ha
        simp only [List.mem_cons, List.not_mem_nil, or_false, not_or] at ha
        rw [up_ne _ _ (by simp [ha]), hA1 a (by simp [ha])]
      · have em : ∀ a, a ≠ 17 → up A1 17 (up (A1 17) 9 (undoA σ 1)) a = A1 a := fun a ha => up_ne _ _ ha
        refine ⟨SNs (SNm h.1 (fun a u1 u2 => by rw [em a (by omega), hA1 a (by simp; omega)])) (fun j hj => e1 j (by omega) (by omega) (by omega)), HNm q2 (fun a u1 u2 => em a (by omega)), NNs (NNm h.2.2.1 (fun a u1 u2 => by rw [em a (by omega), hA1 a (by simp; omega)])) (fun j hj => e1 j (by omega) (by omega) (by omega)), GNm q1 (fun a u1 u2 => em a (by omega)), ?_⟩
        have := h.2.2.2.2
        unfold FD at this ⊢
        rw [e1 4 (by decide) (by decide) (by decide), e1 5 (by decide) (by decide) (by decide), e1 2 (by decide) (by decide) (by decide)]
        simp [up]
        rw [hA1 17 (by decide)]
        exact ⟨this.1, this.2.1, this.2.2.1⟩
    · omega
  · refine Ct.mk [.ref 16] (by decide) rfl (Nat.le_of_ble_eq_true rfl) (fun X K => ?_)
    refine wp_aload_n (n := 1) K dX11_undo_0 rfl rfl ?_
    refine wp_getF (n := 4) K dX11_undo_1 rfl fl_X11_12 rfl (liS rfl) rfl rfl ?_
    refine wp_getF (n := 7) K dX11_undo_4 rfl fl_X11_187 rfl (liS rfl) rfl rfl ?_
    refine wp_getI (n := 10) K dX11_undo_7 rfl fl_X11_213 rfl (liS rfl) rfl ?_
    try simp only [up_same, up_up, up_ne, ne_eq, Nat.reduceEqDiff, not_false_eq_true, Int.reduceToNat, Int.toNat_natCast]
    refine wp_if_ne (n := 13) K dX11_undo_10 rfl (tgt := 15) (by decide) ⟨by omega, by omega⟩ (fun c10 => ?_) (fun c10 => ?_)
    · omega
    · refine wp_iconst (n := 14) K dX11_undo_13 rfl ?_
      refine ret_i K dX11_undo_14 ?_ rfl ?_ ⟨Nat.le_refl _, Nat.le_refl _⟩
      · rfl
      · rfl
