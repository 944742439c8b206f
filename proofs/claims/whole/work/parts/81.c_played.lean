/-! scripts of deeds -/
def TXS (S : ST) (M : MT) (τ : Nat → Int) (t b : Nat) : Prop := shp E1 S b = (1, 10) ∧ live E1 S b ∧ 91 ≤ b ∧ ∃ (a3 nc : Nat), M b 3 = (a3 : Int) ∧ 91 ≤ a3 ∧ shp E1 S a3 = (2, 3 * nc) ∧ live E1 S a3 ∧ M b 4 = (nc : Int) ∧ nc ≤ 24 ∧ τ (680 * t) = (nc : Int) ∧ ∀ k, k < nc → M a3 (3 * k) = τ (680 * t + 1 + 3 * k) + 8 ∧ (3 ≤ τ (680 * t + 1 + 3 * k) → M a3 (3 * k + 1) = τ (680 * t + 2 + 3 * k)) ∧ (τ (680 * t + 1 + 3 * k) = 5 → M a3 (3 * k + 2) = τ (680 * t + 3 + 3 * k))
theorem TXS.mem {S : ST} {M M' : MT} {τ : Nat → Int} {t b : Nat} (h : TXS S M τ t b) (e : ∀ a, 91 ≤ a → M' a = M a) : TXS S M' τ t b := by
  obtain ⟨h1, h2, h3, a3, nc, q1, q2, q3, q4, q5, q6, q7, q8⟩ := h
  exact ⟨h1, h2, h3, a3, nc, by rw [e b h3]; exact q1, q2, q3, q4, by rw [e b h3]; exact q5, q6, q7, by rw [e a3 q2]; exact q8⟩

theorem c_partOf (b a3 nc k p : Nat) (S : ST) (M : MT) (h1 : shp E1 S b = (1, 10)) (h2 : live E1 S b) (h3 : M b 3 = (a3 : Int)) (h4 : shp E1 S a3 = (2, 3 * nc)) (h5 : live E1 S a3) (h6 : M b 4 = (nc : Int)) (hn : nc ≤ 24) (hk : k < nc) (hp : p < 3) : Ct E1 yX10_partOf cX10_partOf 3 (some .int) rm_X10_partOf [.ref b, .int (z (k : Int)), .int (z (p : Int))] S M (Pi (M a3 (3 * k + p)) S M) := by
  refine Ct.mk [.ref b, .int (z (k : Int)), .int (z (p : Int))] (by decide) rfl (Nat.le_of_ble_eq_true rfl) (fun X K => ?_)
  refine wp_iload_n (n := 1) K dX10_partOf_0 rfl rfl ?_
  refine wp_if_lt (n := 4) K dX10_partOf_1 rfl (tgt := 25) (by decide) ⟨by omega, by omega⟩ (fun c1 => ?_) (fun c1 => ?_)
  · omega
  · refine wp_iload_n (n := 5) K dX10_partOf_4 rfl rfl ?_
    refine wp_aload_n (n := 6) K dX10_partOf_5 rfl rfl ?_
    refine wp_getI (n := 9) K dX10_partOf_6 rfl fl_X10_24 h1 h2 rfl ?_
    try simp only [up_same, up_up, Int.reduceToNat, Int.toNat_natCast]
    refine wp_icmp_ge (n := 12) K dX10_partOf_9 rfl (tgt := 25) (by decide) ⟨by omega, by omega⟩ ⟨by omega, by omega⟩ (fun c9 => ?_) (fun c9 => ?_)
    · omega
    · refine wp_aload_n (n := 13) K dX10_partOf_12 rfl rfl ?_
      refine wp_getD (n := 16) (b := a3) K dX10_partOf_13 rfl fl_X10_21 h1 h2 rfl h3 ?_
      try simp only [up_same, up_up, Int.reduceToNat, Int.toNat_natCast]
      refine wp_iload_n (n := 17) K dX10_partOf_16 rfl rfl ?_
      refine wp_iconst (n := 18) K dX10_partOf_17 rfl ?_
      refine wp_imul (n := 19) K dX10_partOf_18 rfl ?_
      refine wp_iload_n (n := 20) K dX10_partOf_19 rfl rfl ?_
      refine wp_iadd (n := 21) K dX10_partOf_20 rfl ?_
      refine wp_iald (n := 22) K dX10_partOf_21 rfl h4 h5 ⟨by omega, by omega, by omega⟩ ?_
      try simp only [up_same, up_up, Int.reduceToNat, Int.toNat_natCast]
      refine wp_goto K dX10_partOf_22 (tgt := 26) (by decide) ?_
      refine ret_i K dX10_partOf_26 ?_ rfl ?_ ⟨Nat.le_refl _, Nat.le_refl _⟩
      · congr 1; omega
      · rfl

theorem c_deedOf (b a3 nc k : Nat) (S : ST) (M : MT) (h1 : shp E1 S b = (1, 10)) (h2 : live E1 S b) (h3 : M b 3 = (a3 : Int)) (h4 : shp E1 S a3 = (2, 3 * nc)) (h5 : live E1 S a3) (h6 : M b 4 = (nc : Int)) (hn : nc ≤ 24) (hk : k < nc) : Ct E1 yX10_deedOf cX10_deedOf 2 (some .int) rm_X10_deedOf [.ref b, .int (z (k : Int))] S M (Pi (M a3 (3 * k)) S M) := by
  refine Ct.mk [.ref b, .int (z (k : Int))] (by decide) rfl (Nat.le_of_ble_eq_true rfl) (fun X K => ?_)
  refine wp_aload_n (n := 1) K dX10_deedOf_0 rfl rfl ?_
  refine wp_iload_n (n := 2) K dX10_deedOf_1 rfl rfl ?_
  refine wp_iconst (n := 3) K dX10_deedOf_2 rfl ?_
  refine wp_invV_i (n := 6) K dX10_deedOf_3 rfl cf_X10_28 (c_partOf b a3 nc k 0 _ _ h1 h2 h3 h4 h5 h6 hn hk (by decide)) rfl rfl h1 h2 rfl (by decide) ⟨Nat.le_refl _, Nat.le_refl _⟩ (Nat.le_of_ble_eq_true rfl) ?_
  refine ret_i K dX10_deedOf_6 ?_ rfl ?_ ⟨Nat.le_refl _, Nat.le_refl _⟩
  · rfl
  · rfl

theorem c_firstOf (b a3 nc k : Nat) (S : ST) (M : MT) (h1 : shp E1 S b = (1, 10)) (h2 : live E1 S b) (h3 : M b 3 = (a3 : Int)) (h4 : shp E1 S a3 = (2, 3 * nc)) (h5 : live E1 S a3) (h6 : M b 4 = (nc : Int)) (hn : nc ≤ 24) (hk : k < nc) : Ct E1 yX10_firstOf cX10_firstOf 2 (some .int) rm_X10_firstOf [.ref b, .int (z (k : Int))] S M (Pi (M a3 (3 * k + 1)) S M) := by
  refine Ct.mk [.ref b, .int (z (k : Int))] (by decide) rfl (Nat.le_of_ble_eq_true rfl) (fun X K => ?_)
  refine wp_aload_n (n := 1) K dX10_firstOf_0 rfl rfl ?_
  refine wp_iload_n (n := 2) K dX10_firstOf_1 rfl rfl ?_
  refine wp_iconst (n := 3) K dX10_firstOf_2 rfl ?_
  refine wp_invV_i (n := 6) K dX10_firstOf_3 rfl cf_X10_28 (c_partOf b a3 nc k 1 _ _ h1 h2 h3 h4 h5 h6 hn hk (by decide)) rfl rfl h1 h2 rfl (by decide) ⟨Nat.le_refl _, Nat.le_refl _⟩ (Nat.le_of_ble_eq_true rfl) ?_
  refine ret_i K dX10_firstOf_6 ?_ rfl ?_ ⟨Nat.le_refl _, Nat.le_refl _⟩
  · rfl
  · rfl

theorem c_secondOf (b a3 nc k : Nat) (S : ST) (M : MT) (h1 : shp E1 S b = (1, 10)) (h2 : live E1 S b) (h3 : M b 3 = (a3 : Int)) (h4 : shp E1 S a3 = (2, 3 * nc)) (h5 : live E1 S a3) (h6 : M b 4 = (nc : Int)) (hn : nc ≤ 24) (hk : k < nc) : Ct E1 yX10_secondOf cX10_secondOf 2 (some .int) rm_X10_secondOf [.ref b, .int (z (k : Int))] S M (Pi (M a3 (3 * k + 2)) S M) := by
  refine Ct.mk [.ref b, .int (z (k : Int))] (by decide) rfl (Nat.le_of_ble_eq_true rfl) (fun X K => ?_)
  refine wp_aload_n (n := 1) K dX10_secondOf_0 rfl rfl ?_
  refine wp_iload_n (n := 2) K dX10_secondOf_1 rfl rfl ?_
  refine wp_iconst (n := 3) K dX10_secondOf_2 rfl ?_
  refine wp_invV_i (n := 6) K dX10_secondOf_3 rfl cf_X10_28 (c_partOf b a3 nc k 2 _ _ h1 h2 h3 h4 h5 h6 hn hk (by decide)) rfl rfl h1 h2 rfl (by decide) ⟨Nat.le_refl _, Nat.le_refl _⟩ (Nat.le_of_ble_eq_true rfl) ?_
  refine ret_i K dX10_secondOf_6 ?_ rfl ?_ ⟨Nat.le_refl _, Nat.le_refl _⟩
  · rfl
  · rfl
theorem plA_4 {σ τ : Nat → Int} {x : Nat} (h6 : 0 ≤ σ 6 ∧ σ 6 ≤ 30) (h3 : 0 ≤ σ 3 ∧ σ 3 ≤ 10) (ho : plOk σ τ x) : plA σ τ x 4 = σ 4 ∧ plA σ τ x 5 = σ 5 := by
  have e := keepA_h σ h6
  unfold plOk at ho
  unfold plA layA
  by_cases c3 : τ x = 3
  · rw [if_pos c3, up_ne _ _ (by decide), up_ne _ _ (by decide)]; exact ⟨e 4 (by decide) (by decide), e 5 (by decide) (by decide)⟩
  · rw [if_neg c3] at ho
    rw [if_neg c3]
    by_cases c4 : τ x = 4
    · rw [if_pos c4, up_ne _ _ (by decide), up_ne _ _ (by decide)]; exact ⟨e 4 (by decide) (by decide), e 5 (by decide) (by decide)⟩
    · rw [if_neg c4] at ho
      rw [if_neg c4]
      by_cases c5 : τ x = 5
      · rw [if_pos c5] at ho
        rw [if_pos c5]
        obtain ⟨u1, u2, -⟩ := ho
        rw [lendsA_o _ _ _ _ (fun k _ => by omega) (fun k _ => by omega) (by omega) (by omega), lendsA_o _ _ _ _ (fun k _ => by omega) (fun k _ => by omega) (by omega) (by omega)]
        exact ⟨e 4 (by decide) (by decide), e 5 (by decide) (by decide)⟩
      · rw [if_neg c5]; exact ⟨rfl, rfl⟩

theorem c_isPlayed (t b k : Nat) (S : ST) (M : MT) (σ τ : Nat → Int) (rb : Nat) (hA : AS S M σ τ rb) (hP : PI 999000 σ τ) (hT : TXS S M τ t b) (hk : (k : Int) < τ (680 * t)) (hwt : WT τ t) (bb : Bool) (hb : bb = true ↔ plOk σ τ (680 * t + 1 + 3 * k)) : Ct E1 yX11_isPlayed cX11_isPlayed 4 (some .boolean) rm_X11_isPlayed [.ref 16, .ref b, .int (z (k : Int))] S M (Qi (bI bb) [17, 25, 26, 32, 33, 65, 66] S M (fun M1 => VB 65 M1 ∧ CN M1 (if bb = true then plA σ τ (680 * t + 1 + 3 * k) else σ))) := by
  obtain ⟨hL, hH, h6, h1⟩ := id hP
  obtain ⟨L, hLd⟩ : ∃ L : Nat, σ 1 = L := ⟨(σ 1).toNat, by omega⟩
  have eL : (σ 1).toNat = L := by omega
  have hwh : WH σ := hH.wh (by decide)
  obtain ⟨t1, t2, t3, a3, nc, q1, q2, q3, q4, q5, q6, q7, q8⟩ := hT
  have hkn : k < nc := by omega
  obtain ⟨r1, r2, r3⟩ := q8 k hkn
  obtain ⟨u1, u2, u3, u4⟩ := hwt.2 k hk
  have h0 := hL.1.1
  unfold plOk at hb
  have hpl : plA σ τ (680 * t + 1 + 3 * k) = if τ (680 * t + 1 + 3 * k) = 3 then layA σ (τ (680 * t + 1 + 3 * k + 1)).toNat else if τ (680 * t + 1 + 3 * k) = 4 then up (keepA σ) 1 ((wo (σ 1).toNat (2 ^ (τ (680 * t + 1 + 3 * k + 1)).toNat) : Nat) : Int) else if τ (680 * t + 1 + 3 * k) = 5 then lendsA (keepA σ) (τ (680 * t + 1 + 3 * k + 1)).toNat (τ (680 * t + 1 + 3 * k + 2)).toNat else σ := rfl
  rw [hpl]
  rw [show 680 * t + 1 + 3 * k + 1 = 680 * t + 2 + 3 * k by omega, show 680 * t + 1 + 3 * k + 2 = 680 * t + 3 + 3 * k by omega] at hb ⊢
  generalize τ (680 * t + 1 + 3 * k) = so at *
  refine Ct.mk [.ref 16, .ref b, .int (z (k : Int)), mkV] (by decide) rfl (Nat.le_of_ble_eq_true rfl) (fun X K => ?_)
  refine wp_aload_n (n := 1) K dX11_isPlayed_0 rfl rfl ?_
  refine wp_iload_n (n := 2) K dX11_isPlayed_1 rfl rfl ?_
  refine wp_invV_i (n := 5) K dX11_isPlayed_2 rfl cf_X11_288 (c_firstOf b a3 nc k _ _ t1 t2 q1 q3 q4 q5 q6 hkn) rfl rfl t1 t2 rfl (by decide) ⟨Nat.le_refl _, Nat.le_refl _⟩ (Nat.le_of_ble_eq_true rfl) ?_
  refine wp_istore_n (n := 6) K dX11_isPlayed_5 rfl (by decide) ?_
  refine wp_aload_n (n := 7) K dX11_isPlayed_6 rfl rfl ?_
  refine wp_iload_n (n := 8) K dX11_isPlayed_7 rfl rfl ?_
  refine wp_invV_i (n := 11) K dX11_isPlayed_8 rfl cf_X11_291 (c_deedOf b a3 nc k _ _ t1 t2 q1 q3 q4 q5 q6 hkn) rfl rfl t1 t2 rfl (by decide) ⟨Nat.le_refl _, Nat.le_refl _⟩ (Nat.le_of_ble_eq_true rfl) ?_
  rw [r1]
  by_cases c3 : so = 3
  · subst c3
    rw [if_pos rfl] at hb
    rw [r2 (by omega)]
    generalize hf : τ (680 * t + 2 + 3 * k) = fi at *
    have hfr : InR fi := ⟨by omega, by omega⟩
    refine wp_tswIn K dX11_isPlayed_11 (tgt := 36) ⟨by decide, by decide⟩ (by decide) (by decide) (off := 25) rfl (by decide) ?_
    have hlay := c_lay fi hfr S M σ τ rb hA h6 L hLd (by omega)
    by_cases hok : okLay σ τ fi
    · have hbt := hb.mpr hok
      rw [hbt] at K
      have hlr := liftF_r hL (s := fi.toNat) (by have := hok.1; omega) L
      refine wp_aload_n (n := 37) K dX11_isPlayed_36 rfl rfl ?_
      refine wp_iload_n (n := 38) K dX11_isPlayed_37 rfl rfl ?_
      refine wp_invV_qi (n := 41) K dX11_isPlayed_38 rfl cf_X11_294 (hlay.1 hok) rfl rfl rfl (liS rfl) rfl (by decide) ⟨Nat.le_refl _, Nat.le_refl _⟩ (Nat.le_of_ble_eq_true rfl) (fun A1 hA1 gA1 => ?_)
      refine wp_iconst (n := 42) K dX11_isPlayed_41 rfl ?_
      refine wp_icmp_eq (n := 45) K dX11_isPlayed_42 rfl (tgt := 49) (by decide) ⟨by omega, by omega⟩ ⟨by omega, by omega⟩ (fun c42 => ?_) (fun c42 => ?_)
      · omega
      · refine wp_iconst (n := 46) K dX11_isPlayed_45 rfl ?_
        refine wp_goto K dX11_isPlayed_46 (tgt := 50) (by decide) ?_
        refine ret_qz K dX11_isPlayed_50 ?_ rfl ?_ ?_ ⟨Nat.le_refl _, Nat.le_refl _⟩
        · rfl
        · intro a ha
          simp only [List.mem_cons, List.not_mem_nil, or_false, not_or] at ha
          exact hA1 a (by simp [ha])
        · exact gA1
    · have hbf : bb = false := by cases bb; rfl; exact absurd (hb.mp rfl) hok
      rw [hbf] at K
      refine wp_aload_n (n := 37) K dX11_isPlayed_36 rfl rfl ?_
      refine wp_iload_n (n := 38) K dX11_isPlayed_37 rfl rfl ?_
      refine wp_invV_qi (n := 41) K dX11_isPlayed_38 rfl cf_X11_294 (hlay.2 hok) rfl rfl rfl (liS rfl) rfl (by decide) ⟨Nat.le_refl _, Nat.le_refl _⟩ (Nat.le_of_ble_eq_true rfl) (fun A1 hA1 gA1 => ?_)
      refine wp_iconst (n := 42) K dX11_isPlayed_41 rfl ?_
      refine wp_icmp_eq (n := 45) K dX11_isPlayed_42 rfl (tgt := 49) (by decide) ⟨by omega, by omega⟩ ⟨by omega, by omega⟩ (fun c42 => ?_) (fun c42 => ?_)
      · refine wp_iconst (n := 50) K dX11_isPlayed_49 rfl ?_
        refine ret_qz K dX11_isPlayed_50 ?_ rfl ?_ ?_ ⟨Nat.le_refl _, Nat.le_refl _⟩
        · rfl
        · intro a ha
          simp only [List.mem_cons, List.not_mem_nil, or_false, not_or] at ha
          exact hA1 a (by simp [ha])
        · exact ⟨gA1, (hA.mem hA1 gA1).1⟩
      · exact absurd rfl c42
  · rw [if_neg c3] at hb
    rw [if_neg c3] at K
    by_cases c4 : so = 4
    · subst c4
      rw [if_pos rfl] at hb
      rw [r2 (by omega)]
      rw [eL] at hb K
      generalize hf : τ (680 * t + 2 + 3 * k) = fi at *
      have hfr : InR fi := ⟨by omega, by omega⟩
      refine wp_tswIn K dX11_isPlayed_11 (tgt := 51) ⟨by decide, by decide⟩ (by decide) (by decide) (off := 40) rfl (by decide) ?_
      have hout := c_out fi hfr S M σ hA.1 hL.1 h6 L hLd (by omega)
      by_cases hok : (0 ≤ fi ∧ fi < σ 0) ∧ L.testBit fi.toNat = true ∧ standB σ (wo L (2 ^ fi.toNat)) = true
      · have hbt := hb.mpr hok
        rw [hbt] at K
        have hcl := cnt_le 12 (wo L (2 ^ fi.toNat))
        refine wp_aload_n (n := 52) K dX11_isPlayed_51 rfl rfl ?_
        refine wp_iload_n (n := 53) K dX11_isPlayed_52 rfl rfl ?_
        refine wp_invV_qi (n := 56) K dX11_isPlayed_53 rfl cf_X11_297 (hout.1 hok) rfl rfl rfl (liS rfl) rfl (by decide) ⟨Nat.le_refl _, Nat.le_refl _⟩ (Nat.le_of_ble_eq_true rfl) (fun A1 hA1 gA1 => ?_)
        refine wp_iconst (n := 57) K dX11_isPlayed_56 rfl ?_
        refine wp_icmp_eq (n := 60) K dX11_isPlayed_57 rfl (tgt := 64) (by decide) ⟨by omega, by omega⟩ ⟨by omega, by omega⟩ (fun c57 => ?_) (fun c57 => ?_)
        · omega
        · refine wp_iconst (n := 61) K dX11_isPlayed_60 rfl ?_
          refine wp_goto K dX11_isPlayed_61 (tgt := 65) (by decide) ?_
          refine ret_qz K dX11_isPlayed_65 ?_ rfl ?_ ?_ ⟨Nat.le_refl _, Nat.le_refl _⟩
          · rfl
          · intro a ha
            simp only [List.mem_cons, List.not_mem_nil, or_false, not_or] at ha
            exact hA1 a (by simp [ha])
          · exact ⟨fun j hj => by rw [hA1 _ (by decide)]; exact hA.2.2.2.2.2.2.2 j hj, gA1⟩
      · have hbf : bb = false := by cases bb; rfl; exact absurd (hb.mp rfl) hok
        rw [hbf] at K
        refine wp_aload_n (n := 52) K dX11_isPlayed_51 rfl rfl ?_
        refine wp_iload_n (n := 53) K dX11_isPlayed_52 rfl rfl ?_
        refine wp_invV_i (n := 56) K dX11_isPlayed_53 rfl cf_X11_297 (hout.2 hok) rfl rfl rfl (liS rfl) rfl (by decide) ⟨Nat.le_refl _, Nat.le_refl _⟩ (Nat.le_of_ble_eq_true rfl) ?_
        refine wp_iconst (n := 57) K dX11_isPlayed_56 rfl ?_
        refine wp_icmp_eq (n := 60) K dX11_isPlayed_57 rfl (tgt := 64) (by decide) ⟨by omega, by omega⟩ ⟨by omega, by omega⟩ (fun c57 => ?_) (fun c57 => ?_)
        · refine wp_iconst (n := 65) K dX11_isPlayed_64 rfl ?_
          refine ret_qz K dX11_isPlayed_65 ?_ rfl ?_ ?_ ⟨Nat.le_refl _, Nat.le_refl _⟩
          · rfl
          · intro a _; rfl
          · exact ⟨hA.2.2.2.2.2.2.2, hA.1⟩
        · exact absurd rfl c57
    · rw [if_neg c4] at hb K
      by_cases c5 : so = 5
      · subst c5
        rw [if_pos rfl] at hb
        rw [r2 (by omega)]
        have hse := r3 rfl
        have hv3 := u3 (by omega)
        have hv4 := u4 rfl
        generalize hf : τ (680 * t + 2 + 3 * k) = fi at *
        generalize hg : τ (680 * t + 3 + 3 * k) = se at *
        have hfr : InR fi := ⟨by omega, by omega⟩
        have hsr : InR se := ⟨by omega, by omega⟩
        refine wp_tswIn K dX11_isPlayed_11 (tgt := 66) ⟨by decide, by decide⟩ (by decide) (by decide) (off := 55) rfl (by decide) ?_
        have hlend := c_lend fi se hfr hsr S M σ hA.1 hwh h6
        refine wp_aload_n (n := 67) K dX11_isPlayed_66 rfl rfl ?_
        refine wp_iload_n (n := 68) K dX11_isPlayed_67 rfl rfl ?_
        refine wp_aload_n (n := 69) K dX11_isPlayed_68 rfl rfl ?_
        refine wp_iload_n (n := 70) K dX11_isPlayed_69 rfl rfl ?_
        refine wp_invV_i (n := 73) K dX11_isPlayed_70 rfl cf_X11_300 (c_secondOf b a3 nc k _ _ t1 t2 q1 q3 q4 q5 q6 hkn) rfl rfl t1 t2 rfl (by decide) ⟨Nat.le_refl _, Nat.le_refl _⟩ (Nat.le_of_ble_eq_true rfl) ?_
        rw [hse]
        by_cases hok : canL σ fi se
        · have hbt := hb.mpr hok
          rw [hbt] at K
          obtain ⟨o1, o2, o3, o4⟩ := id hok
          have hv : 0 ≤ lendsA (keepA σ) fi.toNat se.toNat (70 + 3 * fi.toNat) ∧ lendsA (keepA σ) fi.toNat se.toNat (70 + 3 * fi.toNat) < 2000000 := by
            have := lendsA_s (keepA σ) fi.toNat se.toNat fi.toNat
            rw [keepA_h σ h6 (70 + 3 * fi.toNat) (by omega) (by have := hwh.1; omega), if_pos rfl] at this
            have w := (hwh.2 fi.toNat (by have := hwh.1; omega)).1
            rw [this]; split <;> omega
          refine wp_invV_qi (n := 76) K dX11_isPlayed_73 rfl cf_X11_303 (hlend.1 hok) rfl rfl rfl (liS rfl) rfl (by decide) ⟨Nat.le_refl _, Nat.le_refl _⟩ (Nat.le_of_ble_eq_true rfl) (fun A1 hA1 gA1 => ?_)
          refine wp_iconst (n := 77) K dX11_isPlayed_76 rfl ?_
          refine wp_icmp_eq (n := 80) K dX11_isPlayed_77 rfl (tgt := 84) (by decide) ⟨by omega, by omega⟩ ⟨by omega, by omega⟩ (fun c77 => ?_) (fun c77 => ?_)
          · omega
          · refine wp_iconst (n := 81) K dX11_isPlayed_80 rfl ?_
            refine wp_goto K dX11_isPlayed_81 (tgt := 85) (by decide) ?_
            refine ret_qz K dX11_isPlayed_85 ?_ rfl ?_ ?_ ⟨Nat.le_refl _, Nat.le_refl _⟩
            · rfl
            · intro a ha
              simp only [List.mem_cons, List.not_mem_nil, or_false, not_or] at ha
              exact hA1 a (by simp [ha])
            · exact ⟨fun j hj => by rw [hA1 _ (by decide)]; exact hA.2.2.2.2.2.2.2 j hj, gA1⟩
        · have hbf : bb = false := by cases bb; rfl; exact absurd (hb.mp rfl) hok
          rw [hbf] at K
          refine wp_invV_i (n := 76) K dX11_isPlayed_73 rfl cf_X11_303 (hlend.2 hok) rfl rfl rfl (liS rfl) rfl (by decide) ⟨Nat.le_refl _, Nat.le_refl _⟩ (Nat.le_of_ble_eq_true rfl) ?_
          refine wp_iconst (n := 77) K dX11_isPlayed_76 rfl ?_
          refine wp_icmp_eq (n := 80) K dX11_isPlayed_77 rfl (tgt := 84) (by decide) ⟨by omega, by omega⟩ ⟨by omega, by omega⟩ (fun c77 => ?_) (fun c77 => ?_)
          · refine wp_iconst (n := 85) K dX11_isPlayed_84 rfl ?_
            refine ret_qz K dX11_isPlayed_85 ?_ rfl ?_ ?_ ⟨Nat.le_refl _, Nat.le_refl _⟩
            · rfl
            · intro a _; rfl
            · exact ⟨hA.2.2.2.2.2.2.2, hA.1⟩
          · exact absurd rfl c77
      · rw [if_neg c5] at hb
        rw [if_neg c5] at K
        have hbt := hb.mpr trivial
        rw [hbt] at K
        refine wp_tswOut K dX11_isPlayed_11 (tgt := 86) ⟨by omega, by omega⟩ (by omega) (by decide) ?_
        refine wp_iconst (n := 87) K dX11_isPlayed_86 rfl ?_
        refine ret_qz K dX11_isPlayed_87 ?_ rfl ?_ ?_ ⟨Nat.le_refl _, Nat.le_refl _⟩
        · rfl
        · intro a _; rfl
        · exact ⟨hA.2.2.2.2.2.2.2, hA.1⟩

theorem c_played (t : Int) (h1 : InR t) (S : ST) (M : MT) (σ τ : Nat → Int) (rb : Nat) (hA : AS S M σ τ rb) (hP : PI 990000 σ τ) (hT : ∀ i : Nat, (i : Int) < σ 4 → WT τ i ∧ ∃ b : Nat, M 35 i = (b : Int) ∧ TXS S M τ i b) : (0 ≤ t ∧ t < σ 4 → Ct E1 yX11_played cX11_played 4 (some .int) rm_X11_played [.ref 16, .int (z t)] S M (Qi (plT σ τ t.toNat (τ (680 * t.toNat)).toNat).2 [17, 25, 26, 32, 33, 65, 66] S M (fun M1 => VB 65 M1 ∧ CN M1 (plT σ τ t.toNat (τ (680 * t.toNat)).toNat).1))) ∧ (¬ (0 ≤ t ∧ t < σ 4) → Ct E1 yX11_played cX11_played 4 (some .int) rm_X11_played [.ref 16, .int (z t)] S M (Pi (-2) S M)) := by
  have h4 := hA.2.2.2.2.2.2.1
  have hF := hA.1.2.2.2.2
  
  refine ⟨fun c => ?_, fun c => ?_⟩
  · obtain ⟨T, rfl⟩ : ∃ T : Nat, t = T := ⟨t.toNat, by omega⟩
    rw [Int.toNat_natCast]
    obtain ⟨hwt, b, hb1, hTb⟩ := hT T c.2
    obtain ⟨t1, t2, t3, a3, nc, q1, q2, q3, q4, q5, q6, q7, q8⟩ := id hTb
    obtain ⟨N, hN⟩ : ∃ N : Nat, τ (680 * T) = N := ⟨nc, q7⟩
    have hNc : N = nc := by omega
    rw [hN, Int.toNat_natCast]
    refine Ct.mk [.ref 16, .int (z (T : Int)), mkV, mkV] (by decide) rfl (Nat.le_of_ble_eq_true rfl) (fun X K => ?_)
    refine wp_aload_n (n := 1) K dX11_played_0 rfl rfl ?_
    refine wp_getF (n := 4) K dX11_played_1 rfl fl_X11_12 rfl (liS rfl) rfl rfl ?_
    refine wp_iload_n (n := 5) K dX11_played_4 rfl rfl ?_
    refine wp_invV_i (n := 8) K dX11_played_5 rfl cf_X11_157 (c_hasText _ h1 _ _ (σ 4) h4 hF.1) rfl rfl rfl (liS rfl) rfl (by decide) ⟨Nat.le_refl _, Nat.le_refl _⟩ (Nat.le_of_ble_eq_true rfl) ?_
    refine wp_if_ne_b (n := 11) K dX11_played_8 rfl (tgt := 14) (by decide) (fun c8 => ?_) (fun c8 => ?_)
    · refine wp_aload_n (n := 15) K dX11_played_14 rfl rfl ?_
      refine wp_getF (n := 18) K dX11_played_15 rfl fl_X11_12 rfl (liS rfl) rfl rfl ?_
      refine wp_getF (n := 21) K dX11_played_18 rfl fl_X11_149 rfl (liS rfl) rfl rfl ?_
      refine wp_iload_n (n := 22) K dX11_played_21 rfl rfl ?_
      refine wp_aald (n := 23) K dX11_played_22 rfl rfl (liS rfl) ⟨by omega, by omega, by omega⟩ (by simpa using hb1) ?_
      refine wp_astore_n (n := 24) K dX11_played_23 rfl (by omega) (by decide) ?_
      refine wp_iconst (n := 25) K dX11_played_24 rfl ?_
      refine wp_istore_n (n := 26) K dX11_played_25 rfl (by decide) ?_
      refine (dn N (Q := fun k => (plT σ τ T k).2 < 0 → ∀ B : MT, (∀ a, a ∉ [17, 25, 26, 32, 33, 65, 66] → B a = M a) → AS S B (plT σ τ T k).1 τ rb → PI (990000 + k) (plT σ τ T k).1 τ → Wp E1 X 26 [.ref 16, .int (z (T : Int)), .ref b, .int (z (k : Int))] [] S B) (fun k hk ih hneg B hB hAB hPB => ?_) 0 (by omega)) (show (-1 : Int) < 0 by decide) M (fun _ _ => rfl) hA (hP.mono (by omega))
      have eb : B b = M b := hB b (by simp; omega)
      have hTB : TXS S B τ T b := hTb.mem (fun a ha => hB a (by simp; omega))
      refine wp_iload_n (n := 27) K dX11_played_26 rfl rfl ?_
      refine wp_aload_n (n := 28) K dX11_played_27 rfl rfl ?_
      refine wp_getI (n := 31) K dX11_played_28 rfl fl_X11_204 t1 t2 rfl ?_
      try simp only [up_same, up_up, up_ne, ne_eq, Nat.reduceEqDiff, not_false_eq_true, Int.reduceToNat, Int.toNat_natCast]
      rw [eb, q5]
      refine wp_icmp_ge (n := 34) K dX11_played_31 rfl (tgt := 51) (by decide) ⟨by omega, by omega⟩ ⟨by omega, by omega⟩ (fun c31 => ?_) (fun c31 => ?_)
      · have : k = N := by omega
        subst this
        refine wp_iconst (n := 52) K dX11_played_51 rfl ?_
        refine ret_qi K dX11_played_52 ?_ rfl ?_ ?_ ⟨Nat.le_refl _, Nat.le_refl _⟩
        · have hval : (plT σ τ T k).2 = -1 := by
            clear ih hAB hPB hB hTB
            have : ∀ j, (plT σ τ T j).2 = -1 ∨ 0 ≤ (plT σ τ T j).2 := fun j => by
              induction j with
              | zero => exact Or.inl rfl
              | succ j ihj =>
                show (if 0 ≤ (plT σ τ T j).2 then plT σ τ T j else _).2 = -1 ∨ 0 ≤ (if 0 ≤ (plT σ τ T j).2 then plT σ τ T j else _).2
                split
                · right; assumption
                · split
                  · exact Or.inl rfl
                  · right; show (0 : Int) ≤ (j : Int); omega
            rcases this k with u | u
            · exact u
            · omega
          exact hval.symm
        · exact hB
        · exact ⟨hAB.2.2.2.2.2.2.2, hAB.1⟩
      · have hk2 : (k : Int) < τ (680 * T) := by omega
        have hpb := pB_iff (p := plOk (plT σ τ T k).1 τ (680 * T + 1 + 3 * k))
        have es : plT σ τ T (k + 1) = if pB (plOk (plT σ τ T k).1 τ (680 * T + 1 + 3 * k)) = true then (plA (plT σ τ T k).1 τ (680 * T + 1 + 3 * k), -1) else ((plT σ τ T k).1, (k : Int)) := by
          show (if 0 ≤ (plT σ τ T k).2 then plT σ τ T k else _) = _
          rw [if_neg (by omega)]
        generalize hbb : pB (plOk (plT σ τ T k).1 τ (680 * T + 1 + 3 * k)) = bb at *
        refine wp_aload_n (n := 35) K dX11_played_34 rfl rfl ?_
        refine wp_aload_n (n := 36) K dX11_played_35 rfl rfl ?_
        refine wp_iload_n (n := 37) K dX11_played_36 rfl rfl ?_
        refine wp_invV_qi (n := 40) K dX11_played_37 rfl cf_X11_209 (c_isPlayed T b k _ _ (plT σ τ T k).1 τ rb hAB (hPB.mono (by omega)) hTB hk2 hwt bb hpb) rfl rfl rfl (liS rfl) rfl (by decide) ⟨Nat.le_refl _, Nat.le_refl _⟩ (Nat.le_of_ble_eq_true rfl) (fun A1 hA1 gA1 => ?_)
        refine wp_if_ne_b (n := 43) K dX11_played_40 rfl (tgt := 45) (by decide) (fun c40 => ?_) (fun c40 => ?_)
        · subst c40
          rw [if_pos rfl] at es
          have ih := ih (by omega)
          rw [es] at ih
          rw [if_pos rfl] at gA1
          have hok := hpb.mp rfl
          have hP1 := hPB.play hok
          have e45 := plA_4 hPB.2.2.1 hPB.2.1.1 hok
          refine wp_iinc (n := 48) K dX11_played_45 rfl rfl (by decide) ?_
          refine wp_goto K dX11_played_48 (tgt := 26) (by decide) ?_
          refine ih (by show (-1 : Int) < 0; decide) A1 (fun a ha => by rw [hA1 a ha, hB a ha]) ?_ ?_
          · obtain ⟨s1, s2, s3, s4, s5, s6, s7, s8⟩ := hAB
            refine ⟨gA1.2, (s2.mem s3 (fun a ha => hA1 a (by simp; omega))).sig e45.2 e45.1, s3, hP1.1.1, hP1.1.2.1, hP1.1.2.2.1, by show 0 ≤ plA _ _ _ 4 ∧ plA _ _ _ 4 ≤ 4; rw [e45.1]; exact s7, gA1.1⟩
          · exact hP1.mono (by omega)
        · subst c40
          rw [if_neg (by decide)] at es
          have hst := plT_stop σ τ T (k := k + 1) (by rw [es]; show (0 : Int) ≤ (k : Int); omega) (N - (k + 1))
          rw [show k + 1 + (N - (k + 1)) = N by omega, es] at hst
          rw [hst] at K
          rw [if_neg (by decide)] at gA1
          refine wp_iload_n (n := 44) K dX11_played_43 rfl rfl ?_
          refine ret_qi K dX11_played_44 ?_ rfl ?_ ?_ ⟨Nat.le_refl _, Nat.le_refl _⟩
          · rfl
          · intro a ha; rw [hA1 a ha, hB a ha]
          · exact gA1
    · have := of_decide_eq_false c8; omega
  · refine Ct.mk [.ref 16, .int (z t), mkV, mkV] (by decide) rfl (Nat.le_of_ble_eq_true rfl) (fun X K => ?_)
    refine wp_aload_n (n := 1) K dX11_played_0 rfl rfl ?_
    refine wp_getF (n := 4) K dX11_played_1 rfl fl_X11_12 rfl (liS rfl) rfl rfl ?_
    refine wp_iload_n (n := 5) K dX11_played_4 rfl rfl ?_
    refine wp_invV_i (n := 8) K dX11_played_5 rfl cf_X11_157 (c_hasText _ h1 _ _ (σ 4) h4 hF.1) rfl rfl rfl (liS rfl) rfl (by decide) ⟨Nat.le_refl _, Nat.le_refl _⟩ (Nat.le_of_ble_eq_true rfl) ?_
    refine wp_if_ne_b (n := 11) K dX11_played_8 rfl (tgt := 14) (by decide) (fun c8 => ?_) (fun c8 => ?_)
    · have := of_decide_eq_true c8; exact absurd this c
    · refine wp_bipush (n := 13) K dX11_played_11 rfl rfl ?_
      refine ret_i K dX11_played_13 ?_ rfl ?_ ⟨Nat.le_refl _, Nat.le_refl _⟩
      · rfl
      · rfl
