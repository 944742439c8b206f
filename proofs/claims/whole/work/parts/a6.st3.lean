/-- the bytes that wait -/
theorem LI.t {i : Nat} {S : ST} {M M2 : MT} (h : LI i S M) (t' : Nat) (ht' : t' ≤ 300) (e4 : M2 77 4 = (t' : Int)) (hTB : TB M2 (M2 81) t') (h77 : M2 77 5 = M 77 5 ∧ M2 77 6 = M 77 6) (hM : ∀ a, a ≠ 55 → a ≠ 56 → a ≠ 77 → a ≠ 81 → M2 a = M a) : LI (i + 1) S M2 := by
  obtain ⟨h91, hC, hK, hF, hFk, h44, hT, hTk, hI, hIk, -, hFT, hP, hV, hN, h34⟩ := id h
  have e78 : M2 78 = M 78 := hM 78 (by decide) (by decide) (by decide) (by decide)
  have e79 : M2 79 = M 79 := hM 79 (by decide) (by decide) (by decide) (by decide)
  have e80 : M2 80 = M 80 := hM 80 (by decide) (by decide) (by decide) (by decide)
  have e : ∀ a, a < 55 ∨ (57 ≤ a ∧ a < 77) ∨ 82 ≤ a → M2 a = M a := fun a ha => hM a (by omega) (by omega) (by omega) (by omega)
  refine ⟨h91, by rw [e78]; exact hC.mem (fun a _ _ _ => e a (by omega)), by rw [e79]; exact hK.mem (fun a ha => e a (by omega)), by rw [e78]; exact hF.mono (by rw [← Bi_s]; omega), by rw [e79]; exact hFk.mono (by rw [← Bi_s]; omega), by rw [e79, e78]; exact h44, by rw [e80, e78]; exact hT.mem (fun a ha => e a (by omega)), by rw [e80, e79]; exact hTk.mem (fun a ha => e a (by omega)), hI.mem (e 35 (by omega)), hIk.mem (e 54 (by omega)), ⟨t', e4, ht', hTB⟩, ?_, by rw [e78, e80]; exact hP.mem (fun j _ => by rw [e 67 (by omega)]) (e 68 (by omega)) (e 70 (by omega)) (e 72 (by omega)), VBm hV (e 65 (by omega)), NBm hN (e 83 (by omega)), by rw [e 34 (by omega)]; exact h34⟩
  unfold FT
  rw [e 16 (by omega), h77.1, h77.2]
  exact hFT
theorem st_feed {i : Nat} {S : ST} {M : MT} (h : LI i S M) (a b c d e : Int) : Ct E1 yX11_feed cX11_feed 6 (some .int) rm_X11_feed [.ref 16, .int (z a), .int (z b), .int (z c), .int (z d), .int (z e)] S M (fun r S1 M1 => ∃ x : Int, r = some (.int (z x)) ∧ Ct E1 yX12_feed cX12_feed 6 (some .int) rm_X12_feed [.ref 77, .int (z a), .int (z b), .int (z c), .int (z d), .int (z e)] S1 M1 (fun r2 S2 M2 => r2 = some (.int (z x)) ∧ LI (i + 1) S2 M2)) := by
  obtain ⟨h91, hC, hK, hF, hFk, h44, hT, hTk, hI, hIk, ⟨t, ht4, ht, hTB⟩, hFT, hP, hV, hN, h34⟩ := id h
  by_cases ok : t ≤ 280
  · refine ((c_feed a b c d e t ht S M (M 81) hTB).1 ok).imp (fun r S1 M1 q => ?_)
    obtain ⟨rfl, rfl, hM, g1⟩ := q
    have e77 : M1 77 = M 77 := hM 77 (by decide)
    have e81 : M1 81 = M 81 := hM 81 (by decide)
    refine ⟨_, rfl, (m_feed a b c d e t ht S1 M1 (by rw [e77]; exact ht4)).imp (fun r2 S2 M2 q => ?_)⟩
    obtain ⟨rfl, rfl, e2⟩ := q
    rw [if_pos ok] at e2 ⊢
    have eM : ∀ a, a ≠ 77 → a ≠ 81 → M2 a = M1 a := fun a u v => by rw [e2, up_ne _ _ u, up_ne _ _ v]
    have f77 : M2 77 = up (M 77) 4 ((t + 20 : Nat) : Int) := by rw [e2, up_same, e77]
    have f81 : M2 81 = feedT (M 81) t a b c d e := by rw [e2, up_ne _ _ (by decide), up_same, e81]
    refine ⟨rfl, h.t (t + 20) (by omega) (by rw [f77, up_same]) ?_ ⟨by rw [f77, up_ne _ _ (by decide)], by rw [f77, up_ne _ _ (by decide)]⟩ (fun a u1 u2 u3 u4 => by rw [eM a u3 u4, hM a (by simp; omega)])⟩
    rw [f81]
    exact g1.mem (by rw [eM 55 (by decide) (by decide)]) (eM 56 (by decide) (by decide))
  · refine ((c_feed a b c d e t ht S M (M 81) hTB).2 ok).imp (fun r S1 M1 q => ?_)
    obtain ⟨rfl, rfl, rfl⟩ := q
    refine ⟨_, rfl, (m_feed a b c d e t ht S1 M1 ht4).imp (fun r2 S2 M2 q => ?_)⟩
    obtain ⟨rfl, rfl, e2⟩ := q
    rw [if_neg ok] at e2 ⊢
    rw [e2]
    exact ⟨rfl, h.id⟩
theorem st_end {i : Nat} {S : ST} {M : MT} (h : LI i S M) (w : Int) (h1 : InR w) : Ct E1 yX11_end cX11_end 2 (some .int) rm_X11_end [.ref 16, .int (z w)] S M (fun r S1 M1 => ∃ x : Int, r = some (.int (z x)) ∧ Ct E1 yX12_end cX12_end 2 (some .int) rm_X12_end [.ref 77, .int (z w)] S1 M1 (fun r2 S2 M2 => r2 = some (.int (z x)) ∧ LI (i + 1) S2 M2)) := by
  obtain ⟨h91, hC, hK, hF, hFk, h44, hT, hTk, hI, hIk, ⟨t, ht4, ht, hTB⟩, hFT, hP, hV, hN, h34⟩ := id h
  refine (c_end w (t : Int) h1 S M (by omega) hTB.1).imp (fun r S1 M1 q => ?_)
  obtain ⟨rfl, rfl, e1⟩ := q
  have e77 : M1 77 = M 77 := by rw [e1]; split <;> first | rfl | rw [up_ne _ _ (by decide)]
  refine ⟨_, rfl, (m_end w h1 S1 M1 (by rw [e77]; omega)).imp (fun r2 S2 M2 q => ?_)⟩
  obtain ⟨rfl, rfl, e2⟩ := q
  rw [e77, ht4] at e2 ⊢
  refine ⟨rfl, ?_⟩
  by_cases ok : 0 ≤ w ∧ w ≤ (t : Int)
  · rw [if_pos ok] at e1 e2
    have eM : ∀ a, a ≠ 77 → M2 a = M1 a := fun a u => by rw [e2, up_ne _ _ u]
    have eM1 : ∀ a, a ≠ 55 → M1 a = M a := fun a u => by rw [e1, up_ne _ _ u]
    have f77 : M2 77 = up (M 77) 4 w := by rw [e2, up_same]
    refine h.t w.toNat (by omega) (by rw [f77, up_same]; omega) ?_ ⟨by rw [f77, up_ne _ _ (by decide)], by rw [f77, up_ne _ _ (by decide)]⟩ (fun a u1 u2 u3 u4 => by rw [eM a u3, eM1 a u1])
    refine ⟨by rw [eM 55 (by decide), e1, up_same, up_same]; omega, fun j hj => ?_⟩
    rw [eM 56 (by decide), eM1 56 (by decide), eM 81 (by decide), eM1 81 (by decide)]
    exact hTB.2 j hj
  · rw [if_neg ok] at e1 e2
    rw [e2, e1]; exact h.id
theorem st_fault {i : Nat} {S : ST} {M : MT} (h : LI i S M) (w : Int) (h1 : InR w) : Ct E1 yX11_fault cX11_fault 2 (some .int) rm_X11_fault [.ref 16, .int (z w)] S M (fun r S1 M1 => ∃ x : Int, r = some (.int (z x)) ∧ Ct E1 yX12_fault cX12_fault 2 (some .int) rm_X12_fault [.ref 77, .int (z w)] S1 M1 (fun r2 S2 M2 => r2 = some (.int (z x)) ∧ LI (i + 1) S2 M2)) := by
  obtain ⟨h91, hC, hK, hF, hFk, h44, hT, hTk, hI, hIk, hTB, hFT, hP, hV, hN, h34⟩ := id h
  refine (c_fault w (M 77 5) (M 77 6) h1 S M hFT).imp (fun r S1 M1 q => ?_)
  obtain ⟨rfl, rfl, rfl⟩ := q
  refine ⟨_, rfl, (m_fault w h1 S1 M1).imp (fun r2 S2 M2 q => ?_)⟩
  obtain ⟨rfl, rfl, rfl⟩ := q
  exact ⟨rfl, h.id⟩
theorem st_stands {i : Nat} {S : ST} {M : MT} (h : LI i S M) (w : Int) (h1 : InR w) : Ct E1 yX11_stands cX11_stands 2 (some .boolean) rm_X11_stands [.ref 16, .int (z w)] S M (fun r S1 M1 => ∃ x : Int, r = some (.int (z x)) ∧ Ct E1 yX12_stands cX12_stands 2 (some .boolean) rm_X12_stands [.ref 77, .int (z w)] S1 M1 (fun r2 S2 M2 => r2 = some (.int (z x)) ∧ LI (i + 1) S2 M2)) := by
  obtain ⟨h91, hC, hK, hF, hFk, h44, hT, hTk, hI, hIk, hTB, hFT, hP, hV, hN, h34⟩ := id h
  refine (c_stands w h1 S M (M 78) hC.1 hF.1).imp (fun r S1 M1 q => ?_)
  obtain ⟨rfl, rfl, rfl⟩ := q
  refine ⟨_, rfl, (m_stands w h1 S1 M1 hF.1).imp (fun r2 S2 M2 q => ?_)⟩
  obtain ⟨rfl, rfl, rfl⟩ := q
  exact ⟨rfl, h.id⟩
theorem st_with {i : Nat} {S : ST} {M : MT} (h : LI i S M) (w : Int) (h1 : InR w) : Ct E1 yX11_with cX11_with 7 (some .int) rm_X11_with [.ref 16, .int (z w)] S M (fun r S1 M1 => ∃ x : Int, r = some (.int (z x)) ∧ Ct E1 yX12_with cX12_with 4 (some .int) rm_X12_with [.ref 77, .int (z w)] S1 M1 (fun r2 S2 M2 => r2 = some (.int (z x)) ∧ LI (i + 1) S2 M2)) := by
  obtain ⟨h91, hC, hK, hF, hFk, h44, hT, hTk, hI, hIk, hTB, hFT, hP, hV, hN, h34⟩ := id h
  obtain ⟨L, hL, hL1, hL2⟩ := hF.laid
  have h9 : M 17 9 = (L : Int) := hC.2.2.2.2.2.2.2.trans hL
  by_cases ok : (0 ≤ w ∧ w < M 78 0) ∧ L.testBit w.toNat = true
  · refine ((c_with w h1 S M (M 78) hC.1 hF.1 L h9 hL1).1 ok).imp (fun r S1 M1 q => ?_)
    obtain ⟨rfl, rfl, rfl⟩ := q
    refine ⟨_, rfl, ((m_with w h1 S1 M1 hF.1 L hL hL2).1 ok).imp (fun r2 S2 M2 q => ?_)⟩
    obtain ⟨rfl, rfl, rfl⟩ := q
    exact ⟨rfl, h.id⟩
  · refine ((c_with w h1 S M (M 78) hC.1 hF.1 L h9 hL1).2 ok).imp (fun r S1 M1 q => ?_)
    obtain ⟨rfl, rfl, rfl⟩ := q
    refine ⟨_, rfl, ((m_with w h1 S1 M1 hF.1 L hL hL2).2 ok).imp (fun r2 S2 M2 q => ?_)⟩
    obtain ⟨rfl, rfl, rfl⟩ := q
    exact ⟨rfl, h.id⟩
theorem st_houseOf {i : Nat} {S : ST} {M : MT} (h : LI i S M) (hi : i ≤ 512) (v w : Int) (h1 : InR v) (h2 : InR w) : Ct E1 yX11_houseOf cX11_houseOf 3 (some .int) rm_X11_houseOf [.ref 16, .int (z v), .int (z w)] S M (fun r S1 M1 => ∃ x : Int, r = some (.int (z x)) ∧ Ct E1 yX12_houseOf cX12_houseOf 3 (some .int) rm_X12_houseOf [.ref 77, .int (z v), .int (z w)] S1 M1 (fun r2 S2 M2 => r2 = some (.int (z x)) ∧ LI (i + 1) S2 M2)) := by
  obtain ⟨h91, hC, hK, hF, hFk, h44, hT, hTk, hI, hIk, hTB, hFT, hP, hV, hN, h34⟩ := id h
  have hw : WH (M 78) := hF.2.1.wh (by have := Bi_le hi; omega)
  refine (c_houseOf v w h1 h2 S M (M 78) hC.2.1 hw).imp (fun r S1 M1 q => ?_)
  obtain ⟨rfl, rfl, rfl⟩ := q
  refine ⟨_, rfl, (m_houseOf v w h1 h2 S1 M1 hw).imp (fun r2 S2 M2 q => ?_)⟩
  obtain ⟨rfl, rfl, rfl⟩ := q
  exact ⟨rfl, h.id⟩
theorem st_about {i : Nat} {S : ST} {M : MT} (h : LI i S M) (w : Int) (h1 : InR w) : Ct E1 yX11_about cX11_about 2 (some .int) rm_X11_about [.ref 16, .int (z w)] S M (fun r S1 M1 => ∃ x : Int, r = some (.int (z x)) ∧ Ct E1 yX12_about cX12_about 2 (some .int) rm_X12_about [.ref 77, .int (z w)] S1 M1 (fun r2 S2 M2 => r2 = some (.int (z x)) ∧ LI (i + 1) S2 M2)) := by
  obtain ⟨h91, hC, hK, hF, hFk, h44, hT, hTk, hI, hIk, ⟨t, ht4, ht, hTB⟩, hFT, hP, hV, hN, h34⟩ := id h
  refine (c_about w (M 77 4) h1 S M (M 78) hC hF.1 (hTB.1.trans ht4.symm)).imp (fun r S1 M1 q => ?_)
  obtain ⟨rfl, rfl, rfl⟩ := q
  refine ⟨_, rfl, (m_about w h1 S1 M1 hF.1).imp (fun r2 S2 M2 q => ?_)⟩
  obtain ⟨rfl, rfl, rfl⟩ := q
  exact ⟨rfl, h.id⟩
theorem st_row {i : Nat} {S : ST} {M : MT} (h : LI i S M) (hi : i ≤ 512) (u v w : Int) (h1 : InR u) (h2 : InR v) (h3 : InR w) : Ct E1 yX11_row cX11_row 5 (some .int) rm_X11_row [.ref 16, .int (z u), .int (z v), .int (z w)] S M (fun r S1 M1 => ∃ x : Int, r = some (.int (z x)) ∧ Ct E1 yX12_row cX12_row 7 (some .int) rm_X12_row [.ref 77, .int (z u), .int (z v), .int (z w)] S1 M1 (fun r2 S2 M2 => r2 = some (.int (z x)) ∧ LI (i + 1) S2 M2)) := by
  obtain ⟨h91, hC, hK, hF, hFk, h44, hT, hTk, hI, hIk, hTB, hFT, hP, hV, hN, h34⟩ := id h
  have hw : WH (M 78) := hF.2.1.wh (by have := Bi_le hi; omega)
  refine (c_row u v w h1 h2 h3 S M (M 78) (M 89) hC.2.1 hw hF.2.2.1).imp (fun r S1 M1 q => ?_)
  obtain ⟨rfl, rfl, hM, -⟩ := q
  have e78 : M1 78 = M 78 := hM 78 (by decide)
  have e89 : M1 89 = M 89 := hM 89 (by decide)
  refine ⟨_, rfl, (m_row u v w h1 h2 h3 S1 M1 (by rw [e78]; exact hw)).imp (fun r2 S2 M2 q => ?_)⟩
  obtain ⟨rfl, rfl, e2⟩ := q
  have eM : ∀ a, a ≠ 89 → M2 a = M1 a := fun a u => by rw [e2]; split <;> first | rfl | rw [up_ne _ _ u]
  refine ⟨by rw [e78, e89], h.q (hP.mem (fun j _ => by rw [eM 67 (by decide), hM 67 (by decide)]) (by rw [eM 68 (by decide), hM 68 (by decide)]) (by rw [eM 70 (by decide), hM 70 (by decide)]) (by rw [eM 72 (by decide), hM 72 (by decide)])) (VBm hV (by rw [eM 65 (by decide), hM 65 (by decide)])) (NBm hN (by rw [eM 83 (by decide), hM 83 (by decide)])) (fun a ha => by rw [eM a (by omega), hM a (by simp; omega)]) (fun j _ _ => by rw [eM 77 (by decide), hM 77 (by decide)])⟩
theorem st_winter {i : Nat} {S : ST} {M : MT} (h : LI i S M) (hi : i ≤ 512) : Ct E1 yX11_winter cX11_winter 1 (some .int) rm_X11_winter [.ref 16] S M (fun r S1 M1 => ∃ x : Int, r = some (.int (z x)) ∧ Ct E1 yX12_winter cX12_winter 6 (some .int) rm_X12_winter [.ref 77] S1 M1 (fun r2 S2 M2 => r2 = some (.int (z x)) ∧ LI (i + 1) S2 M2)) := by
  obtain ⟨h91, hC, hK, hF, hFk, h44, hT, hTk, hI, hIk, hTB, hFT, hP, hV, hN, h34⟩ := id h
  have hw : WH (M 78) := hF.2.1.wh (by have := Bi_le hi; omega)
  refine (c_winter S M (M 78) (M 90) hC.2.1 hw).imp (fun r S1 M1 q => ?_)
  obtain ⟨rfl, rfl, hM, -⟩ := q
  have e78 : M1 78 = M 78 := hM 78 (by decide)
  have e90 : M1 90 = M 90 := hM 90 (by decide)
  refine ⟨_, rfl, (m_winter S1 M1 (by rw [e78]; exact hw)).imp (fun r2 S2 M2 q => ?_)⟩
  obtain ⟨rfl, rfl, e2⟩ := q
  have eM : ∀ a, a ≠ 90 → M2 a = M1 a := fun a u => by rw [e2, up_ne _ _ u]
  refine ⟨by rw [e78, e90], h.q (hP.mem (fun j _ => by rw [eM 67 (by decide), hM 67 (by decide)]) (by rw [eM 68 (by decide), hM 68 (by decide)]) (by rw [eM 70 (by decide), hM 70 (by decide)]) (by rw [eM 72 (by decide), hM 72 (by decide)])) (VBm hV (by rw [eM 65 (by decide), hM 65 (by decide)])) (NBm hN (by rw [eM 83 (by decide), hM 83 (by decide)])) (fun a ha => by rw [eM a (by omega), hM a (by simp; omega)]) (fun j _ _ => by rw [eM 77 (by decide), hM 77 (by decide)])⟩
theorem st_least {i : Nat} {S : ST} {M : MT} (h : LI i S M) (hi : i ≤ 512) (w : Int) (h1 : InR w) : Ct E1 yX11_least cX11_least 2 (some .int) rm_X11_least [.ref 16, .int (z w)] S M (fun r S1 M1 => ∃ x : Int, r = some (.int (z x)) ∧ Ct E1 yX12_least cX12_least 5 (some .int) rm_X12_least [.ref 77, .int (z w)] S1 M1 (fun r2 S2 M2 => r2 = some (.int (z x)) ∧ LI (i + 1) S2 M2)) := by
  obtain ⟨h91, hC, hK, hF, hFk, h44, hT, hTk, hI, hIk, hTB, hFT, hP, hV, hN, h34⟩ := id h
  obtain ⟨b, hR, hb⟩ := h.rb
  have h0 := hF.1.1
  have hN12 : (M 78 0).toNat ≤ 12 := by omega
  refine (c_least w h1 S M (M 78) (M 80) b hC hR hb h.lw hF.2.2.2.2.2.1 hF.2.2.2.2.2.2.2.2.1 (hF.so (by have := Bi_le hi; omega)) hP).imp (fun r S1 M1 q => ?_)
  obtain ⟨rfl, rfl, hM, g1⟩ := q
  have e78 : M1 78 = M 78 := hM 78 (by decide)
  have e80 : M1 80 = M 80 := hM 80 (by decide)
  refine ⟨_, rfl, (m_least w h1 (M 78 0).toNat hN12 S1 M1 (by rw [e78, e80]; exact h.lw) (by rw [e78]; omega) (NBm hN (hM 83 (by decide)))).imp (fun r2 S2 M2 q => ?_)⟩
  obtain ⟨rfl, rfl, hM2, g2, g3⟩ := q
  refine ⟨by rw [e78, e80, least_W h.lw hN12], h.q (g1.mem (fun j _ => by rw [hM2 67 (by decide)]) (by rw [hM2 68 (by decide)]) (by rw [hM2 70 (by decide)]) (by rw [hM2 72 (by decide)])) (VBm hV (by rw [hM2 65 (by decide), hM 65 (by decide)])) g2 (fun a ha => by rw [hM2 a (by simp; omega), hM a (by simp; omega)]) (fun j _ _ => by rw [g3 j (by omega), hM 77 (by decide)])⟩
theorem st_orders {i : Nat} {S : ST} {M : MT} (h : LI i S M) (hi : i ≤ 512) : Ct E1 yX11_orders cX11_orders 1 (some .long) rm_X11_orders [.ref 16] S M (fun r S1 M1 => ∃ x : Int, r = some (.long (zl x)) ∧ Ct E1 yX12_orders cX12_orders 1 (some .long) rm_X12_orders [.ref 77] S1 M1 (fun r2 S2 M2 => r2 = some (.long (zl x)) ∧ LI (i + 1) S2 M2)) := by
  obtain ⟨h91, hC, hK, hF, hFk, h44, hT, hTk, hI, hIk, hTB, hFT, hP, hV, hN, h34⟩ := id h
  obtain ⟨b, hR, hb⟩ := h.rb
  have h0 := hF.1.1
  have hN12 : (M 78 0).toNat ≤ 12 := by omega
  have hso := hF.so (by have := Bi_le hi; omega)
  refine (c_orders S M (M 78) (M 80) (M 88) b hC hR hb h.lw hF.2.2.2.2.2.1 hF.2.2.2.2.2.2.2.2.1 hso hP).imp (fun r S1 M1 q => ?_)
  obtain ⟨rfl, rfl, hM, g1⟩ := q
  have e78 : M1 78 = M 78 := hM 78 (by decide)
  have e80 : M1 80 = M 80 := hM 80 (by decide)
  have e88 : M1 88 = M 88 := hM 88 (by decide)
  refine ⟨_, rfl, (m_orders (M 78 0).toNat hN12 S1 M1 (by rw [e78, e80]; exact h.lw) (by rw [e78]; omega) (NBm hN (hM 83 (by decide))) (by rw [e78]; exact hso)).imp (fun r2 S2 M2 q => ?_)⟩
  obtain ⟨rfl, rfl, hM2, g2⟩ := q
  refine ⟨by rw [e78, e80, e88], h.q (g1.mem (fun j _ => by rw [hM2 67 (by decide)]) (by rw [hM2 68 (by decide)]) (by rw [hM2 70 (by decide)]) (by rw [hM2 72 (by decide)])) (VBm hV (by rw [hM2 65 (by decide), hM 65 (by decide)])) g2 (fun a ha => by rw [hM2 a (by simp; omega), hM a (by simp; omega)]) (fun j _ _ => by rw [hM2 77 (by decide), hM 77 (by decide)])⟩
theorem st_heard {i : Nat} {S : ST} {M : MT} (h : LI i S M) (hi : i ≤ 512) (w : Int) (h1 : InR w) : Ct E1 yX11_heard cX11_heard 2 (some .long) rm_X11_heard [.ref 16, .int (z w)] S M (fun r S1 M1 => ∃ x : Int, r = some (.long (zl x)) ∧ Ct E1 yX12_heard cX12_heard 7 (some .long) rm_X12_heard [.ref 77, .int (z w)] S1 M1 (fun r2 S2 M2 => r2 = some (.long (zl x)) ∧ LI (i + 1) S2 M2)) := by
  obtain ⟨h91, hC, hK, hF, hFk, h44, hT, hTk, hI, hIk, hTB, hFT, hP, hV, hN, h34⟩ := id h
  obtain ⟨b, hR, hb⟩ := h.rb
  have h0 := hF.1.1
  have h7 := hF.2.2.2.2.2.2.2.2.1
  have hN12 : (M 78 0).toNat ≤ 12 := by omega
  have hso := hF.so (by have := Bi_le hi; omega)
  refine (c_heard w h1 S M (M 78) (M 80) (M 88) b hC hR hb h.lw hF.2.2.2.2.2.1 h7 hso hP).imp (fun r S1 M1 q => ?_)
  obtain ⟨rfl, rfl, hM, g1⟩ := q
  have e78 : M1 78 = M 78 := hM 78 (by decide)
  have e80 : M1 80 = M 80 := hM 80 (by decide)
  have e88 : M1 88 = M 88 := hM 88 (by decide)
  refine ⟨_, rfl, (m_heard w h1 (M 78 0).toNat (M 78 7).toNat hN12 (by omega) S1 M1 (by rw [e78, e80]; exact h.lw) (by rw [e78]; omega) (by rw [e78]; omega) (NBm hN (hM 83 (by decide))) (by rw [e78]; exact hso)).imp (fun r2 S2 M2 q => ?_)⟩
  obtain ⟨rfl, rfl, hM2, g2⟩ := q
  refine ⟨by rw [e78, e80, e88], h.q (g1.mem (fun j _ => by rw [hM2 67 (by decide)]) (by rw [hM2 68 (by decide)]) (by rw [hM2 70 (by decide)]) (by rw [hM2 72 (by decide)])) (VBm hV (by rw [hM2 65 (by decide), hM 65 (by decide)])) g2 (fun a ha => by rw [hM2 a (by simp; omega), hM a (by simp; omega)]) (fun j _ _ => by rw [hM2 77 (by decide), hM 77 (by decide)])⟩
theorem SR.to {a0 a1 a2 a3 a4 a5 : Nat} {M : MT} {σ τ : Nat → Int} (h : SR a0 a1 a2 a3 a4 a5 M σ) (e : ∀ j, j < 780 → τ j = σ j) : SR a0 a1 a2 a3 a4 a5 M τ := ⟨by rw [e 0 (by omega)]; exact h.1, fun s hs => by rw [e _ (by omega), e _ (by omega), e _ (by omega), e _ (by omega), e _ (by omega)]; exact h.2 s hs⟩
theorem HR.to {a0 a1 a2 a3 : Nat} {M : MT} {σ τ : Nat → Int} (h : HR a0 a1 a2 a3 M σ) (e : ∀ j, j < 780 → τ j = σ j) : HR a0 a1 a2 a3 M τ := ⟨by rw [e 3 (by omega)]; exact h.1, fun s hs => by rw [e _ (by omega), e _ (by omega), e _ (by omega)]; exact h.2 s hs⟩
theorem NR.to {a0 a1 a2 : Nat} {M : MT} {σ τ : Nat → Int} (h : NR a0 a1 a2 M σ) (e : ∀ j, j < 780 → τ j = σ j) : NR a0 a1 a2 M τ := ⟨by rw [e 7 (by omega)]; exact h.1, fun s hs => by rw [e _ (by omega), e _ (by omega)]; exact h.2 s hs⟩
theorem GR.to {a0 a1 : Nat} {M : MT} {σ τ : Nat → Int} (h : GR a0 a1 M σ) (h6 : 0 ≤ σ 6 ∧ σ 6 ≤ 30) (e : ∀ j, j < 780 → τ j = σ j) : GR a0 a1 M τ := by
  refine ⟨h.1, by rw [e 6 (by omega)]; exact h.2.1, fun k hk => ?_⟩
  rw [e 6 (by omega)] at hk
  obtain ⟨u1, u2, u3⟩ := h.2.2 k hk
  refine ⟨by rw [e _ (by omega)]; exact u1, by rw [e _ (by omega)]; exact u2, fun i hi => by rw [e _ (by omega), e _ (by omega)]; exact u3 i hi⟩
theorem FD.to {a0 : Nat} {M : MT} {σ τ : Nat → Int} (h : FD a0 M σ) (e : ∀ j, j < 780 → τ j = σ j) : FD a0 M τ := FDs h (fun j hj => e j (by omega))
theorem st_image {i : Nat} {S : ST} {M : MT} (h : LI i S M) : Ct E1 yX11_image cX11_image 1 (some .int) rm_X11_image [.ref 16] S M (fun r S1 M1 => ∃ x : Int, r = some (.int (z x)) ∧ Ct E1 yX12_image cX12_image 1 (some .int) rm_X12_image [.ref 77] S1 M1 (fun r2 S2 M2 => r2 = some (.int (z x)) ∧ LI (i + 1) S2 M2)) := by
  obtain ⟨h91, hC, hK, hF, hFk, h44, hT, hTk, hI, hIk, ⟨t, ht4, ht, hTB⟩, hFT, hP, hV, hN, h34⟩ := id h
  obtain ⟨L, hL, hL1, hL2⟩ := hF.laid
  have h6 := hF.2.2.2.2.2.2.1
  refine (c_image S M (M 78) L hL2 hL hC.1 hC.2.1 hC.2.2.1 hC.2.2.2.1 hC.2.2.2.2 h6 hI).imp (fun r S1 M1 q => ?_)
  obtain ⟨rfl, rfl, hM, g1, g2, g3, g4, g5, g6⟩ := q
  have e78 : M1 78 = M 78 := hM 78 (by decide)
  refine ⟨_, rfl, (m_image S1 M1 L hL2 (by rw [e78]; exact hL)).imp (fun r2 S2 M2 q => ?_)⟩
  obtain ⟨rfl, rfl, e2⟩ := q
  rw [e78] at e2
  have eM : ∀ a, a ≠ 79 → M2 a = M1 a := fun a u => by rw [e2, up_ne _ _ u]
  have ek : ∀ j, j < 780 → M2 79 j = M 78 j := fun j hj => by rw [e2, up_same, if_pos hj]
  have f78 : M2 78 = M 78 := (eM 78 (by decide)).trans e78
  have f80 : M2 80 = M 80 := by rw [eM 80 (by decide), hM 80 (by decide)]
  have f : ∀ a, a < 36 ∨ (55 ≤ a ∧ a ≠ 79) → M2 a = M a := fun a ha => by rw [eM a (by omega), hM a (by simp; omega)]
  have f54 : ∀ i, i < 4 → M2 54 i = M 35 i := fun i hi => by rw [eM 54 (by decide)]; exact g6 i hi
  have hFx := hF.mono (show Bi i ≤ Bi (i + 1) by rw [← Bi_s]; omega)
  refine ⟨rfl, h91, by rw [f78]; exact hC.mem (fun a _ _ _ => f a (by omega)), CK.mem (M := M1) ⟨g1.to ek, g2.to ek, g3.to ek, g4.to h6 ek, g5.to ek⟩ (fun a ha => eM a (by omega)), by rw [f78]; exact hFx, hFx.cg ek, by rw [ek 4 (by omega), f78]; exact Int.le_refl _, by rw [f80, f78]; exact hT.mem (fun a ha => f a (by omega)), ?_, hI.mem (f 35 (by omega)), fun k hk => by rw [f54 k hk]; exact hI k hk, ⟨t, by rw [f 77 (by omega)]; exact ht4, ht, by rw [f 81 (by omega)]; exact hTB.mem (by rw [f 55 (by omega)]) (f 56 (by omega))⟩, ?_, by rw [f78, f80]; exact hP.mem (fun j _ => by rw [f 67 (by omega)]) (f 68 (by omega)) (f 70 (by omega)) (f 72 (by omega)), VBm hV (f 65 (by omega)), NBm hN (f 83 (by omega)), by rw [f 34 (by omega)]; exact h34⟩
  · intro x hx
    rw [ek 4 (by omega)] at hx
    have h4 := hF.2.2.2.2.2.1
    have hq := (hT.mem (M' := M2) (fun a ha => f a (by omega))) x hx
    rw [f80]
    obtain ⟨u1, b, u2, u3⟩ := hq
    exact ⟨u1, b, by rw [f54 x (by omega), ← f 35 (by omega)]; exact u2, u3⟩
  · unfold FT; rw [f 16 (by omega), f 77 (by omega)]; exact hFT
theorem st_back {i : Nat} {S : ST} {M : MT} (h : LI i S M) : Ct E1 yX11_back cX11_back 1 (some .int) rm_X11_back [.ref 16] S M (fun r S1 M1 => ∃ x : Int, r = some (.int (z x)) ∧ Ct E1 yX12_back cX12_back 1 (some .int) rm_X12_back [.ref 77] S1 M1 (fun r2 S2 M2 => r2 = some (.int (z x)) ∧ LI (i + 1) S2 M2)) := by
  obtain ⟨h91, hC, hK, hF, hFk, h44, hT, hTk, hI, hIk, ⟨t, ht4, ht, hTB⟩, hFT, hP, hV, hN, h34⟩ := id h
  obtain ⟨L, hL, hL1, hL2⟩ := hFk.laid
  have h6 := hFk.2.2.2.2.2.2.1
  refine (c_back S M (M 79) L hL2 hL hK.1 hK.2.1 hK.2.2.1 hK.2.2.2.1 hK.2.2.2.2 h6 hIk).imp (fun r S1 M1 q => ?_)
  obtain ⟨rfl, rfl, hM, g1, g2, g3, g4, g5, g6, g7⟩ := q
  have e79 : M1 79 = M 79 := hM 79 (by decide)
  refine ⟨_, rfl, (m_back S1 M1 L hL2 (by rw [e79]; exact hL)).imp (fun r2 S2 M2 q => ?_)⟩
  obtain ⟨rfl, rfl, e2⟩ := q
  rw [e79] at e2
  have eM : ∀ a, a ≠ 78 → M2 a = M1 a := fun a u => by rw [e2, up_ne _ _ u]
  have ek : ∀ j, j < 780 → M2 78 j = M 79 j := fun j hj => by rw [e2, up_same, if_pos hj]
  have f79 : M2 79 = M 79 := (eM 79 (by decide)).trans e79
  have f80 : M2 80 = M 80 := by rw [eM 80 (by decide), hM 80 (by decide)]
  have f : ∀ a, a = 16 ∨ a = 34 ∨ (36 ≤ a ∧ a ≠ 67 ∧ a ≠ 78) → M2 a = M a := fun a ha => by rw [eM a (by omega), hM a (by simp; omega)]
  have f35 : ∀ i, i < 4 → M2 35 i = M 54 i := fun i hi => by rw [eM 35 (by decide)]; exact g6 i hi
  have hFx := hFk.mono (show Bi i ≤ Bi (i + 1) by rw [← Bi_s]; omega)
  refine ⟨rfl, h91, CN.mem (M := M1) ⟨g1.to ek, g2.to ek, g3.to ek, g4.to h6 ek, g5.to ek⟩ (fun a _ _ _ => eM a (by omega)), by rw [f79]; exact hK.mem (fun a ha => f a (by omega)), hFx.cg ek, by rw [f79]; exact hFx, by rw [ek 4 (by omega), f79]; exact Int.le_refl _, ?_, by rw [f80, f79]; exact hTk.mem (fun a ha => f a (by omega)), fun k hk => by rw [f35 k hk]; exact hIk k hk, hIk.mem (f 54 (by omega)), ⟨t, by rw [f 77 (by omega)]; exact ht4, ht, by rw [f 81 (by omega)]; exact hTB.mem (by rw [f 55 (by omega)]) (f 56 (by omega))⟩, ?_, hP.no (by rw [eM 67 (by decide), g7, up_same]) (f 72 (by omega)), VBm hV (f 65 (by omega)), NBm hN (f 83 (by omega)), by rw [f 34 (by omega)]; exact h34⟩
  · intro x hx
    rw [ek 4 (by omega)] at hx
    have h4 := hFk.2.2.2.2.2.1
    have hq := (hTk.mem (M' := M2) (fun a ha => f a (by omega))) x hx
    rw [f80]
    obtain ⟨u1, b, u2, u3⟩ := hq
    exact ⟨u1, b, by rw [f35 x (by omega), ← f 54 (by omega)]; exact u2, u3⟩
  · unfold FT; rw [f 16 (by omega), f 77 (by omega)]; exact hFT
