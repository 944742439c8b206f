/-! one call, of the class and of the reference -/
theorem st_stone {i : Nat} {S : ST} {M : MT} (h : LI i S M) (w e v b nd : Int) (h1 : InR w) (h2 : InR e) (h3 : InR v) (h4 : InR b) (h5 : InR nd) : Ct E1 yX11_stone cX11_stone 9 (some .int) rm_X11_stone [.ref 16, .int (z w), .int (z e), .int (z v), .int (z b), .int (z nd)] S M (fun r S1 M1 => ∃ x : Int, r = some (.int (z x)) ∧ Ct E1 yX12_stone cX12_stone 7 (some .int) rm_X12_stone [.ref 77, .int (z w), .int (z e), .int (z v), .int (z b), .int (z nd)] S1 M1 (fun r2 S2 M2 => r2 = some (.int (z x)) ∧ LI (i + 1) S2 M2)) := by
  obtain ⟨h91, hC, hK, hF, hFk, h44, hT, hTk, hI, hIk, hTB, hFT, hP, hV, hN, h34⟩ := id h
  by_cases ok : okStone (M 78) w e v b nd
  · refine ((c_stone w e v b nd h1 h2 h3 h4 h5 S M (M 78) hC.1 hF.1).1 ok).imp (fun r S1 M1 q => ?_)
    obtain ⟨rfl, rfl, hM, g1, g2⟩ := q
    have e78 : M1 78 = M 78 := hM 78 (by decide)
    refine ⟨_, rfl, ((m_stone w e v b nd h1 h2 h3 h4 h5 S1 M1 (by rw [e78]; exact hF.1)).1 (by rw [e78]; exact ok)).imp (fun r2 S2 M2 q => ?_)⟩
    obtain ⟨rfl, rfl, rfl⟩ := q
    have ho : ∀ j, j ≠ 0 → (j < 10 ∨ 70 ≤ j) → stoneA (M 78) w e v b nd j = M 78 j := fun j a c => stoneA_o _ _ _ _ _ _ (by have := hF.1.1; have := ok.2.2.2.1; omega) a c
    refine ⟨by rw [e78], h.u (σ' := stoneA (M 78) w e v b nd) (by rw [up_same, e78]) (CN.mem (M := M1) ⟨g1, HNs (HNm hC.2.1 (fun a _ _ => hM a (by simp; omega))) (fun j hj => ho j (by omega) (by omega)), NNs (NNm hC.2.2.1 (fun a _ _ => hM a (by simp; omega))) (fun j hj => ho j (by omega) (by omega)), GNs (GNm hC.2.2.2.1 (fun a _ _ => hM a (by simp; omega))) (fun j hj => ho j (by omega) (by omega)), FDs (FDm hC.2.2.2.2 (hM 17 (by decide))) (fun j hj => ho j (by omega) (by omega))⟩ (fun a _ _ _ => up_ne _ _ (by omega))) ((hF.stone ok).mono (by rw [← Bi_s]; omega)) (ho 4 (by omega) (by omega)) (hP.no (by rw [up_ne _ _ (by decide), g2, up_same]) (by rw [up_ne _ _ (by decide), hM 72 (by decide)])) (VBm hV (by rw [up_ne _ _ (by decide), hM 65 (by decide)])) (NBm hN (by rw [up_ne _ _ (by decide), hM 83 (by decide)])) (fun a ha => by rw [up_ne _ _ (by omega), hM a (by simp; omega)]) (fun j _ _ => by rw [up_ne _ _ (by decide), hM 77 (by decide)])⟩
  · refine ((c_stone w e v b nd h1 h2 h3 h4 h5 S M (M 78) hC.1 hF.1).2 ok).imp (fun r S1 M1 q => ?_)
    obtain ⟨rfl, rfl, rfl⟩ := q
    refine ⟨_, rfl, ((m_stone w e v b nd h1 h2 h3 h4 h5 S1 M1 hF.1).2 ok).imp (fun r2 S2 M2 q => ?_)⟩
    obtain ⟨rfl, rfl, rfl⟩ := q
    exact ⟨rfl, h.id⟩
theorem st_hour {i : Nat} {S : ST} {M : MT} (h : LI i S M) (w : Int) (h1 : InR w) : Ct E1 yX11_hour cX11_hour 2 (some .boolean) rm_X11_hour [.ref 16, .int (z w)] S M (fun r S1 M1 => ∃ x : Int, r = some (.int (z x)) ∧ Ct E1 yX12_hour cX12_hour 2 (some .boolean) rm_X12_hour [.ref 77, .int (z w)] S1 M1 (fun r2 S2 M2 => r2 = some (.int (z x)) ∧ LI (i + 1) S2 M2)) := by
  obtain ⟨h91, hC, hK, hF, hFk, h44, hT, hTk, hI, hIk, hTB, hFT, hP, hV, hN, h34⟩ := id h
  refine (c_hour w h1 S M).imp (fun r S1 M1 q => ?_)
  obtain ⟨rfl, rfl, e1⟩ := q
  refine ⟨_, rfl, (m_hour w h1 S1 M1).imp (fun r2 S2 M2 q => ?_)⟩
  obtain ⟨rfl, rfl, e2⟩ := q
  refine ⟨rfl, ?_⟩
  by_cases ok : 0 ≤ w ∧ w ≤ 23
  · rw [if_pos ok] at e1 e2
    have eM1 : ∀ a, a ≠ 17 → a ≠ 67 → M1 a = M a := fun a u v => by rw [e1, up_ne _ _ u, up_ne _ _ v]
    have e17 : M1 17 = up (M 17) 8 w := by rw [e1, up_same]
    have e67 : M1 67 = up (M 67) 4 0 := by rw [e1, up_ne _ _ (by decide), up_same]
    have eM : ∀ a, a ≠ 78 → M2 a = M1 a := fun a u => by rw [e2, up_ne _ _ u]
    have ho : ∀ j, j ≠ 2 → up (M 78) 2 w j = M 78 j := fun j u => up_ne _ _ u
    refine h.u (σ' := up (M 78) 2 w) (by rw [e2, up_same, eM1 78 (by decide) (by decide)]) (CN.mem (M := M1) ⟨SNs (SNm hC.1 (fun a _ _ => eM1 a (by omega) (by omega))) (fun j hj => ho j (by omega)), HNs (HNm hC.2.1 (fun a _ _ => eM1 a (by omega) (by omega))) (fun j hj => ho j (by omega)), NNs (NNm hC.2.2.1 (fun a _ _ => eM1 a (by omega) (by omega))) (fun j hj => ho j (by omega)), GNs (GNm hC.2.2.2.1 (fun a _ _ => eM1 a (by omega) (by omega))) (fun j hj => ho j (by omega)), ?_⟩ (fun a _ _ _ => eM a (by omega))) ((hF.hd 2 w (Or.inl ⟨rfl, by omega⟩)).mono (by rw [← Bi_s]; omega)) (ho 4 (by omega)) (hP.no (by rw [eM 67 (by decide), e67, up_same]) (by rw [eM 72 (by decide), eM1 72 (by decide) (by decide)])) (VBm hV (by rw [eM 65 (by decide), eM1 65 (by decide) (by decide)])) (NBm hN (by rw [eM 83 (by decide), eM1 83 (by decide) (by decide)])) (fun a ha => by rw [eM a (by omega), eM1 a (by omega) (by omega)]) (fun j _ _ => by rw [eM 77 (by decide), eM1 77 (by decide) (by decide)])
    obtain ⟨u1, u2, u3, u4⟩ := hC.2.2.2.2
    unfold FD
    rw [e17]
    exact ⟨by simpa [up] using u1, by simpa [up] using u2, by simp [up], by simpa [up] using u4⟩
  · rw [if_neg ok] at e1 e2
    rw [e2, e1]; exact h.id
theorem st_house {i : Nat} {S : ST} {M : MT} (h : LI i S M) (hi : i ≤ 512) (w : Int) (h1 : InR w) : Ct E1 yX11_house cX11_house 4 (some .int) rm_X11_house [.ref 16, .int (z w)] S M (fun r S1 M1 => ∃ x : Int, r = some (.int (z x)) ∧ Ct E1 yX12_house cX12_house 3 (some .int) rm_X12_house [.ref 77, .int (z w)] S1 M1 (fun r2 S2 M2 => r2 = some (.int (z x)) ∧ LI (i + 1) S2 M2)) := by
  obtain ⟨h91, hC, hK, hF, hFk, h44, hT, hTk, hI, hIk, hTB, hFT, hP, hV, hN, h34⟩ := id h
  have hw : WH (M 78) := hF.2.1.wh (by have := Bi_le hi; omega)
  by_cases ok : (0 ≤ w ∧ w ≤ 99) ∧ M 78 3 ≠ 10
  · refine ((c_house w h1 S M (M 78) hC.2.1 hw).1 ok).imp (fun r S1 M1 q => ?_)
    obtain ⟨rfl, rfl, hM, g1⟩ := q
    have e78 : M1 78 = M 78 := hM 78 (by decide)
    refine ⟨_, rfl, (m_house w h1 S1 M1 (by rw [e78]; exact hw)).imp (fun r2 S2 M2 q => ?_)⟩
    obtain ⟨rfl, rfl, e2⟩ := q
    rw [e78, if_pos ok] at e2 ⊢
    have hh := hF.2.1.1
    have ho : ∀ j, j ≠ 3 → (j < 70 ∨ 100 ≤ j) → houseA (M 78) w j = M 78 j := fun j a c => by
      unfold houseA
      rw [up_ne _ _ a, up_ne _ _ (by omega), up_ne _ _ (by omega), up_ne _ _ (by omega)]
    have eM : ∀ a, a ≠ 78 → M2 a = M1 a := fun a u => by rw [e2, up_ne _ _ u]
    refine ⟨rfl, h.u (σ' := houseA (M 78) w) (by rw [e2, up_same]) (CN.mem (M := M1) ⟨SNs (SNm hC.1 (fun a _ _ => hM a (by simp; omega))) (fun j hj => ho j (by omega) (by omega)), g1, NNs (NNm hC.2.2.1 (fun a _ _ => hM a (by simp; omega))) (fun j hj => ho j (by omega) (by omega)), GNs (GNm hC.2.2.2.1 (fun a _ _ => hM a (by simp; omega))) (fun j hj => ho j (by omega) (by omega)), FDs (FDm hC.2.2.2.2 (hM 17 (by decide))) (fun j hj => ho j (by omega) (by omega))⟩ (fun a _ _ _ => eM a (by omega))) ((hF.house (by unfold Bi; omega) ok.1 ok.2).mono (by rw [← Bi_s]; omega)) (ho 4 (by omega) (by omega)) ((hP.cg (Ag.same (fun j hj => ho j (by omega) (by omega))) h.lw).mem (fun j _ => by rw [eM 67 (by decide), hM 67 (by decide)]) (by rw [eM 68 (by decide), hM 68 (by decide)]) (by rw [eM 70 (by decide), hM 70 (by decide)]) (by rw [eM 72 (by decide), hM 72 (by decide)])) (VBm hV (by rw [eM 65 (by decide), hM 65 (by decide)])) (NBm hN (by rw [eM 83 (by decide), hM 83 (by decide)])) (fun a ha => by rw [eM a (by omega), hM a (by simp; omega)]) (fun j _ _ => by rw [eM 77 (by decide), hM 77 (by decide)])⟩
  · refine ((c_house w h1 S M (M 78) hC.2.1 hw).2 ok).imp (fun r S1 M1 q => ?_)
    obtain ⟨rfl, rfl, rfl⟩ := q
    refine ⟨_, rfl, (m_house w h1 S1 M1 hw).imp (fun r2 S2 M2 q => ?_)⟩
    obtain ⟨rfl, rfl, e2⟩ := q
    rw [if_neg ok] at e2 ⊢
    rw [e2]
    exact ⟨rfl, h.id⟩
theorem st_touch {i : Nat} {S : ST} {M : MT} (h : LI i S M) (hi : i ≤ 512) (o t : Int) (is : Bool) (h1 : InR o) (h2 : InR t) : Ct E1 yX11_touch cX11_touch 4 (some .boolean) rm_X11_touch [.ref 16, .int (z o), .int (z t), .int (z (bI is))] S M (fun r S1 M1 => ∃ x : Int, r = some (.int (z x)) ∧ Ct E1 yX12_touch cX12_touch 4 (some .boolean) rm_X12_touch [.ref 77, .int (z o), .int (z t), .int (z (bI is))] S1 M1 (fun r2 S2 M2 => r2 = some (.int (z x)) ∧ LI (i + 1) S2 M2)) := by
  obtain ⟨h91, hC, hK, hF, hFk, h44, hT, hTk, hI, hIk, hTB, hFT, hP, hV, hN, h34⟩ := id h
  have hw : WH (M 78) := hF.2.1.wh (by have := Bi_le hi; omega)
  by_cases ok : (0 ≤ o ∧ o < M 78 3) ∧ (0 ≤ t ∧ t < M 78 3) ∧ o ≠ t
  · refine ((c_touch o t is h1 h2 S M (M 78) hC.2.1 hw).1 ok).imp (fun r S1 M1 q => ?_)
    obtain ⟨rfl, rfl, hM, g1⟩ := q
    have e78 : M1 78 = M 78 := hM 78 (by decide)
    refine ⟨_, rfl, (m_touch o t is h1 h2 S1 M1 (by rw [e78]; exact hw)).imp (fun r2 S2 M2 q => ?_)⟩
    obtain ⟨rfl, rfl, e2⟩ := q
    rw [e78, if_pos ok] at e2
    rw [e78, decide_eq_true ok]
    have hh := hF.2.1.1
    have ho : ∀ j, (j < 70 ∨ 100 ≤ j) → touchA (touchA (M 78) o.toNat t.toNat is) t.toNat o.toNat is j = M 78 j := fun j c => by
      unfold touchA
      rw [up_ne _ _ (by omega), up_ne _ _ (by omega)]
    have e3 : touchA (M 78) o.toNat t.toNat is 3 = M 78 3 := by unfold touchA; rw [up_ne _ _ (by omega)]
    have eM : ∀ a, a ≠ 78 → M2 a = M1 a := fun a u => by rw [e2, up_ne _ _ u]
    refine ⟨rfl, h.u (σ' := touchA (touchA (M 78) o.toNat t.toNat is) t.toNat o.toNat is) (by rw [e2, up_same]) (CN.mem (M := M1) ⟨SNs (SNm hC.1 (fun a _ _ => hM a (by simp; omega))) (fun j hj => ho j (by omega)), g1, NNs (NNm hC.2.2.1 (fun a _ _ => hM a (by simp; omega))) (fun j hj => ho j (by omega)), GNs (GNm hC.2.2.2.1 (fun a _ _ => hM a (by simp; omega))) (fun j hj => ho j (by omega)), FDs (FDm hC.2.2.2.2 (hM 17 (by decide))) (fun j hj => ho j (by omega))⟩ (fun a _ _ _ => eM a (by omega))) (((hF.touch is (by omega) (by omega)).touch is (by rw [e3]; omega) (by rw [e3]; omega)).mono (by rw [← Bi_s]; omega)) (ho 4 (by omega)) ((hP.cg (Ag.same (fun j hj => ho j (by omega))) h.lw).mem (fun j _ => by rw [eM 67 (by decide), hM 67 (by decide)]) (by rw [eM 68 (by decide), hM 68 (by decide)]) (by rw [eM 70 (by decide), hM 70 (by decide)]) (by rw [eM 72 (by decide), hM 72 (by decide)])) (VBm hV (by rw [eM 65 (by decide), hM 65 (by decide)])) (NBm hN (by rw [eM 83 (by decide), hM 83 (by decide)])) (fun a ha => by rw [eM a (by omega), hM a (by simp; omega)]) (fun j _ _ => by rw [eM 77 (by decide), hM 77 (by decide)])⟩
  · refine ((c_touch o t is h1 h2 S M (M 78) hC.2.1 hw).2 ok).imp (fun r S1 M1 q => ?_)
    obtain ⟨rfl, rfl, rfl⟩ := q
    refine ⟨_, rfl, (m_touch o t is h1 h2 S1 M1 hw).imp (fun r2 S2 M2 q => ?_)⟩
    obtain ⟨rfl, rfl, e2⟩ := q
    rw [if_neg ok] at e2
    rw [e2, decide_eq_false ok]
    exact ⟨rfl, h.id⟩
theorem st_by {i : Nat} {S : ST} {M : MT} (h : LI i S M) (w : Int) (h1 : InR w) : Ct E1 yX11_by cX11_by 2 (some .boolean) rm_X11_by [.ref 16, .int (z w)] S M (fun r S1 M1 => ∃ x : Int, r = some (.int (z x)) ∧ Ct E1 yX12_by cX12_by 2 (some .boolean) rm_X12_by [.ref 77, .int (z w)] S1 M1 (fun r2 S2 M2 => r2 = some (.int (z x)) ∧ LI (i + 1) S2 M2)) := by
  obtain ⟨h91, hC, hK, hF, hFk, h44, hT, hTk, hI, hIk, hTB, hFT, hP, hV, hN, h34⟩ := id h
  have h4 := hF.2.2.2.2.2.1
  refine (c_by w (M 78 4) h1 S M h4 hC.2.2.2.2.1).imp (fun r S1 M1 q => ?_)
  obtain ⟨rfl, rfl, e1⟩ := q
  have e78 : M1 78 = M 78 := by rw [e1]; split <;> first | rfl | rw [up_ne _ _ (by decide), up_ne _ _ (by decide)]
  refine ⟨_, rfl, (m_by w h1 S1 M1 (by rw [e78]; exact h4)).imp (fun r2 S2 M2 q => ?_)⟩
  obtain ⟨rfl, rfl, e2⟩ := q
  rw [e78] at e2 ⊢
  refine ⟨rfl, ?_⟩
  by_cases ok : -1 ≤ w ∧ w ≤ M 78 4 - 1
  · rw [if_pos ok] at e1 e2
    have eM1 : ∀ a, a ≠ 17 → a ≠ 67 → M1 a = M a := fun a u v => by rw [e1, up_ne _ _ u, up_ne _ _ v]
    have e17 : M1 17 = up (M 17) 7 w := by rw [e1, up_same]
    have e67 : M1 67 = up (M 67) 4 0 := by rw [e1, up_ne _ _ (by decide), up_same]
    have eM : ∀ a, a ≠ 78 → M2 a = M1 a := fun a u => by rw [e2, up_ne _ _ u]
    have ho : ∀ j, j ≠ 5 → up (M 78) 5 w j = M 78 j := fun j u => up_ne _ _ u
    refine h.u (σ' := up (M 78) 5 w) (by rw [e2, up_same]) (CN.mem (M := M1) ⟨SNs (SNm hC.1 (fun a _ _ => eM1 a (by omega) (by omega))) (fun j hj => ho j (by omega)), HNs (HNm hC.2.1 (fun a _ _ => eM1 a (by omega) (by omega))) (fun j hj => ho j (by omega)), NNs (NNm hC.2.2.1 (fun a _ _ => eM1 a (by omega) (by omega))) (fun j hj => ho j (by omega)), GNs (GNm hC.2.2.2.1 (fun a _ _ => eM1 a (by omega) (by omega))) (fun j hj => ho j (by omega)), ?_⟩ (fun a _ _ _ => eM a (by omega))) ((hF.hd 5 w (Or.inr (Or.inl ⟨rfl, by omega⟩))).mono (by rw [← Bi_s]; omega)) (ho 4 (by omega)) (hP.no (by rw [eM 67 (by decide), e67, up_same]) (by rw [eM 72 (by decide), eM1 72 (by decide) (by decide)])) (VBm hV (by rw [eM 65 (by decide), eM1 65 (by decide) (by decide)])) (NBm hN (by rw [eM 83 (by decide), eM1 83 (by decide) (by decide)])) (fun a ha => by rw [eM a (by omega), eM1 a (by omega) (by omega)]) (fun j _ _ => by rw [eM 77 (by decide), eM1 77 (by decide) (by decide)])
    obtain ⟨u1, u2, u3, u4⟩ := hC.2.2.2.2
    unfold FD
    rw [e17]
    exact ⟨by simpa [up] using u1, by simp [up], by simpa [up] using u3, by simpa [up] using u4⟩
  · rw [if_neg ok] at e1 e2
    rw [e2, e1]; exact h.id
theorem st_sound {i : Nat} {S : ST} {M : MT} (h : LI i S M) (lo hi : Int) (h1 : InR lo) (h2 : InR hi) : Ct E1 yX11_sound cX11_sound 3 (some .int) rm_X11_sound [.ref 16, .int (z lo), .int (z hi)] S M (fun r S1 M1 => ∃ x : Int, r = some (.int (z x)) ∧ Ct E1 yX12_sound cX12_sound 3 (some .int) rm_X12_sound [.ref 77, .int (z lo), .int (z hi)] S1 M1 (fun r2 S2 M2 => r2 = some (.int (z x)) ∧ LI (i + 1) S2 M2)) := by
  obtain ⟨h91, hC, hK, hF, hFk, h44, hT, hTk, hI, hIk, hTB, hFT, hP, hV, hN, h34⟩ := id h
  have h7 := hF.2.2.2.2.2.2.2.2.1
  by_cases ok : (0 ≤ lo ∧ lo ≤ 20) ∧ (lo ≤ hi ∧ hi ≤ 20) ∧ M 78 7 ≠ 8
  · refine ((c_sound lo hi h1 h2 S M (M 78) hC.2.2.1 h7).1 ok).imp (fun r S1 M1 q => ?_)
    obtain ⟨rfl, rfl, hM, g1⟩ := q
    have e78 : M1 78 = M 78 := hM 78 (by decide)
    refine ⟨_, rfl, (m_sound lo hi h1 h2 S1 M1 (by rw [e78]; exact h7)).imp (fun r2 S2 M2 q => ?_)⟩
    obtain ⟨rfl, rfl, e2⟩ := q
    rw [e78, if_pos ok] at e2 ⊢
    have ho : ∀ j, j ≠ 7 → (j < 100 ∨ 120 ≤ j) → soundA (M 78) lo hi j = M 78 j := fun j a c => by
      unfold soundA
      rw [up_ne _ _ a, up_ne _ _ (by omega), up_ne _ _ (by omega)]
    have eM : ∀ a, a ≠ 78 → M2 a = M1 a := fun a u => by rw [e2, up_ne _ _ u]
    refine ⟨rfl, h.u (σ' := soundA (M 78) lo hi) (by rw [e2, up_same]) (CN.mem (M := M1) ⟨SNs (SNm hC.1 (fun a _ _ => hM a (by simp; omega))) (fun j hj => ho j (by omega) (by omega)), HNs (HNm hC.2.1 (fun a _ _ => hM a (by simp; omega))) (fun j hj => ho j (by omega) (by omega)), g1, GNs (GNm hC.2.2.2.1 (fun a _ _ => hM a (by simp; omega))) (fun j hj => ho j (by omega) (by omega)), FDs (FDm hC.2.2.2.2 (hM 17 (by decide))) (fun j hj => ho j (by omega) (by omega))⟩ (fun a _ _ _ => eM a (by omega))) ((hF.sound (by omega) (by omega) ok.2.2).mono (by rw [← Bi_s]; omega)) (ho 4 (by omega) (by omega)) ((hP.cg (Ag.same (fun j hj => ho j (by omega) (by omega))) h.lw).mem (fun j _ => by rw [eM 67 (by decide), hM 67 (by decide)]) (by rw [eM 68 (by decide), hM 68 (by decide)]) (by rw [eM 70 (by decide), hM 70 (by decide)]) (by rw [eM 72 (by decide), hM 72 (by decide)])) (VBm hV (by rw [eM 65 (by decide), hM 65 (by decide)])) (NBm hN (by rw [eM 83 (by decide), hM 83 (by decide)])) (fun a ha => by rw [eM a (by omega), hM a (by simp; omega)]) (fun j _ _ => by rw [eM 77 (by decide), hM 77 (by decide)])⟩
  · refine ((c_sound lo hi h1 h2 S M (M 78) hC.2.2.1 h7).2 ok).imp (fun r S1 M1 q => ?_)
    obtain ⟨rfl, rfl, rfl⟩ := q
    refine ⟨_, rfl, (m_sound lo hi h1 h2 S1 M1 h7).imp (fun r2 S2 M2 q => ?_)⟩
    obtain ⟨rfl, rfl, e2⟩ := q
    rw [if_neg ok] at e2 ⊢
    rw [e2]
    exact ⟨rfl, h.id⟩
theorem st_hush {i : Nat} {S : ST} {M : MT} (h : LI i S M) : Ct E1 yX11_hush cX11_hush 2 (some .int) rm_X11_hush [.ref 16] S M (fun r S1 M1 => ∃ x : Int, r = some (.int (z x)) ∧ Ct E1 yX12_hush cX12_hush 2 (some .int) rm_X12_hush [.ref 77] S1 M1 (fun r2 S2 M2 => r2 = some (.int (z x)) ∧ LI (i + 1) S2 M2)) := by
  obtain ⟨h91, hC, hK, hF, hFk, h44, hT, hTk, hI, hIk, hTB, hFT, hP, hV, hN, h34⟩ := id h
  refine (c_hush S M (M 78) hC.2.2.1).imp (fun r S1 M1 q => ?_)
  obtain ⟨rfl, rfl, e1⟩ := q
  have eM1 : ∀ a, a ≠ 29 → M1 a = M a := fun a u => by rw [e1, up_ne _ _ u]
  have e78 : M1 78 = M 78 := eM1 78 (by decide)
  refine ⟨_, rfl, (m_hush S1 M1).imp (fun r2 S2 M2 q => ?_)⟩
  obtain ⟨rfl, rfl, e2⟩ := q
  rw [e78] at e2 ⊢
  have eM : ∀ a, a ≠ 78 → M2 a = M1 a := fun a u => by rw [e2, up_ne _ _ u]
  have ho : ∀ j, j ≠ 7 → up (M 78) 7 0 j = M 78 j := fun j u => up_ne _ _ u
  refine ⟨rfl, h.u (σ' := up (M 78) 7 0) (by rw [e2, up_same]) (CN.mem (M := M1) ⟨SNs (SNm hC.1 (fun a _ _ => eM1 a (by omega))) (fun j hj => ho j (by omega)), HNs (HNm hC.2.1 (fun a _ _ => eM1 a (by omega))) (fun j hj => ho j (by omega)), ⟨by rw [e1, up_same, up_same, up_same], fun k hk => ?_⟩, GNs (GNm hC.2.2.2.1 (fun a _ _ => eM1 a (by omega))) (fun j hj => ho j (by omega)), FDs (FDm hC.2.2.2.2 (eM1 17 (by decide))) (fun j hj => ho j (by omega))⟩ (fun a _ _ _ => eM a (by omega))) ((hF.hd 7 0 (Or.inr (Or.inr (Or.inr (Or.inl ⟨rfl, rfl⟩))))).mono (by rw [← Bi_s]; omega)) (ho 4 (by omega)) ((hP.cg (Ag.same (fun j hj => ho j (by omega))) h.lw).mem (fun j _ => by rw [eM 67 (by decide), eM1 67 (by decide)]) (by rw [eM 68 (by decide), eM1 68 (by decide)]) (by rw [eM 70 (by decide), eM1 70 (by decide)]) (by rw [eM 72 (by decide), eM1 72 (by decide)])) (VBm hV (by rw [eM 65 (by decide), eM1 65 (by decide)])) (NBm hN (by rw [eM 83 (by decide), eM1 83 (by decide)])) (fun a ha => by rw [eM a (by omega), eM1 a (by omega)]) (fun j _ _ => by rw [eM 77 (by decide), eM1 77 (by decide)])⟩
  rw [eM1 30 (by decide), eM1 31 (by decide), ho _ (by omega), ho _ (by omega)]
  exact hC.2.2.1.2 k hk
