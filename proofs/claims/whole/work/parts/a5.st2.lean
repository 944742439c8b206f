theorem st_of {i : Nat} {S : ST} {M : MT} (h : LI i S M) (s w : Int) (h1 : InR s) (h2 : InR w) : Ct E1 yX11_of cX11_of 3 (some .int) rm_X11_of [.ref 16, .int (z s), .int (z w)] S M (fun r S1 M1 => ∃ x : Int, r = some (.int (z x)) ∧ Ct E1 yX12_of cX12_of 4 (some .int) rm_X12_of [.ref 77, .int (z s), .int (z w)] S1 M1 (fun r2 S2 M2 => r2 = some (.int (z x)) ∧ LI (i + 1) S2 M2)) := by
  obtain ⟨h91, hC, hK, hF, hFk, h44, hT, hTk, hI, hIk, hTB, hFT, hP, hV, hN, h34⟩ := id h
  obtain ⟨b, hR, hb⟩ := h.rb
  obtain ⟨L, hL, -, hL2⟩ := hF.laid
  refine (c_of s w h1 h2 S M (M 78) (M 80) b (h.as hR hb) L hL hL2).imp (fun r S1 M1 q => ?_)
  obtain ⟨rfl, rfl, hM, g1⟩ := q
  have e78 : M1 78 = M 78 := hM 78 (by decide)
  have e80 : M1 80 = M 80 := hM 80 (by decide)
  refine ⟨_, rfl, (m_of s w h1 h2 S1 M1 (by rw [e78, e80]; exact h.lw) (NBm hN (hM 83 (by decide))) L (by rw [e78]; exact hL) hL2).imp (fun r2 S2 M2 q => ?_)⟩
  obtain ⟨rfl, rfl, hM2, g2⟩ := q
  refine ⟨by rw [e78, e80], h.q (hP.mem (fun j _ => by rw [hM2 67 (by decide), hM 67 (by decide)]) (by rw [hM2 68 (by decide), hM 68 (by decide)]) (by rw [hM2 70 (by decide), hM 70 (by decide)]) (by rw [hM2 72 (by decide), hM 72 (by decide)])) (VBm g1 (hM2 65 (by decide))) g2 (fun a ha => by rw [hM2 a (by simp; omega), hM a (by simp; omega)]) (fun j _ _ => by rw [hM2 77 (by decide), hM 77 (by decide)])⟩
theorem keepA_ag {σ : Nat → Int} (h6 : 0 ≤ σ 6 ∧ σ 6 ≤ 30) (l : Int) {j : Nat} (hj : j ≠ 1) (hj6 : j ≠ 6) (hj2 : j < 120) : up (keepA σ) 1 l j = σ j := by rw [up_ne _ _ hj, keepA_h σ h6 j hj6 hj2]
theorem st_lay {i : Nat} {S : ST} {M : MT} (h : LI i S M) (s : Int) (h1 : InR s) : Ct E1 yX11_lay cX11_lay 3 (some .int) rm_X11_lay [.ref 16, .int (z s)] S M (fun r S1 M1 => ∃ x : Int, r = some (.int (z x)) ∧ Ct E1 yX12_lay cX12_lay 3 (some .int) rm_X12_lay [.ref 77, .int (z s)] S1 M1 (fun r2 S2 M2 => r2 = some (.int (z x)) ∧ LI (i + 1) S2 M2)) := by
  obtain ⟨h91, hC, hK, hF, hFk, h44, hT, hTk, hI, hIk, hTB, hFT, hP, hV, hN, h34⟩ := id h
  obtain ⟨b, hR, hb⟩ := h.rb
  obtain ⟨L, hL, -, hL2⟩ := hF.laid
  have h6 := hF.2.2.2.2.2.2.1
  by_cases ok : okLay (M 78) (M 80) s
  · refine ((c_lay s h1 S M (M 78) (M 80) b (h.as hR hb) h6 L hL hL2).1 ok).imp (fun r S1 M1 q => ?_)
    obtain ⟨rfl, rfl, hM, g1, g2⟩ := q
    have e78 : M1 78 = M 78 := hM 78 (by decide)
    have e80 : M1 80 = M 80 := hM 80 (by decide)
    refine ⟨_, rfl, ((m_lay s h1 S1 M1 (by rw [e78, e80]; exact h.lw) (NBm hN (hM 83 (by decide))) (by rw [e78]; exact h6) L (by rw [e78]; exact hL) hL2).1 (by rw [e78, e80]; exact ok)).imp (fun r2 S2 M2 q => ?_)⟩
    obtain ⟨rfl, rfl, hM2, g3, g4⟩ := q
    have ho : ∀ j, j ≠ 1 → j ≠ 6 → j < 120 → layA (M 78) s.toNat j = M 78 j := fun j a b c => keepA_ag h6 _ a b c
    refine ⟨by rw [e78, e80], h.u (σ' := layA (M 78) s.toNat) (by rw [g4, e78]) (g2.mem (fun a _ _ _ => hM2 a (by simp; omega))) ((hF.lay (by have := ok.1; omega)).mono (by rw [← Bi_s]; omega)) (ho 4 (by omega) (by omega) (by omega)) ((hP.cg (Ag.same (fun j hj => ho j (by omega) (by omega) (by omega))) h.lw).mem (fun j _ => by rw [hM2 67 (by decide), hM 67 (by decide)]) (by rw [hM2 68 (by decide), hM 68 (by decide)]) (by rw [hM2 70 (by decide), hM 70 (by decide)]) (by rw [hM2 72 (by decide), hM 72 (by decide)])) (VBm g1 (hM2 65 (by decide))) g3 (fun a ha => by rw [hM2 a (by simp; omega), hM a (by simp; omega)]) (fun j _ _ => by rw [hM2 77 (by decide), hM 77 (by decide)])⟩
  · refine ((c_lay s h1 S M (M 78) (M 80) b (h.as hR hb) h6 L hL hL2).2 ok).imp (fun r S1 M1 q => ?_)
    obtain ⟨rfl, rfl, hM, g1⟩ := q
    have e78 : M1 78 = M 78 := hM 78 (by decide)
    have e80 : M1 80 = M 80 := hM 80 (by decide)
    refine ⟨_, rfl, ((m_lay s h1 S1 M1 (by rw [e78, e80]; exact h.lw) (NBm hN (hM 83 (by decide))) (by rw [e78]; exact h6) L (by rw [e78]; exact hL) hL2).2 (by rw [e78, e80]; exact ok)).imp (fun r2 S2 M2 q => ?_)⟩
    obtain ⟨rfl, rfl, hM2, g3, g4⟩ := q
    refine ⟨rfl, h.q (hP.mem (fun j _ => by rw [hM2 67 (by decide), hM 67 (by decide)]) (by rw [hM2 68 (by decide), hM 68 (by decide)]) (by rw [hM2 70 (by decide), hM 70 (by decide)]) (by rw [hM2 72 (by decide), hM 72 (by decide)])) (VBm g1 (hM2 65 (by decide))) g3 (fun a ha => ?_) (fun j _ _ => by rw [hM2 77 (by decide), hM 77 (by decide)])⟩
    by_cases qa : a = 78
    · rw [qa, g4, e78]
    · rw [hM2 a (by simp; omega), hM a (by simp; omega)]
theorem st_out {i : Nat} {S : ST} {M : MT} (h : LI i S M) (s : Int) (h1 : InR s) : Ct E1 yX11_out cX11_out 3 (some .int) rm_X11_out [.ref 16, .int (z s)] S M (fun r S1 M1 => ∃ x : Int, r = some (.int (z x)) ∧ Ct E1 yX12_out cX12_out 2 (some .int) rm_X12_out [.ref 77, .int (z s)] S1 M1 (fun r2 S2 M2 => r2 = some (.int (z x)) ∧ LI (i + 1) S2 M2)) := by
  obtain ⟨h91, hC, hK, hF, hFk, h44, hT, hTk, hI, hIk, hTB, hFT, hP, hV, hN, h34⟩ := id h
  obtain ⟨L, hL, -, hL2⟩ := hF.laid
  have h6 := hF.2.2.2.2.2.2.1
  by_cases ok : (0 ≤ s ∧ s < M 78 0) ∧ L.testBit s.toNat = true ∧ standB (M 78) (wo L (2 ^ s.toNat)) = true
  · refine ((c_out s h1 S M (M 78) hC hF.1 h6 L hL hL2).1 ok).imp (fun r S1 M1 q => ?_)
    obtain ⟨rfl, rfl, hM, g2⟩ := q
    have e78 : M1 78 = M 78 := hM 78 (by decide)
    refine ⟨_, rfl, ((m_out s h1 S1 M1 (by rw [e78]; exact hF.1) (by rw [e78]; exact h6) L (by rw [e78]; exact hL) hL2).1 (by rw [e78]; exact ok)).imp (fun r2 S2 M2 q => ?_)⟩
    obtain ⟨rfl, rfl, e2⟩ := q
    rw [e78] at e2
    have eM : ∀ a, a ≠ 78 → M2 a = M1 a := fun a u => by rw [e2, up_ne _ _ u]
    have ho : ∀ j, j ≠ 1 → j ≠ 6 → j < 120 → up (keepA (M 78)) 1 ((wo L (2 ^ s.toNat) : Nat) : Int) j = M 78 j := fun j a b c => keepA_ag h6 _ a b c
    refine ⟨rfl, h.u (by rw [e2, up_same]) (g2.mem (fun a _ _ _ => eM a (by omega))) ((hF.out hL _).mono (by rw [← Bi_s]; omega)) (ho 4 (by omega) (by omega) (by omega)) ((hP.cg (Ag.same (fun j hj => ho j (by omega) (by omega) (by omega))) h.lw).mem (fun j _ => by rw [eM 67 (by decide), hM 67 (by decide)]) (by rw [eM 68 (by decide), hM 68 (by decide)]) (by rw [eM 70 (by decide), hM 70 (by decide)]) (by rw [eM 72 (by decide), hM 72 (by decide)])) (VBm hV (by rw [eM 65 (by decide), hM 65 (by decide)])) (NBm hN (by rw [eM 83 (by decide), hM 83 (by decide)])) (fun a ha => by rw [eM a (by omega), hM a (by simp; omega)]) (fun j _ _ => by rw [eM 77 (by decide), hM 77 (by decide)])⟩
  · refine ((c_out s h1 S M (M 78) hC hF.1 h6 L hL hL2).2 ok).imp (fun r S1 M1 q => ?_)
    obtain ⟨rfl, rfl, rfl⟩ := q
    refine ⟨_, rfl, ((m_out s h1 S1 M1 hF.1 h6 L hL hL2).2 ok).imp (fun r2 S2 M2 q => ?_)⟩
    obtain ⟨rfl, rfl, rfl⟩ := q
    exact ⟨rfl, h.id⟩
theorem st_lend {i : Nat} {S : ST} {M : MT} (h : LI i S M) (hi : i ≤ 512) (s t : Int) (h1 : InR s) (h2 : InR t) : Ct E1 yX11_lend cX11_lend 3 (some .int) rm_X11_lend [.ref 16, .int (z s), .int (z t)] S M (fun r S1 M1 => ∃ x : Int, r = some (.int (z x)) ∧ Ct E1 yX12_lend cX12_lend 3 (some .int) rm_X12_lend [.ref 77, .int (z s), .int (z t)] S1 M1 (fun r2 S2 M2 => r2 = some (.int (z x)) ∧ LI (i + 1) S2 M2)) := by
  obtain ⟨h91, hC, hK, hF, hFk, h44, hT, hTk, hI, hIk, hTB, hFT, hP, hV, hN, h34⟩ := id h
  have hw : WH (M 78) := hF.2.1.wh (by have := Bi_le hi; omega)
  have h6 := hF.2.2.2.2.2.2.1
  by_cases ok : canL (M 78) s t
  · refine ((c_lend s t h1 h2 S M (M 78) hC hw h6).1 ok).imp (fun r S1 M1 q => ?_)
    obtain ⟨rfl, rfl, hM, g2⟩ := q
    have e78 : M1 78 = M 78 := hM 78 (by decide)
    refine ⟨_, rfl, ((m_lend s t h1 h2 S1 M1 (by rw [e78]; exact hw) (by rw [e78]; exact h6)).1 (by rw [e78]; exact ok)).imp (fun r2 S2 M2 q => ?_)⟩
    obtain ⟨rfl, rfl, e2⟩ := q
    rw [e78] at e2 ⊢
    have hs : s.toNat < 10 ∧ t.toNat < 10 := by have := ok.1; have := ok.2.1; have := hF.2.1.1; omega
    have eM : ∀ a, a ≠ 78 → M2 a = M1 a := fun a u => by rw [e2, up_ne _ _ u]
    have ho : ∀ j, j ≠ 6 → j < 70 → lendsA (keepA (M 78)) s.toNat t.toNat j = M 78 j := fun j b c => by
      rw [lendsA_o _ _ _ _ (fun k _ => by omega) (fun k _ => by omega) hs.1 hs.2, keepA_h _ h6 j b (by omega)]
    refine ⟨rfl, h.u (by rw [e2, up_same]) (g2.mem (fun a _ _ _ => eM a (by omega))) ((hF.keep.lends hs.1 hs.2).mono (by rw [← Bi_s]; omega)) (ho 4 (by omega) (by omega)) ((hP.cg (Ag.same (fun j hj => ho j (by omega) (by omega))) h.lw).mem (fun j _ => by rw [eM 67 (by decide), hM 67 (by decide)]) (by rw [eM 68 (by decide), hM 68 (by decide)]) (by rw [eM 70 (by decide), hM 70 (by decide)]) (by rw [eM 72 (by decide), hM 72 (by decide)])) (VBm hV (by rw [eM 65 (by decide), hM 65 (by decide)])) (NBm hN (by rw [eM 83 (by decide), hM 83 (by decide)])) (fun a ha => by rw [eM a (by omega), hM a (by simp; omega)]) (fun j _ _ => by rw [eM 77 (by decide), hM 77 (by decide)])⟩
  · refine ((c_lend s t h1 h2 S M (M 78) hC hw h6).2 ok).imp (fun r S1 M1 q => ?_)
    obtain ⟨rfl, rfl, rfl⟩ := q
    refine ⟨_, rfl, ((m_lend s t h1 h2 S1 M1 hw h6).2 ok).imp (fun r2 S2 M2 q => ?_)⟩
    obtain ⟨rfl, rfl, rfl⟩ := q
    exact ⟨rfl, h.id⟩
theorem st_undo {i : Nat} {S : ST} {M : MT} (h : LI i S M) : Ct E1 yX11_undo cX11_undo 1 (some .int) rm_X11_undo [.ref 16] S M (fun r S1 M1 => ∃ x : Int, r = some (.int (z x)) ∧ Ct E1 yX12_undo cX12_undo 3 (some .int) rm_X12_undo [.ref 77] S1 M1 (fun r2 S2 M2 => r2 = some (.int (z x)) ∧ LI (i + 1) S2 M2)) := by
  obtain ⟨h91, hC, hK, hF, hFk, h44, hT, hTk, hI, hIk, hTB, hFT, hP, hV, hN, h34⟩ := id h
  have h6 := hF.2.2.2.2.2.2.1
  have hr : ∀ i : Nat, i < 30 → 0 ≤ M 78 (121 + 22 * i) ∧ M 78 (121 + 22 * i) ≤ 10 := fun i hi => (hF.2.2.2.2.2.2.2.2.2.2 i hi).2.1
  by_cases ok : M 78 6 = 0
  · refine ((c_undo S M (M 78) hC h6 hr).2 ok).imp (fun r S1 M1 q => ?_)
    obtain ⟨rfl, rfl, rfl⟩ := q
    refine ⟨_, rfl, (m_undo S1 M1 h6 hr).imp (fun r2 S2 M2 q => ?_)⟩
    obtain ⟨rfl, rfl, e2⟩ := q
    rw [if_pos ok] at e2 ⊢
    rw [e2]
    exact ⟨rfl, h.id⟩
  · refine ((c_undo S M (M 78) hC h6 hr).1 ok).imp (fun r S1 M1 q => ?_)
    obtain ⟨rfl, rfl, hM, g2⟩ := q
    have e78 : M1 78 = M 78 := hM 78 (by decide)
    refine ⟨_, rfl, (m_undo S1 M1 (by rw [e78]; exact h6) (by rw [e78]; exact hr)).imp (fun r2 S2 M2 q => ?_)⟩
    obtain ⟨rfl, rfl, e2⟩ := q
    rw [e78, if_neg ok] at e2 ⊢
    have eM : ∀ a, a ≠ 78 → M2 a = M1 a := fun a u => by rw [e2, up_ne _ _ u]
    have ho : ∀ j, j ≠ 1 → j ≠ 6 → j < 70 → undoA (M 78) j = M 78 j := fun j a b c => undoA_o h6 hr ok (Or.inl c) a b
    refine ⟨rfl, h.u (by rw [e2, up_same]) (g2.mem (fun a _ _ _ => eM a (by omega))) ((hF.undo ok).mono (by rw [← Bi_s]; omega)) (ho 4 (by omega) (by omega) (by omega)) ((hP.cg (Ag.same (fun j hj => ho j (by omega) (by omega) (by omega))) h.lw).mem (fun j _ => by rw [eM 67 (by decide), hM 67 (by decide)]) (by rw [eM 68 (by decide), hM 68 (by decide)]) (by rw [eM 70 (by decide), hM 70 (by decide)]) (by rw [eM 72 (by decide), hM 72 (by decide)])) (VBm hV (by rw [eM 65 (by decide), hM 65 (by decide)])) (NBm hN (by rw [eM 83 (by decide), hM 83 (by decide)])) (fun a ha => by rw [eM a (by omega), hM a (by simp; omega)]) (fun j _ _ => by rw [eM 77 (by decide), hM 77 (by decide)])⟩
theorem st_town {i : Nat} {S : ST} {M : MT} (h : LI i S M) (hi : i ≤ 512) (s n : Int) (h1 : InR s) (h2 : InR n) : Ct E1 yX11_town cX11_town 3 (some .int) rm_X11_town [.ref 16, .int (z s), .int (z n)] S M (fun r S1 M1 => ∃ x : Int, r = some (.int (z x)) ∧ Ct E1 yX12_town cX12_town 9 (some .int) rm_X12_town [.ref 77, .int (z s), .int (z n)] S1 M1 (fun r2 S2 M2 => r2 = some (.int (z x)) ∧ LI (i + 1) S2 M2)) := by
  obtain ⟨h91, hC, hK, hF, hFk, h44, hT, hTk, hI, hIk, hTB, hFT, hP, hV, hN, h34⟩ := id h
  have hB := Bi_le hi
  have hw : WHb 900000 (M 78) := hF.2.1.mono (by omega)
  have h6 := hF.2.2.2.2.2.2.1
  by_cases ok : okTown (M 78) s n
  · refine ((c_town s n h1 h2 S M (M 78) hC hw hF.2.2.1 h6).1 ok).imp (fun r S1 M1 q => ?_)
    obtain ⟨rfl, rfl, hM, g2⟩ := q
    have e78 : M1 78 = M 78 := hM 78 (by decide)
    refine ⟨_, rfl, ((m_town s n h1 h2 S1 M1 (by rw [e78]; exact hw) (by rw [e78]; exact hF.2.2.1) (by rw [e78]; exact h6)).1 (by rw [e78]; exact ok)).imp (fun r2 S2 M2 q => ?_)⟩
    obtain ⟨rfl, rfl, e2⟩ := q
    rw [e78] at e2 ⊢
    obtain ⟨o1, o2, o3⟩ := ok
    have eM : ∀ a, a ≠ 78 → a ≠ 77 → M2 a = M1 a := fun a u v => by rw [e2, up_ne _ _ v, up_ne _ _ u]
    have k3 : keepA (M 78) 3 = M 78 3 := keepA_h _ h6 3 (by omega) (by omega)
    have ho : ∀ j, j ≠ 6 → j < 70 → (townT (keepA (M 78)) (s.toNat * 9 + 4) n.toNat).1 j = M 78 j := fun j b c => by
      rw [townT_o _ (by rw [k3]; have := hF.2.1.1; omega) (hF.keep.2.1.mono (by omega)) _ (by omega) j (Or.inl c) _ (by omega), keepA_h _ h6 j b (by omega)]
    refine ⟨rfl, h.u (by rw [e2, up_ne _ _ (by decide), up_same]) (g2.mem (fun a _ _ _ => eM a (by omega) (by omega))) ((hF.keep.town (by omega) (by rw [k3]; exact o3) _ (by omega) n.toNat (by omega)).mono (by rw [← Bi_s]; omega)) (ho 4 (by omega) (by omega)) ((hP.cg (Ag.same (fun j hj => ho j (by omega) (by omega))) h.lw).mem (fun j _ => by rw [eM 67 (by decide) (by decide), hM 67 (by decide)]) (by rw [eM 68 (by decide) (by decide), hM 68 (by decide)]) (by rw [eM 70 (by decide) (by decide), hM 70 (by decide)]) (by rw [eM 72 (by decide) (by decide), hM 72 (by decide)])) (VBm hV (by rw [eM 65 (by decide) (by decide), hM 65 (by decide)])) (NBm hN (by rw [eM 83 (by decide) (by decide), hM 83 (by decide)])) (fun a ha => by rw [eM a (by omega) (by omega), hM a (by simp; omega)]) (fun j _ _ => by rw [e2, up_same, up_ne _ _ (by omega), hM 77 (by decide)])⟩
  · refine ((c_town s n h1 h2 S M (M 78) hC hw hF.2.2.1 h6).2 ok).imp (fun r S1 M1 q => ?_)
    obtain ⟨rfl, rfl, rfl⟩ := q
    refine ⟨_, rfl, ((m_town s n h1 h2 S1 M1 hw hF.2.2.1 h6).2 ok).imp (fun r2 S2 M2 q => ?_)⟩
    obtain ⟨rfl, rfl, rfl⟩ := q
    exact ⟨rfl, h.id⟩
theorem plA_o {B : Int} {σ τ : Nat → Int} (h : FA B σ) {x : Nat} (ho : plOk σ τ x) {j : Nat} (h1 : j ≠ 1) (h6' : j ≠ 6) (hj : j < 70) : plA σ τ x j = σ j := by
  have h6 := h.2.2.2.2.2.2.1
  have h2 := h.2.1.1
  unfold plOk at ho
  unfold plA
  by_cases h3 : τ x = 3
  · rw [if_pos h3]; exact keepA_ag h6 _ h1 h6' (by omega)
  · rw [if_neg h3] at ho ⊢
    by_cases h4 : τ x = 4
    · rw [if_pos h4]; exact keepA_ag h6 _ h1 h6' (by omega)
    · rw [if_neg h4] at ho ⊢
      by_cases h5 : τ x = 5
      · rw [if_pos h5] at ho ⊢
        rw [lendsA_o _ _ _ _ (fun k _ => by omega) (fun k _ => by omega) (by have := ho.1; omega) (by have := ho.2.1; omega), keepA_h _ h6 j h6' (by omega)]
      · rw [if_neg h5]
theorem plT_o {B : Int} {σ τ : Nat → Int} (h : FA B σ) (t : Nat) {j : Nat} (h1 : j ≠ 1) (h6' : j ≠ 6) (hj : j < 70) : ∀ k : Nat, (plT σ τ t k).1 j = σ j := by
  intro k
  induction k with
  | zero => rfl
  | succ k ih =>
    unfold plT
    split
    · exact ih
    split
    · rename_i q
      exact (plA_o (h.pls t k) (pB_iff.mp q) h1 h6' hj).trans ih
    · exact ih
theorem st_played {i : Nat} {S : ST} {M : MT} (h : LI i S M) (hi : i ≤ 512) (t : Int) (h1 : InR t) : Ct E1 yX11_played cX11_played 4 (some .int) rm_X11_played [.ref 16, .int (z t)] S M (fun r S1 M1 => ∃ x : Int, r = some (.int (z x)) ∧ Ct E1 yX12_played cX12_played 3 (some .int) rm_X12_played [.ref 77, .int (z t)] S1 M1 (fun r2 S2 M2 => r2 = some (.int (z x)) ∧ LI (i + 1) S2 M2)) := by
  obtain ⟨h91, hC, hK, hF, hFk, h44, hT, hTk, hI, hIk, hTB, hFT, hP, hV, hN, h34⟩ := id h
  obtain ⟨b, hR, hb⟩ := h.rb
  have hB := Bi_le hi
  have hPI : PI 990000 (M 78) (M 80) := hF.pi h.lw (by omega)
  have hTT : ∀ i : Nat, (i : Int) < M 78 4 → WT (M 80) i ∧ ∃ b : Nat, M 35 i = (b : Int) ∧ TXS S M (M 80) i b := fun k hk => by
    obtain ⟨u1, b, u2, u3, -⟩ := hT k hk
    exact ⟨u1, b, u2, u3⟩
  have h4 := hF.2.2.2.2.2.1
  by_cases ok : 0 ≤ t ∧ t < M 78 4
  · refine ((c_played t h1 S M (M 78) (M 80) b (h.as hR hb) hPI hTT).1 ok).imp (fun r S1 M1 q => ?_)
    obtain ⟨rfl, rfl, hM, g1, g2⟩ := q
    have e78 : M1 78 = M 78 := hM 78 (by decide)
    have e80 : M1 80 = M 80 := hM 80 (by decide)
    refine ⟨_, rfl, ((m_played t h1 S1 M1 (by rw [e78, e80]; exact hPI) (by rw [e78]; exact h4) (by rw [e78, e80]; exact fun k hk => (hTT k hk).1) (NBm hN (hM 83 (by decide)))).1 (by rw [e78]; exact ok)).imp (fun r2 S2 M2 q => ?_)⟩
    obtain ⟨rfl, rfl, hM2, g3, g4⟩ := q
    rw [e78, e80] at g4 ⊢
    have hn := (hTT t.toNat (by omega)).1.1
    have ho : ∀ j, j ≠ 1 → j ≠ 6 → j < 70 → (plT (M 78) (M 80) t.toNat (M 80 (680 * t.toNat)).toNat).1 j = M 78 j := fun j a b c => plT_o hF _ a b c _
    refine ⟨rfl, h.u g4 (g2.mem (fun a _ _ _ => hM2 a (by simp; omega))) ((hF.pls t.toNat _).mono (by rw [← Bi_s]; omega)) (ho 4 (by omega) (by omega) (by omega)) ((hP.cg (Ag.same (fun j hj => ho j (by omega) (by omega) (by omega))) h.lw).mem (fun j _ => by rw [hM2 67 (by decide), hM 67 (by decide)]) (by rw [hM2 68 (by decide), hM 68 (by decide)]) (by rw [hM2 70 (by decide), hM 70 (by decide)]) (by rw [hM2 72 (by decide), hM 72 (by decide)])) (VBm g1 (hM2 65 (by decide))) g3 (fun a ha => by rw [hM2 a (by simp; omega), hM a (by simp; omega)]) (fun j _ _ => by rw [hM2 77 (by decide), hM 77 (by decide)])⟩
  · refine ((c_played t h1 S M (M 78) (M 80) b (h.as hR hb) hPI hTT).2 ok).imp (fun r S1 M1 q => ?_)
    obtain ⟨rfl, rfl, rfl⟩ := q
    refine ⟨_, rfl, ((m_played t h1 S1 M1 hPI h4 (fun k hk => (hTT k hk).1) hN).2 ok).imp (fun r2 S2 M2 q => ?_)⟩
    obtain ⟨rfl, rfl, hM2, g3, g4⟩ := q
    refine ⟨rfl, h.q (hP.mem (fun j _ => by rw [hM2 67 (by decide)]) (by rw [hM2 68 (by decide)]) (by rw [hM2 70 (by decide)]) (by rw [hM2 72 (by decide)])) (VBm hV (hM2 65 (by decide))) g3 (fun a ha => ?_) (fun j _ _ => by rw [hM2 77 (by decide)])⟩
    by_cases qa : a = 78
    · rw [qa, g4]
    · rw [hM2 a (by simp; omega)]
