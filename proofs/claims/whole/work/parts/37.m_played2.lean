noncomputable def pB (p : Prop) : Bool := @decide p (Classical.propDecidable p)
theorem pB_iff {p : Prop} : pB p = true ↔ p := ⟨fun h => @of_decide_eq_true p (Classical.propDecidable p) h, fun h => @decide_eq_true p (Classical.propDecidable p) h⟩
noncomputable def plT (σ τ : Nat → Int) (t : Nat) : Nat → (Nat → Int) × Int
  | 0 => (σ, -1)
  | k + 1 => if 0 ≤ (plT σ τ t k).2 then plT σ τ t k else if pB (plOk (plT σ τ t k).1 τ (680 * t + 1 + 3 * k)) = true then (plA (plT σ τ t k).1 τ (680 * t + 1 + 3 * k), -1) else ((plT σ τ t k).1, (k : Int))
theorem plT_stop (σ τ : Nat → Int) (t : Nat) {k : Nat} (h : 0 ≤ (plT σ τ t k).2) : ∀ d, plT σ τ t (k + d) = plT σ τ t k := by
  intro d
  induction d with
  | zero => rfl
  | succ d ih => show (if 0 ≤ (plT σ τ t (k + d)).2 then plT σ τ t (k + d) else _) = _; rw [ih, if_pos h]
theorem WT.r {τ : Nat → Int} {t : Nat} (h : WT τ t) {k : Nat} (hk : (k : Int) < τ (680 * t)) : InR (τ (680 * t + 1 + 3 * k)) ∧ InR (τ (680 * t + 1 + 3 * k + 1)) := by
  obtain ⟨h1, h2, h3, h4⟩ := h.2 k hk
  rw [show 680 * t + 1 + 3 * k + 1 = 680 * t + 2 + 3 * k by omega]
  refine ⟨⟨by omega, by omega⟩, ?_⟩
  rcases (show τ (680 * t + 1 + 3 * k) ≤ 2 ∨ 3 ≤ τ (680 * t + 1 + 3 * k) by omega) with q | q
  · have := (h2 q).1; exact ⟨by omega, by omega⟩
  · have := h3 q; exact ⟨by omega, by omega⟩

theorem m_played (t : Int) (h1 : InR t) (S : ST) (M : MT) (hP : PI 990000 (M 78) (M 80)) (h4 : 0 ≤ M 78 4 ∧ M 78 4 ≤ 4) (hT : ∀ t : Nat, (t : Int) < M 78 4 → WT (M 80) t) (hnb : NB M) : (0 ≤ t ∧ t < M 78 4 → Ct E1 yX12_played cX12_played 3 (some .int) rm_X12_played [.ref 77, .int (z t)] S M (Qi (plT (M 78) (M 80) t.toNat (M 80 (680 * t.toNat)).toNat).2 (78 :: scr) S M (fun M1 => NB M1 ∧ M1 78 = (plT (M 78) (M 80) t.toNat (M 80 (680 * t.toNat)).toNat).1))) ∧ (¬ (0 ≤ t ∧ t < M 78 4) → Ct E1 yX12_played cX12_played 3 (some .int) rm_X12_played [.ref 77, .int (z t)] S M (Qi (-2) (78 :: scr) S M (fun M1 => NB M1 ∧ M1 78 = M 78))) := by
  constructor
  · intro g
    obtain ⟨T, rfl⟩ : ∃ T : Nat, t = T := ⟨t.toNat, by omega⟩
    rw [Int.toNat_natCast]
    have hwt := hT T g.2
    obtain ⟨N, hN⟩ : ∃ N : Nat, M 80 (680 * T) = N := ⟨(M 80 (680 * T)).toNat, by have := hwt.1; omega⟩
    have hN24 := hwt.1
    rw [hN, Int.toNat_natCast]
    refine Ct.mk [.ref 77, .int (z (T : Int)), mkV] (by decide) rfl (Nat.le_of_ble_eq_true rfl) (fun X K => ?_)
    refine wp_iload_n (n := 1) K dX12_played_0 rfl rfl ?_
    refine wp_iconst (n := 2) K dX12_played_1 rfl ?_
    refine wp_aload_n (n := 3) K dX12_played_2 rfl rfl ?_
    refine wp_getF (n := 6) K dX12_played_3 rfl fl_X12_7 rfl (liS rfl) rfl rfl ?_
    refine wp_iconst (n := 7) K dX12_played_6 rfl ?_
    refine wp_iald (n := 8) K dX12_played_7 rfl rfl (liS rfl) ⟨by omega, by omega, by omega⟩ ?_
    try simp only [up_same, up_up, up_ne, ne_eq, Nat.reduceEqDiff, not_false_eq_true, Int.reduceToNat, Int.toNat_natCast]
    refine wp_iconst (n := 9) K dX12_played_8 rfl ?_
    refine wp_isub (n := 10) K dX12_played_9 rfl ?_
    refine wp_invS_i (n := 13) K dX12_played_10 rfl cf_X12_62 (m_isIn _ _ _ (by unfold InR; omega) (by unfold InR; omega) (by unfold InR; omega) _ _) rfl rfl (by decide) ⟨Nat.le_refl _, Nat.le_refl _⟩ (Nat.le_of_ble_eq_true rfl) ?_
    refine wp_if_ne_b (n := 16) K dX12_played_13 rfl (tgt := 19) (by decide) (fun c13 => ?_) (fun c13 => ?_)
    rotate_left
    · have := of_decide_eq_false c13; omega
    refine wp_iconst (n := 20) K dX12_played_19 rfl ?_
    refine wp_istore_n (n := 21) K dX12_played_20 rfl (by decide) ?_
    have key := dn N (Q := fun k => ∀ M1 : MT, (plT (M 78) (M 80) T k).2 = -1 → PI (990000 + k) (plT (M 78) (M 80) T k).1 (M 80) → (∀ a, a ∉ (78 :: scr) → M1 a = M a) → NB M1 → M1 78 = (plT (M 78) (M 80) T k).1 → Wp E1 X 21 [.ref 77, .int (z (T : Int)), .int (z (k : Int))] [] S M1) (fun k hk ih M1 hgo hPI hM hN1 hA => ?_) 0 (by omega)
    · exact key M rfl (hP.mono (by omega)) (fun _ _ => rfl) hnb rfl
    have e80 : M1 80 = M 80 := hM _ (by decide)
    refine wp_iload_n (n := 22) K dX12_played_21 rfl rfl ?_
    refine wp_aload_n (n := 23) K dX12_played_22 rfl rfl ?_
    refine wp_getF (n := 26) K dX12_played_23 rfl fl_X12_16 rfl (liS rfl) rfl rfl ?_
    refine wp_sipush (n := 29) K dX12_played_26 rfl rfl ?_
    refine wp_iload_n (n := 30) K dX12_played_29 rfl rfl ?_
    refine wp_imul (n := 31) K dX12_played_30 rfl ?_
    refine wp_iald (n := 32) K dX12_played_31 rfl rfl (liS rfl) ⟨by omega, by omega, by omega⟩ ?_
    try simp only [up_same, up_up, up_ne, ne_eq, Nat.reduceEqDiff, not_false_eq_true, Int.reduceToNat, Int.toNat_natCast]
    rw [e80, show (680 * (T : Int)).toNat = 680 * T by omega, hN]
    refine wp_icmp_ge (n := 35) K dX12_played_32 rfl (tgt := 61) (by decide) ⟨by omega, by omega⟩ ⟨by omega, by omega⟩ (fun c32 => ?_) (fun c32 => ?_)
    · refine wp_iconst (n := 62) K dX12_played_61 rfl ?_
      refine ret_qi K dX12_played_62 ?_ rfl ?_ ?_ ⟨Nat.le_refl _, Nat.le_refl _⟩
      · rw [show N = k by omega, hgo]
      · exact hM
      · exact ⟨hN1, by rw [hA, show k = N by omega]⟩
    · have ih := ih (by omega)
      have hr1 := hwt.r (k := k) (by omega)
      have hr2 : M 80 (680 * T + 1 + 3 * k) = 5 → InR (M 80 (680 * T + 1 + 3 * k + 2)) := fun q => by
        have u := (hwt.2 k (by omega)).2.2.2 q
        rw [show 680 * T + 3 + 3 * k = 680 * T + 1 + 3 * k + 2 by omega] at u
        exact ⟨by omega, by omega⟩
      have hstep : plT (M 78) (M 80) T (k + 1) = if pB (plOk (plT (M 78) (M 80) T k).1 (M 80) (680 * T + 1 + 3 * k)) = true then (plA (plT (M 78) (M 80) T k).1 (M 80) (680 * T + 1 + 3 * k), -1) else ((plT (M 78) (M 80) T k).1, (k : Int)) := by
        show (if 0 ≤ (plT (M 78) (M 80) T k).2 then _ else _) = _
        rw [hgo, if_neg (by decide)]
      have hb : pB (plOk (M1 78) (M1 80) (680 * T + 1 + 3 * k)) = true ↔ plOk (M1 78) (M1 80) (680 * T + 1 + 3 * k) := pB_iff
      refine wp_aload_n (n := 36) K dX12_played_35 rfl rfl ?_
      refine wp_sipush (n := 39) K dX12_played_36 rfl rfl ?_
      refine wp_iload_n (n := 40) K dX12_played_39 rfl rfl ?_
      refine wp_imul (n := 41) K dX12_played_40 rfl ?_
      refine wp_iconst (n := 42) K dX12_played_41 rfl ?_
      refine wp_iadd (n := 43) K dX12_played_42 rfl ?_
      refine wp_iconst (n := 44) K dX12_played_43 rfl ?_
      refine wp_iload_n (n := 45) K dX12_played_44 rfl rfl ?_
      refine wp_imul (n := 46) K dX12_played_45 rfl ?_
      refine wp_iadd (n := 47) K dX12_played_46 rfl ?_
      rw [show 680 * (T : Int) + 1 + 3 * (k : Int) = ((680 * T + 1 + 3 * k : Nat) : Int) by omega]
      refine wp_invV_qi (n := 50) K dX12_played_47 rfl cf_X12_302 (m_isPlayed (680 * T + 1 + 3 * k) (by omega) _ _ (by rw [hA, e80]; exact hPI.mono (by omega)) hN1 (by rw [e80]; exact ⟨hr1.1, hr1.2, hr2⟩) _ hb) rfl rfl rfl (liS rfl) rfl (by decide) ⟨Nat.le_refl _, Nat.le_refl _⟩ (Nat.le_of_ble_eq_true rfl) (fun M2 hM2 gM2 => ?_)
      refine wp_if_ne_b (n := 53) K dX12_played_50 rfl (tgt := 55) (by decide) (fun c50 => ?_) (fun c50 => ?_)
      · rw [c50, if_pos rfl, hA, e80] at gM2
        rw [hA, e80] at c50
        rw [c50, if_pos rfl] at hstep
        rw [hstep] at ih
        refine wp_iinc (n := 58) K dX12_played_55 rfl rfl (by decide) ?_
        refine wp_goto K dX12_played_58 (tgt := 21) (by decide) ?_
        exact ih M2 rfl ((hPI.play (pB_iff.mp c50)).mono (by omega)) (fun a ha => (hM2 a ha).trans (hM a ha)) gM2.1 gM2.2
      · rw [c50, if_neg (by decide), hA] at gM2
        rw [hA, e80] at c50
        rw [c50, if_neg (by decide)] at hstep
        have hst := plT_stop (M 78) (M 80) T (k := k + 1) (by rw [hstep]; dsimp only; omega) (N - (k + 1))
        rw [show k + 1 + (N - (k + 1)) = N by omega, hstep] at hst
        refine wp_iload_n (n := 54) K dX12_played_53 rfl rfl ?_
        refine ret_qi K dX12_played_54 ?_ rfl ?_ ?_ ⟨Nat.le_refl _, Nat.le_refl _⟩
        · rw [hst]
        · exact fun a ha => (hM2 a ha).trans (hM a ha)
        · exact ⟨gM2.1, by rw [hst]; exact gM2.2⟩
  · intro hno
    refine Ct.mk [.ref 77, .int (z t), mkV] (by decide) rfl (Nat.le_of_ble_eq_true rfl) (fun X K => ?_)
    refine wp_iload_n (n := 1) K dX12_played_0 rfl rfl ?_
    refine wp_iconst (n := 2) K dX12_played_1 rfl ?_
    refine wp_aload_n (n := 3) K dX12_played_2 rfl rfl ?_
    refine wp_getF (n := 6) K dX12_played_3 rfl fl_X12_7 rfl (liS rfl) rfl rfl ?_
    refine wp_iconst (n := 7) K dX12_played_6 rfl ?_
    refine wp_iald (n := 8) K dX12_played_7 rfl rfl (liS rfl) ⟨by omega, by omega, by omega⟩ ?_
    try simp only [up_same, up_up, up_ne, ne_eq, Nat.reduceEqDiff, not_false_eq_true, Int.reduceToNat, Int.toNat_natCast]
    refine wp_iconst (n := 9) K dX12_played_8 rfl ?_
    refine wp_isub (n := 10) K dX12_played_9 rfl ?_
    refine wp_invS_i (n := 13) K dX12_played_10 rfl cf_X12_62 (m_isIn _ _ _ (by unfold InR; omega) (by unfold InR; omega) (by unfold InR; omega) _ _) rfl rfl (by decide) ⟨Nat.le_refl _, Nat.le_refl _⟩ (Nat.le_of_ble_eq_true rfl) ?_
    refine wp_if_ne_b (n := 16) K dX12_played_13 rfl (tgt := 19) (by decide) (fun c13 => ?_) (fun c13 => ?_)
    · have := of_decide_eq_true c13; omega
    · refine wp_bipush (n := 18) K dX12_played_16 rfl rfl ?_
      refine ret_qi K dX12_played_18 ?_ rfl ?_ ?_ ⟨Nat.le_refl _, Nat.le_refl _⟩
      · rfl
      · exact fun _ _ => rfl
      · exact ⟨hnb, rfl⟩
