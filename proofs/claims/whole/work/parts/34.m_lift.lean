/-! what the law says: lift, may, fits -/
/-- the row of names holds small numbers -/
def NB (M : MT) : Prop := ∀ j : Nat, j < 8 → -1000000 ≤ M 83 j ∧ M 83 j ≤ 1000000
abbrev scr : List Nat := [83, 84, 85]
def cFr (τ : Nat → Int) (t : Nat) (k : Int) : Nat := (τ (680 * t + 2 + 3 * k.toNat)).toNat
def cTo (τ : Nat → Int) (t : Nat) (k : Int) : Nat := (τ (680 * t + 3 + 3 * k.toNat)).toNat
/-- the code of clause k of the ruling text, run over names nm -/
def evC (σ τ nm : Nat → Int) (k : Int) : EvS := evRun nm (codeF τ (680 * (σ 5).toNat) (cFr τ (σ 5).toNat k)) (cTo τ (σ 5).toNat k - cFr τ (σ 5).toNat k)
def mayF (σ τ : Nat → Int) (s set : Nat) : Bool := !set.testBit s && (borneB σ s set && (decide (clauseF σ τ 1 < 0) || decide ((evC σ τ (nameU (fun _ => 0) σ s set) (clauseF σ τ 1)).2.2.1 0 = 1)))
def liftF (σ τ : Nat → Int) (s set : Nat) : Int := if clauseF σ τ 0 < 0 then σ (10 + 5 * s) * σ (11 + 5 * s) else max 0 (min 9999 ((evC σ τ (nameU (fun _ => 0) σ s set) (clauseF σ τ 0)).1 0))
def fitF (σ τ : Nat → Int) (s q : Nat) : Bool := decide (clauseF σ τ 2 < 0) || decide ((evC σ τ (up (nameA (fun _ => 0) σ s 3) 7 (q : Int)) (clauseF σ τ 2)).2.2.1 0 = 1)
def quT (σ τ : Nat → Int) (s : Nat) : Nat → Nat
  | 0 => 0
  | q + 1 => quT σ τ s q ||| (if fitF σ τ s q = true then 2 ^ q else 0)
/-- a law's clause: what is known of it -/
theorem LW.cl {σ τ : Nat → Int} (hL : LW σ τ) {sort : Int} (hs : 0 ≤ sort ∧ sort ≤ 2) (hk : 0 ≤ clauseF σ τ sort) : ∃ (t k fr to : Nat), σ 5 = t ∧ t < 4 ∧ clauseF σ τ sort = k ∧ k < 24 ∧ τ (680 * t + 2 + 3 * k) = fr ∧ τ (680 * t + 3 + 3 * k) = to ∧ fr ≤ to ∧ to ≤ 302 ∧ okCode (codeF τ (680 * t) fr) (to - fr) ∧ dpRun (codeF τ (680 * t) fr) (to - fr) = (if sort = 0 then (1, 0) else (0, 1)) ∧ okNm (codeF τ (680 * t) fr) (to - fr) (decide (sort = 2)) ∧ ∀ nm, evC σ τ nm (clauseF σ τ sort) = evRun nm (codeF τ (680 * t) fr) (to - fr) := by
  obtain ⟨-, -, h5, hwt⟩ := hL
  unfold clauseF at hk
  by_cases hneg : σ 5 < 0
  · rw [if_pos hneg] at hk; omega
  · rw [if_neg hneg] at hk
    have hwt := hwt (by omega)
    obtain ⟨t, ht⟩ : ∃ t : Nat, σ 5 = t := ⟨(σ 5).toNat, by omega⟩
    rw [ht, Int.toNat_natCast] at hk hwt
    have hcf : clauseF σ τ sort = clT τ (680 * t) sort (τ (680 * t)).toNat := by unfold clauseF; rw [if_neg hneg, ht, Int.toNat_natCast]
    rcases clT_r τ (680 * t) sort (τ (680 * t)).toNat with q | ⟨q1, q2, q3⟩
    · omega
    · obtain ⟨k, hkk⟩ : ∃ k : Nat, clT τ (680 * t) sort (τ (680 * t)).toNat = k := ⟨(clT τ (680 * t) sort (τ (680 * t)).toNat).toNat, by omega⟩
      rw [hkk] at q1 q2 q3
      rw [Int.toNat_natCast] at q3
      have h24 := hwt.1
      obtain ⟨-, hcode, -⟩ := hwt.2 k (by omega)
      obtain ⟨b1, b2, b3, b4⟩ := hcode (by omega)
      obtain ⟨fr, hfr⟩ : ∃ n : Nat, τ (680 * t + 2 + 3 * k) = n := ⟨(τ (680 * t + 2 + 3 * k)).toNat, by omega⟩
      obtain ⟨to, hto⟩ : ∃ n : Nat, τ (680 * t + 3 + 3 * k) = n := ⟨(τ (680 * t + 3 + 3 * k)).toNat, by omega⟩
      rw [hfr, hto, Int.toNat_natCast, Int.toNat_natCast] at b2 b3 b4
      rw [q3] at b3 b4
      refine ⟨t, k, fr, to, ht, by omega, by rw [hcf, hkk], by omega, hfr, hto, by omega, by omega, b2, b3, b4, fun nm => ?_⟩
      unfold evC cFr cTo
      rw [hcf, hkk, ht, Int.toNat_natCast, Int.toNat_natCast, hfr, hto, Int.toNat_natCast, Int.toNat_natCast]
theorem nameU_r {σ τ : Nat → Int} (hL : LW σ τ) {s set : Nat} (hs : s < 12) (ν : Nat → Int) (hν : -1000000 ≤ ν 7 ∧ ν 7 ≤ 1000000) : ∀ j, j < 8 → -1000000 ≤ nameU ν σ s set j ∧ nameU ν σ s set j ≤ 1000000 := by
  obtain ⟨hw, h2, -⟩ := hL
  obtain ⟨w1, w2, w3, -⟩ := hw.2 s hs
  have hcl := cnt_le 12 set
  have ht := topT_r hw set (σ 0).toNat (by have := hw.1; omega)
  intro j hj
  unfold nameU nameA
  rcases (show j = 0 ∨ j = 1 ∨ j = 2 ∨ j = 3 ∨ j = 4 ∨ j = 5 ∨ j = 6 ∨ j = 7 by omega) with rfl | rfl | rfl | rfl | rfl | rfl | rfl | rfl
  · simp; omega
  · simp only [show (1 : Nat) < 4 by decide, if_true, show ¬ (1 : Nat) = 0 by decide, if_false, show (1 : Nat) < 1 + 3 by decide]; rw [show 9 + 5 * s + 1 = 10 + 5 * s by omega]; omega
  · simp only [show (2 : Nat) < 4 by decide, if_true, show ¬ (2 : Nat) = 0 by decide, if_false, show (2 : Nat) < 1 + 3 by decide]; rw [show 9 + 5 * s + 2 = 11 + 5 * s by omega]; omega
  · simp only [show (3 : Nat) < 4 by decide, if_true, show ¬ (3 : Nat) = 0 by decide, if_false, show (3 : Nat) < 1 + 3 by decide]; rw [show 9 + 5 * s + 3 = 12 + 5 * s by omega]; omega
  · simp only [show ¬ (4 : Nat) < 4 by decide, if_false, if_true]; omega
  · simp only [show ¬ (5 : Nat) < 4 by decide, show ¬ (5 : Nat) = 4 by decide, if_false, if_true]; omega
  · simp only [show ¬ (6 : Nat) < 4 by decide, show ¬ (6 : Nat) = 4 by decide, show ¬ (6 : Nat) = 5 by decide, if_false, if_true]; omega
  · simp only [show ¬ (7 : Nat) < 4 by decide, show ¬ (7 : Nat) = 4 by decide, show ¬ (7 : Nat) = 5 by decide, show ¬ (7 : Nat) = 6 by decide, if_false]; exact hν
theorem nameU_eq (ν ν' σ : Nat → Int) (s set j : Nat) (hj : j ≤ 6) : nameU ν σ s set j = nameU ν' σ s set j := by
  unfold nameU nameA
  split
  · split
    · rfl
    · rfl
  · split
    · rfl
    · split
      · rfl
      · rw [if_pos (by omega), if_pos (by omega)]


theorem m_may (s set : Nat) (hs : s < 12) (hset : set < 4096) (S : ST) (M : MT) (hL : LW (M 78) (M 80)) (hnb : NB M) : Ct E1 yX12_may cX12_may 4 (some .boolean) rm_X12_may [.ref 77, .int (z (s : Int)), .int (z (set : Int))] S M (Qi (bI (mayF (M 78) (M 80) s set)) scr S M NB) := by
  have hw := hL.1
  refine Ct.mk [.ref 77, .int (z (s : Int)), .int (z (set : Int)), mkV] (by decide) rfl (Nat.le_of_ble_eq_true rfl) (fun X K => ?_)
  unfold mayF at K
  refine wp_iload_n (n := 1) K dX12_may_0 rfl rfl ?_
  refine wp_iload_n (n := 2) K dX12_may_1 rfl rfl ?_
  refine wp_invS_i (n := 5) K dX12_may_2 rfl cf_X12_249 (m_has _ _ (by omega) (by omega) _ _) rfl rfl (by decide) ⟨Nat.le_refl _, Nat.le_refl _⟩ (Nat.le_of_ble_eq_true rfl) ?_
  refine wp_if_ne_b (n := 8) K dX12_may_5 rfl (tgt := 17) (by decide) (fun c5 => ?_) (fun c5 => ?_)
  · rw [c5] at K
    refine wp_iconst (n := 18) K dX12_may_17 rfl ?_
    refine ret_qz K dX12_may_18 ?_ rfl ?_ ?_ ⟨Nat.le_refl _, Nat.le_refl _⟩
    · rfl
    · exact fun _ _ => rfl
    · exact hnb
  rw [c5] at K
  refine wp_aload_n (n := 9) K dX12_may_8 rfl rfl ?_
  refine wp_iload_n (n := 10) K dX12_may_9 rfl rfl ?_
  refine wp_iload_n (n := 11) K dX12_may_10 rfl rfl ?_
  refine wp_invV_i (n := 14) K dX12_may_11 rfl cf_X12_253 (m_isBorne _ _ (by omega) (by omega) _ _ hw) rfl rfl rfl (liS rfl) rfl (by decide) ⟨Nat.le_refl _, Nat.le_refl _⟩ (Nat.le_of_ble_eq_true rfl) ?_
  refine wp_if_ne_b (n := 17) K dX12_may_14 rfl (tgt := 19) (by decide) (fun c14 => ?_) (fun c14 => ?_)
  rotate_left
  · rw [c14] at K
    refine wp_iconst (n := 18) K dX12_may_17 rfl ?_
    refine ret_qz K dX12_may_18 ?_ rfl ?_ ?_ ⟨Nat.le_refl _, Nat.le_refl _⟩
    · rfl
    · exact fun _ _ => rfl
    · exact hnb
  rw [c14] at K
  refine wp_aload_n (n := 20) K dX12_may_19 rfl rfl ?_
  refine wp_iconst (n := 21) K dX12_may_20 rfl ?_
  refine wp_invV_i (n := 24) K dX12_may_21 rfl cf_X12_259 (m_clauseOf _ (by decide) _ _ hL) rfl rfl rfl (liS rfl) rfl (by decide) ⟨Nat.le_refl _, Nat.le_refl _⟩ (Nat.le_of_ble_eq_true rfl) ?_
  refine wp_istore_n (n := 25) K dX12_may_24 rfl (by decide) ?_
  refine wp_iload_n (n := 26) K dX12_may_25 rfl rfl ?_
  by_cases hneg : clauseF (M 78) (M 80) 1 < 0
  · rw [decide_eq_true hneg] at K
    have hr : clauseF (M 78) (M 80) 1 = -1 := by
      unfold clauseF at hneg ⊢
      split
      · rfl
      · rename_i q; rw [if_neg q] at hneg; rcases clT_r (M 80) (680 * (M 78 5).toNat) 1 (M 80 (680 * (M 78 5).toNat)).toNat with r | r <;> omega
    rw [hr]
    refine wp_if_ge (n := 29) K dX12_may_26 rfl (tgt := 31) (by decide) ⟨by omega, by omega⟩ (fun c26 => ?_) (fun c26 => ?_)
    · omega
    · refine wp_iconst (n := 30) K dX12_may_29 rfl ?_
      refine ret_qz K dX12_may_30 ?_ rfl ?_ ?_ ⟨Nat.le_refl _, Nat.le_refl _⟩
      · rfl
      · exact fun _ _ => rfl
      · exact hnb
  · obtain ⟨t, k, fr, to, e5, ht, ek, hk, efr, eto, hft, hto, hok, hdp, hnm, hev⟩ := hL.cl (sort := 1) (by omega) (by omega)
    rw [decide_eq_false hneg, hev] at K
    rw [ek]
    refine wp_if_ge (n := 29) K dX12_may_26 rfl (tgt := 31) (by decide) ⟨by omega, by omega⟩ (fun c26 => ?_) (fun c26 => ?_)
    · have hnu := nameU_r hL (set := set) hs (M 83) (hnb 7 (by decide))
      refine wp_aload_n (n := 32) K dX12_may_31 rfl rfl ?_
      refine wp_iload_n (n := 33) K dX12_may_32 rfl rfl ?_
      refine wp_iload_n (n := 34) K dX12_may_33 rfl rfl ?_
      refine wp_invV_n (n := 37) K dX12_may_34 rfl cf_X12_262 (m_nameUpon _ _ (by omega) (by omega) _ _ hL) rfl rfl rfl (liS rfl) rfl (by decide) ⟨Nat.le_refl _, Nat.le_refl _⟩ (Nat.le_of_ble_eq_true rfl) ?_
      refine wp_aload_n (n := 38) K dX12_may_37 rfl rfl ?_
      refine wp_iload_n (n := 39) K dX12_may_38 rfl rfl ?_
      refine wp_invV_qn (n := 42) K dX12_may_39 rfl cf_X12_265 (m_work k t fr to _ _ ht hk e5 efr eto ⟨hft, hto⟩ hok hnu) rfl rfl rfl (liS rfl) rfl (by decide) ⟨Nat.le_refl _, Nat.le_refl _⟩ (Nat.le_of_ble_eq_true rfl) (fun M2 hM2 gM2 => ?_)
      have hcg := evRun_congr (nm := nameU (M 83) (M 78) s set) (nm' := nameU (fun _ => 0) (M 78) s set) (c := codeF (M 80) (680 * t) fr) (len := to - fr) (fun i hi h1 => nameU_eq _ _ _ _ _ _ (by have := hnm i hi h1; simp at this; have := (hok.2 i hi); unfold okOp at this; omega)) hok (to - fr) (Nat.le_refl _)
      have hd2 := evRun_dp (nameU (fun _ => 0) (M 78) s set) (codeF (M 80) (680 * t) fr) hok (to - fr) (Nat.le_refl _)
      rw [hdp, if_neg (by decide)] at hd2
      have hb := (evRun_ok (nameU_r hL (set := set) hs (fun _ => 0) (by decide)) hok (to - fr) (Nat.le_refl _)).2 0 (by have := congrArg Prod.snd hd2; dsimp only at this; omega)
      have g2 := gM2.2 0
      simp only [up_same, up_ne, ne_eq, Nat.reduceEqDiff, not_false_eq_true] at g2
      rw [hcg] at g2
      have g3 := g2 (by have := congrArg Prod.snd hd2; dsimp only at this; omega)
      generalize (evRun (nameU (fun _ => 0) (M 78) s set) (codeF (M 80) (680 * t) fr) (to - fr)).2.2.1 0 = T0 at *
      refine wp_aload_n (n := 43) K dX12_may_42 rfl rfl ?_
      refine wp_getF (n := 46) K dX12_may_43 rfl fl_X12_39 rfl (liS rfl) rfl rfl ?_
      refine wp_iconst (n := 47) K dX12_may_46 rfl ?_
      refine wp_zald (n := 48) K dX12_may_47 rfl rfl (liS rfl) ⟨by omega, by omega, by omega⟩ ?_
      try simp only [up_same, up_up, up_ne, ne_eq, Nat.reduceEqDiff, not_false_eq_true, Int.reduceToNat, Int.toNat_natCast]
      refine ret_qz K dX12_may_48 ?_ rfl ?_ ?_ ⟨Nat.le_refl _, Nat.le_refl _⟩
      · rw [g3]; rcases hb with h | h <;> rw [h] <;> rfl
      · intro a ha
        rw [hM2 a (fun q => ha (by simp at q ⊢; omega)), up_ne _ _ (fun e => ha (by rw [e]; decide))]
      · intro j hj; rw [hM2 _ (by decide), up_same]; exact hnu j hj
    · omega

theorem m_lift (s set : Nat) (hs : s < 12) (hset : set < 4096) (S : ST) (M : MT) (hL : LW (M 78) (M 80)) (hnb : NB M) : Ct E1 yX12_lift cX12_lift 4 (some .int) rm_X12_lift [.ref 77, .int (z (s : Int)), .int (z (set : Int))] S M (Qi (liftF (M 78) (M 80) s set) scr S M NB) := by
  have hw := hL.1
  refine Ct.mk [.ref 77, .int (z (s : Int)), .int (z (set : Int)), mkV] (by decide) rfl (Nat.le_of_ble_eq_true rfl) (fun X K => ?_)
  unfold liftF at K
  refine wp_aload_n (n := 1) K dX12_lift_0 rfl rfl ?_
  refine wp_iconst (n := 2) K dX12_lift_1 rfl ?_
  refine wp_invV_i (n := 5) K dX12_lift_2 rfl cf_X12_259 (m_clauseOf _ (by decide) _ _ hL) rfl rfl rfl (liS rfl) rfl (by decide) ⟨Nat.le_refl _, Nat.le_refl _⟩ (Nat.le_of_ble_eq_true rfl) ?_
  refine wp_istore_n (n := 6) K dX12_lift_5 rfl (by decide) ?_
  refine wp_iload_n (n := 7) K dX12_lift_6 rfl rfl ?_
  by_cases hneg : clauseF (M 78) (M 80) 0 < 0
  · rw [if_pos hneg] at K
    have hr : clauseF (M 78) (M 80) 0 = -1 := by
      unfold clauseF at hneg ⊢
      split
      · rfl
      · rename_i q; rw [if_neg q] at hneg; rcases clT_r (M 80) (680 * (M 78 5).toNat) 0 (M 80 (680 * (M 78 5).toNat)).toNat with r | r <;> omega
    rw [hr]
    refine wp_if_ge (n := 10) K dX12_lift_7 rfl (tgt := 32) (by decide) ⟨by omega, by omega⟩ (fun c7 => ?_) (fun c7 => ?_)
    · omega
    · refine wp_aload_n (n := 11) K dX12_lift_10 rfl rfl ?_
      refine wp_getF (n := 14) K dX12_lift_11 rfl fl_X12_7 rfl (liS rfl) rfl rfl ?_
      refine wp_iload_n (n := 15) K dX12_lift_14 rfl rfl ?_
      refine wp_invS_i (n := 18) K dX12_lift_15 rfl cf_X12_74 (m_stoneAt _ _ _) rfl rfl (by decide) ⟨Nat.le_refl _, Nat.le_refl _⟩ (Nat.le_of_ble_eq_true rfl) ?_
      refine wp_iald (n := 19) K dX12_lift_18 rfl rfl (liS rfl) ⟨by omega, by omega, by omega⟩ ?_
      try simp only [up_same, up_up, up_ne, ne_eq, Nat.reduceEqDiff, not_false_eq_true, Int.reduceToNat, Int.toNat_natCast]
      refine wp_aload_n (n := 20) K dX12_lift_19 rfl rfl ?_
      refine wp_getF (n := 23) K dX12_lift_20 rfl fl_X12_7 rfl (liS rfl) rfl rfl ?_
      refine wp_iload_n (n := 24) K dX12_lift_23 rfl rfl ?_
      refine wp_invS_i (n := 27) K dX12_lift_24 rfl cf_X12_74 (m_stoneAt _ _ _) rfl rfl (by decide) ⟨Nat.le_refl _, Nat.le_refl _⟩ (Nat.le_of_ble_eq_true rfl) ?_
      refine wp_iconst (n := 28) K dX12_lift_27 rfl ?_
      refine wp_iadd (n := 29) K dX12_lift_28 rfl ?_
      refine wp_iald (n := 30) K dX12_lift_29 rfl rfl (liS rfl) ⟨by omega, by omega, by omega⟩ ?_
      try simp only [up_same, up_up, up_ne, ne_eq, Nat.reduceEqDiff, not_false_eq_true, Int.reduceToNat, Int.toNat_natCast]
      refine wp_imul (n := 31) K dX12_lift_30 rfl ?_
      refine ret_qi K dX12_lift_31 ?_ rfl ?_ ?_ ⟨Nat.le_refl _, Nat.le_refl _⟩
      · rw [show (10 + 5 * (s : Int)).toNat = 10 + 5 * s by omega, show (10 + 5 * (s : Int) + 1).toNat = 11 + 5 * s by omega]
      · exact fun _ _ => rfl
      · exact hnb
  · obtain ⟨t, k, fr, to, e5, ht, ek, hk, efr, eto, hft, hto, hok, hdp, hnm, hev⟩ := hL.cl (sort := 0) (by omega) (by omega)
    rw [if_neg hneg, hev] at K
    rw [ek]
    refine wp_if_ge (n := 10) K dX12_lift_7 rfl (tgt := 32) (by decide) ⟨by omega, by omega⟩ (fun c7 => ?_) (fun c7 => ?_)
    · have hnu := nameU_r hL (set := set) hs (M 83) (hnb 7 (by decide))
      refine wp_aload_n (n := 33) K dX12_lift_32 rfl rfl ?_
      refine wp_iload_n (n := 34) K dX12_lift_33 rfl rfl ?_
      refine wp_iload_n (n := 35) K dX12_lift_34 rfl rfl ?_
      refine wp_invV_n (n := 38) K dX12_lift_35 rfl cf_X12_262 (m_nameUpon _ _ (by omega) (by omega) _ _ hL) rfl rfl rfl (liS rfl) rfl (by decide) ⟨Nat.le_refl _, Nat.le_refl _⟩ (Nat.le_of_ble_eq_true rfl) ?_
      refine wp_aload_n (n := 39) K dX12_lift_38 rfl rfl ?_
      refine wp_iload_n (n := 40) K dX12_lift_39 rfl rfl ?_
      refine wp_invV_qn (n := 43) K dX12_lift_40 rfl cf_X12_265 (m_work k t fr to _ _ ht hk e5 efr eto ⟨hft, hto⟩ hok hnu) rfl rfl rfl (liS rfl) rfl (by decide) ⟨Nat.le_refl _, Nat.le_refl _⟩ (Nat.le_of_ble_eq_true rfl) (fun M2 hM2 gM2 => ?_)
      have hcg := evRun_congr (nm := nameU (M 83) (M 78) s set) (nm' := nameU (fun _ => 0) (M 78) s set) (c := codeF (M 80) (680 * t) fr) (len := to - fr) (fun i hi h1 => nameU_eq _ _ _ _ _ _ (by have := hnm i hi h1; simp at this; have := (hok.2 i hi); unfold okOp at this; omega)) hok (to - fr) (Nat.le_refl _)
      have hd2 := evRun_dp (nameU (fun _ => 0) (M 78) s set) (codeF (M 80) (680 * t) fr) hok (to - fr) (Nat.le_refl _)
      rw [hdp, if_pos rfl] at hd2
      have hb := (evRun_ok (nameU_r hL (set := set) hs (fun _ => 0) (by decide)) hok (to - fr) (Nat.le_refl _)).1 0 (by have := congrArg Prod.fst hd2; dsimp only at this; omega)
      have g2 := gM2.1 0
      simp only [up_same, up_ne, ne_eq, Nat.reduceEqDiff, not_false_eq_true] at g2
      rw [hcg] at g2
      have g3 := g2 (by have := congrArg Prod.fst hd2; dsimp only at this; omega)
      generalize (evRun (nameU (fun _ => 0) (M 78) s set) (codeF (M 80) (680 * t) fr) (to - fr)).1 0 = T0 at *
      refine wp_aload_n (n := 44) K dX12_lift_43 rfl rfl ?_
      refine wp_getF (n := 47) K dX12_lift_44 rfl fl_X12_35 rfl (liS rfl) rfl rfl ?_
      refine wp_iconst (n := 48) K dX12_lift_47 rfl ?_
      refine wp_lald (n := 49) K dX12_lift_48 rfl rfl (liS rfl) ⟨by omega, by omega, by omega⟩ ?_
      try simp only [up_same, up_up, up_ne, ne_eq, Nat.reduceEqDiff, not_false_eq_true, Int.reduceToNat, Int.toNat_natCast]
      rw [g3]
      refine wp_iconst (n := 50) K dX12_lift_49 rfl ?_
      refine wp_sipush (n := 53) K dX12_lift_50 rfl rfl ?_
      refine wp_invS_i (n := 56) K dX12_lift_53 rfl cf_X12_268 (m_held _ _ _ (by omega) (by decide) (by decide) (by decide) _ _) rfl rfl (by decide) ⟨Nat.le_refl _, Nat.le_refl _⟩ (Nat.le_of_ble_eq_true rfl) ?_
      refine ret_qi K dX12_lift_56 ?_ rfl ?_ ?_ ⟨Nat.le_refl _, Nat.le_refl _⟩
      · rfl
      · intro a ha
        rw [hM2 a (fun q => ha (by simp at q ⊢; omega)), up_ne _ _ (fun e => ha (by rw [e]; decide))]
      · intro j hj; rw [hM2 _ (by decide), up_same]; exact hnu j hj
    · omega
