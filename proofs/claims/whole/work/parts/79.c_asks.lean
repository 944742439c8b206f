/-! the law is asked -/
def RQ (S : ST) (M : MT) (σ τ : Nat → Int) (b q : Nat) : Prop := (clauseF σ τ q < 0 ∧ M b q = 1) ∨ ∃ (a len : Nat) (c : Nat → Int × Int), 0 ≤ clauseF σ τ q ∧ M b q = (a : Int) ∧ 91 ≤ a ∧ shp E1 S a = (2, len) ∧ live E1 S a ∧ 0 < len ∧ okC2 c len ∧ (∀ i, i < len → M a i = encF (c i)) ∧ (∀ nm, evC σ τ nm (clauseF σ τ q) = evRun nm c len) ∧ dpRun c len = (if q = 0 then (1, 0) else (0, 1)) ∧ okNm c len (decide (q = 2))
def RB (S : ST) (M : MT) (σ τ : Nat → Int) (b : Nat) : Prop := shp E1 S b = (1, 10) ∧ live E1 S b ∧ (σ 5 < 0 ∧ b = 34 ∨ 0 ≤ σ 5 ∧ σ 5 < σ 4 ∧ σ 4 ≤ 4 ∧ M 35 (σ 5).toNat = (b : Int)) ∧ RQ S M σ τ b 0 ∧ RQ S M σ τ b 1 ∧ RQ S M σ τ b 2
theorem RQ.mem {S : ST} {M M' : MT} {σ τ : Nat → Int} {b q : Nat} (h : RQ S M σ τ b q) (e : ∀ a, a = b ∨ 91 ≤ a → M' a = M a) : RQ S M' σ τ b q := by
  rcases h with ⟨h1, h2⟩ | ⟨a, len, c, h1, h2, h3, h4, h5, h6, h7, h8, h9⟩
  · exact Or.inl ⟨h1, by rw [e _ (Or.inl rfl)]; exact h2⟩
  · exact Or.inr ⟨a, len, c, h1, by rw [e _ (Or.inl rfl)]; exact h2, h3, h4, h5, h6, h7, by rw [e a (Or.inr h3)]; exact h8, h9⟩
theorem RB.mem {S : ST} {M M' : MT} {σ τ : Nat → Int} {b : Nat} (h : RB S M σ τ b) (hb : b = 34 ∨ 91 ≤ b) (e : ∀ a, a = 34 ∨ a = 35 ∨ 91 ≤ a → M' a = M a) : RB S M' σ τ b := by
  have e' : ∀ a, a = b ∨ 91 ≤ a → M' a = M a := fun a ha => e a (by omega)
  exact ⟨h.1, h.2.1, by rw [e 35 (by omega)]; exact h.2.2.1, h.2.2.2.1.mem e', h.2.2.2.2.1.mem e', h.2.2.2.2.2.mem e'⟩
def nmL (σ : Nat → Int) (s laid : Nat) (top : Int) : Nat → Int := fun j => if j < 4 then nameA (fun _ => 0) σ s 3 j else if j = 4 then (laid : Int) else if j = 5 then top else if j = 6 then (((σ 2).toNat + laid) % 24 : Nat) else 0
def liftL (σ τ : Nat → Int) (s laid : Nat) (top : Int) : Int := if clauseF σ τ 0 < 0 then σ (10 + 5 * s) * σ (11 + 5 * s) else max 0 (min 9999 ((evC σ τ (nmL σ s laid top) (clauseF σ τ 0)).1 0))
def letL (σ τ : Nat → Int) (s laid : Nat) (top : Int) : Bool := decide (clauseF σ τ 1 < 0) || decide ((evC σ τ (nmL σ s laid top) (clauseF σ τ 1)).2.2.1 0 = 1)
theorem nmL_U (σ : Nat → Int) (s set : Nat) : nameU (fun _ => 0) σ s set = nmL σ s (cnt 12 set) (topT σ set (σ 0).toNat) := rfl
theorem liftF_L (σ τ : Nat → Int) (s set : Nat) : liftF σ τ s set = liftL σ τ s (cnt 12 set) (topT σ set (σ 0).toNat) := rfl
theorem mayF_L (σ τ : Nat → Int) (s set : Nat) : mayF σ τ s set = (!set.testBit s && (borneB σ s set && letL σ τ s (cnt 12 set) (topT σ set (σ 0).toNat))) := rfl
def VB (va : Nat) (M : MT) : Prop := ∀ j, j < 8 → -1000000 ≤ M va j ∧ M va j ≤ 1000000
theorem nameA_4 (σ : Nat → Int) (s : Nat) : nameA (fun _ => 0) σ s 3 0 = (s : Int) ∧ nameA (fun _ => 0) σ s 3 1 = σ (10 + 5 * s) ∧ nameA (fun _ => 0) σ s 3 2 = σ (11 + 5 * s) ∧ nameA (fun _ => 0) σ s 3 3 = σ (12 + 5 * s) := by
  refine ⟨rfl, ?_, ?_, ?_⟩ <;> simp [nameA] <;> congr 1 <;> omega

theorem c_rule (S : ST) (M : MT) (σ τ : Nat → Int) (b : Nat) (hF : FD 17 M σ) (h : RB S M σ τ b) (h5 : -1 ≤ σ 5 ∧ σ 5 < 4) (h4 : 0 ≤ σ 4 ∧ σ 4 ≤ 4) : Ct E1 yX6_rule cX6_rule 1 (some (.object "WalledIn$Text")) rm_X6_rule [.ref 17] S M (Pr b S M) := by
  have hb0 : b ≠ 0 := by have := h.2.1.1; omega
  refine Ct.mk [.ref 17] (by decide) rfl (Nat.le_of_ble_eq_true rfl) (fun X K => ?_)
  refine wp_aload_n (n := 1) K dX6_rule_0 rfl rfl ?_
  refine wp_aload_n (n := 2) K dX6_rule_1 rfl rfl ?_
  refine wp_getI (n := 5) K dX6_rule_2 rfl fl_X6_60 rfl (liS rfl) rfl ?_
  try simp only [up_same, up_up, Int.reduceToNat, Int.toNat_natCast]
  rw [hF.2.1]
  refine wp_invV_i (n := 8) K dX6_rule_5 rfl cf_X6_69 (c_hasText (σ 5) ⟨by omega, by omega⟩ _ _ (σ 4) h4 hF.1) rfl rfl rfl (liS rfl) rfl (by decide) ⟨Nat.le_refl _, Nat.le_refl _⟩ (Nat.le_of_ble_eq_true rfl) ?_
  refine wp_if_eq_b (n := 11) K dX6_rule_8 rfl (tgt := 23) (by decide) (fun c8 => ?_) (fun c8 => ?_)
  · have c := of_decide_eq_false c8
    rcases h.2.2.1 with ⟨q1, q2⟩ | ⟨q1, q2, q3, q4⟩
    · subst q2
      refine wp_aload_n (n := 24) K dX6_rule_23 rfl rfl ?_
      refine wp_getF (n := 27) K dX6_rule_24 rfl fl_X6_48 rfl (liS rfl) rfl rfl ?_
      exact ret_r K dX6_rule_27 rfl hb0 (Or.inl ⟨_, rfl⟩) rfl rfl ⟨Nat.le_refl _, Nat.le_refl _⟩
    · omega
  · have c := of_decide_eq_true c8
    rcases h.2.2.1 with ⟨q1, q2⟩ | ⟨q1, q2, q3, q4⟩
    · omega
    · refine wp_aload_n (n := 12) K dX6_rule_11 rfl rfl ?_
      refine wp_getF (n := 15) K dX6_rule_12 rfl fl_X6_52 rfl (liS rfl) rfl rfl ?_
      refine wp_aload_n (n := 16) K dX6_rule_15 rfl rfl ?_
      refine wp_getI (n := 19) K dX6_rule_16 rfl fl_X6_60 rfl (liS rfl) rfl ?_
      try simp only [up_same, up_up, Int.reduceToNat, Int.toNat_natCast]
      rw [hF.2.1]
      refine wp_aald (n := 20) K dX6_rule_19 rfl rfl (liS rfl) ⟨by omega, by omega, by omega⟩ q4 ?_
      refine wp_goto K dX6_rule_20 (tgt := 27) (by decide) ?_
      exact ret_r K dX6_rule_27 rfl hb0 (Or.inl ⟨_, rfl⟩) rfl rfl ⟨Nat.le_refl _, Nat.le_refl _⟩
theorem ev_top {nm : Nat → Int} {c : Nat → Int × Int} {len : Nat} (hok : okC2 c len) {q : Nat} (hd : dpRun c len = (if q = 0 then (1, 0) else (0, 1))) : evTop (evRun nm c len) = if q = 0 then (evRun nm c len).1 0 else (evRun nm c len).2.2.1 0 := by
  have h := evRun_dp nm c hok.ok len (Nat.le_refl _)
  rw [hd] at h
  generalize evRun nm c len = s at *
  obtain ⟨V, n, T, m⟩ := s
  dsimp only at h
  unfold evTop
  dsimp only
  split at h
  · rename_i h0
    have e1 : n = 1 := congrArg Prod.fst h
    rw [if_pos h0, if_pos (by omega), e1]
  · rename_i h0
    have e1 : n = 0 := congrArg Prod.fst h
    have e2 : m = 1 := congrArg Prod.snd h
    rw [if_neg h0, if_neg (by omega), if_pos (by omega), e2]
theorem c_setStone_a (s : Nat) (hs : s < 12) (S : ST) (M : MT) (σ : Nat → Int) (h : SN M σ) : Ct E1 yX2_setStone cX2_setStone 3 none rm_X2_setStone [.ref 64, .ref 18, .int (z (s : Int))] S M (Pn S (up M 65 (up (up (up (up (M 65) 0 (s : Int)) 1 (σ (10 + 5 * s))) 2 (σ (11 + 5 * s))) 3 (σ (12 + 5 * s))))) := by
  obtain ⟨g1, g2, g3, g4, g5⟩ := h.2 s hs
  refine Ct.mk [.ref 64, .ref 18, .int (z (s : Int))] (by decide) rfl (Nat.le_of_ble_eq_true rfl) (fun X K => ?_)
  refine wp_aload_n (n := 1) K dX2_setStone_0 rfl rfl ?_
  refine wp_getF (n := 4) K dX2_setStone_1 rfl fl_X2_9 rfl (liS rfl) rfl rfl ?_
  refine wp_iconst (n := 5) K dX2_setStone_4 rfl ?_
  refine wp_iload_n (n := 6) K dX2_setStone_5 rfl rfl ?_
  refine wp_iast (n := 7) K dX2_setStone_6 rfl rfl (liS rfl) (fun _ => rfl) ⟨by omega, by omega, by omega⟩ ?_
  try simp only [up_same, up_up, up_ne, ne_eq, Nat.reduceEqDiff, not_false_eq_true, Int.reduceToNat, Int.toNat_natCast]
  refine wp_aload_n (n := 8) K dX2_setStone_7 rfl rfl ?_
  refine wp_getF (n := 11) K dX2_setStone_8 rfl fl_X2_9 rfl (liS rfl) rfl rfl ?_
  refine wp_iconst (n := 12) K dX2_setStone_11 rfl ?_
  refine wp_aload_n (n := 13) K dX2_setStone_12 rfl rfl ?_
  refine wp_getF (n := 16) K dX2_setStone_13 rfl fl_X2_33 rfl (liS rfl) rfl rfl ?_
  refine wp_iload_n (n := 17) K dX2_setStone_16 rfl rfl ?_
  refine wp_iald (n := 18) K dX2_setStone_17 rfl rfl (liS rfl) ⟨by omega, by omega, by omega⟩ ?_
  try simp only [up_same, up_up, up_ne, ne_eq, Nat.reduceEqDiff, not_false_eq_true, Int.reduceToNat, Int.toNat_natCast]
  rw [g1]
  refine wp_iast (n := 19) K dX2_setStone_18 rfl rfl (liS rfl) (fun _ => rfl) ⟨by omega, by omega, by omega⟩ ?_
  try simp only [up_same, up_up, up_ne, ne_eq, Nat.reduceEqDiff, not_false_eq_true, Int.reduceToNat, Int.toNat_natCast]
  refine wp_aload_n (n := 20) K dX2_setStone_19 rfl rfl ?_
  refine wp_getF (n := 23) K dX2_setStone_20 rfl fl_X2_9 rfl (liS rfl) rfl rfl ?_
  refine wp_iconst (n := 24) K dX2_setStone_23 rfl ?_
  refine wp_aload_n (n := 25) K dX2_setStone_24 rfl rfl ?_
  refine wp_getF (n := 28) K dX2_setStone_25 rfl fl_X2_38 rfl (liS rfl) rfl rfl ?_
  refine wp_iload_n (n := 29) K dX2_setStone_28 rfl rfl ?_
  refine wp_iald (n := 30) K dX2_setStone_29 rfl rfl (liS rfl) ⟨by omega, by omega, by omega⟩ ?_
  try simp only [up_same, up_up, up_ne, ne_eq, Nat.reduceEqDiff, not_false_eq_true, Int.reduceToNat, Int.toNat_natCast]
  rw [g2]
  refine wp_iast (n := 31) K dX2_setStone_30 rfl rfl (liS rfl) (fun _ => rfl) ⟨by omega, by omega, by omega⟩ ?_
  try simp only [up_same, up_up, up_ne, ne_eq, Nat.reduceEqDiff, not_false_eq_true, Int.reduceToNat, Int.toNat_natCast]
  refine wp_aload_n (n := 32) K dX2_setStone_31 rfl rfl ?_
  refine wp_getF (n := 35) K dX2_setStone_32 rfl fl_X2_9 rfl (liS rfl) rfl rfl ?_
  refine wp_iconst (n := 36) K dX2_setStone_35 rfl ?_
  refine wp_aload_n (n := 37) K dX2_setStone_36 rfl rfl ?_
  refine wp_getF (n := 40) K dX2_setStone_37 rfl fl_X2_72 rfl (liS rfl) rfl rfl ?_
  refine wp_iload_n (n := 41) K dX2_setStone_40 rfl rfl ?_
  refine wp_iald (n := 42) K dX2_setStone_41 rfl rfl (liS rfl) ⟨by omega, by omega, by omega⟩ ?_
  try simp only [up_same, up_up, up_ne, ne_eq, Nat.reduceEqDiff, not_false_eq_true, Int.reduceToNat, Int.toNat_natCast]
  rw [g3]
  refine wp_iast (n := 43) K dX2_setStone_42 rfl rfl (liS rfl) (fun _ => rfl) ⟨by omega, by omega, by omega⟩ ?_
  try simp only [up_same, up_up, up_ne, ne_eq, Nat.reduceEqDiff, not_false_eq_true, Int.reduceToNat, Int.toNat_natCast]
  refine ret_n K dX2_setStone_43 rfl ?_ ⟨Nat.le_refl _, Nat.le_refl _⟩
  · rfl
theorem c_setPlace_a (hr ld : Nat) (top : Int) (h1 : hr < 24) (h2 : ld ≤ 12) (S : ST) (M : MT) : Ct E1 yX2_setPlace cX2_setPlace 4 none rm_X2_setPlace [.ref 64, .int (z (hr : Int)), .int (z (ld : Int)), .int (z top)] S M (Pn S (up M 65 (up (up (up (M 65) 4 (ld : Int)) 5 top) 6 (((hr + ld) % 24 : Nat) : Int)))) := by
  refine Ct.mk [.ref 64, .int (z (hr : Int)), .int (z (ld : Int)), .int (z top)] (by decide) rfl (Nat.le_of_ble_eq_true rfl) (fun X K => ?_)
  refine wp_aload_n (n := 1) K dX2_setPlace_0 rfl rfl ?_
  refine wp_getF (n := 4) K dX2_setPlace_1 rfl fl_X2_9 rfl (liS rfl) rfl rfl ?_
  refine wp_iconst (n := 5) K dX2_setPlace_4 rfl ?_
  refine wp_iload_n (n := 6) K dX2_setPlace_5 rfl rfl ?_
  refine wp_iast (n := 7) K dX2_setPlace_6 rfl rfl (liS rfl) (fun _ => rfl) ⟨by omega, by omega, by omega⟩ ?_
  try simp only [up_same, up_up, up_ne, ne_eq, Nat.reduceEqDiff, not_false_eq_true, Int.reduceToNat, Int.toNat_natCast]
  refine wp_aload_n (n := 8) K dX2_setPlace_7 rfl rfl ?_
  refine wp_getF (n := 11) K dX2_setPlace_8 rfl fl_X2_9 rfl (liS rfl) rfl rfl ?_
  refine wp_iconst (n := 12) K dX2_setPlace_11 rfl ?_
  refine wp_iload_n (n := 13) K dX2_setPlace_12 rfl rfl ?_
  refine wp_iast (n := 14) K dX2_setPlace_13 rfl rfl (liS rfl) (fun _ => rfl) ⟨by omega, by omega, by omega⟩ ?_
  try simp only [up_same, up_up, up_ne, ne_eq, Nat.reduceEqDiff, not_false_eq_true, Int.reduceToNat, Int.toNat_natCast]
  refine wp_aload_n (n := 15) K dX2_setPlace_14 rfl rfl ?_
  refine wp_getF (n := 18) K dX2_setPlace_15 rfl fl_X2_9 rfl (liS rfl) rfl rfl ?_
  refine wp_bipush (n := 20) K dX2_setPlace_18 rfl rfl ?_
  refine wp_iload_n (n := 21) K dX2_setPlace_20 rfl rfl ?_
  refine wp_iload_n (n := 22) K dX2_setPlace_21 rfl rfl ?_
  refine wp_iadd (n := 23) K dX2_setPlace_22 rfl ?_
  refine wp_bipush (n := 25) K dX2_setPlace_23 rfl rfl ?_
  refine wp_irem (n := 26) K dX2_setPlace_25 rfl (by decide) ?_
  rw [show brem ((hr : Int) + (ld : Int)) 24 = (((hr + ld) % 24 : Nat) : Int) by
    rw [show (hr : Int) + (ld : Int) = ((hr + ld : Nat) : Int) by omega]; exact brem_n (a := hr + ld) (d := 24) (by omega) (by omega) (by omega)]
  refine wp_iast (n := 27) K dX2_setPlace_26 rfl rfl (liS rfl) (fun _ => rfl) ⟨by omega, by omega, by omega⟩ ?_
  try simp only [up_same, up_up, up_ne, ne_eq, Nat.reduceEqDiff, not_false_eq_true, Int.reduceToNat, Int.toNat_natCast]
  refine ret_n K dX2_setPlace_27 rfl ?_ ⟨Nat.le_refl _, Nat.le_refl _⟩
  · rfl
theorem nms_a {M : MT} {σ : Nat → Int} (hV : VB 65 M) (hw : WS σ) (h2 : 0 ≤ σ 2 ∧ σ 2 < 24) (s ld : Nat) (top : Int) (hs : s < 12) (hl : ld ≤ 12) (ht : -1 ≤ top ∧ top ≤ 20) (N : Nat → Int) (hN : N = up (up (up (up (up (up (up (M 65) 0 (s : Int)) 1 (σ (10 + 5 * s))) 2 (σ (11 + 5 * s))) 3 (σ (12 + 5 * s))) 4 (ld : Int)) 5 top) 6 ((((σ 2).toNat + ld) % 24 : Nat) : Int)) : (∀ j, j < 8 → -1000000 ≤ N j ∧ N j ≤ 1000000) ∧ ∀ j, j ≤ 6 → N j = nmL σ s ld top j := by
  obtain ⟨w1, w2, w3, -⟩ := hw.2 s hs
  obtain ⟨a0, a1, a2, a3⟩ := nameA_4 σ s
  have h7 := hV 7 (by decide)
  subst hN
  constructor
  · intro j hj
    rcases (show j = 0 ∨ j = 1 ∨ j = 2 ∨ j = 3 ∨ j = 4 ∨ j = 5 ∨ j = 6 ∨ j = 7 by omega) with rfl | rfl | rfl | rfl | rfl | rfl | rfl | rfl <;> simp [up] <;> omega
  · intro j hj
    rcases (show j = 0 ∨ j = 1 ∨ j = 2 ∨ j = 3 ∨ j = 4 ∨ j = 5 ∨ j = 6 by omega) with rfl | rfl | rfl | rfl | rfl | rfl | rfl <;> simp [up, nmL, a0, a1, a2, a3]
theorem c_liftOf_a (s ld : Nat) (top : Int) (hs : s < 12) (hl : ld ≤ 12) (ht : -1 ≤ top ∧ top ≤ 20) (S : ST) (M : MT) (σ τ : Nat → Int) (b : Nat) (h : SN M σ) (hF : FD 17 M σ) (hR : RB S M σ τ b) (hb : b = 34 ∨ 91 ≤ b) (hw : WS σ) (h2 : 0 ≤ σ 2 ∧ σ 2 < 24) (h5 : -1 ≤ σ 5 ∧ σ 5 < 4) (h4 : 0 ≤ σ 4 ∧ σ 4 ≤ 4) (hV : VB 65 M) : Ct E1 yX2_liftOf cX2_liftOf 6 (some .int) rm_X2_liftOf [.ref 64, .ref 17, .int (z (s : Int)), .int (z (ld : Int)), .int (z top)] S M (Qi (liftL σ τ s ld top) [65, 66] S M (fun M1 => VB 65 M1)) := by
  obtain ⟨g1, g2, g3, g4, g5⟩ := h.2 s hs
  obtain ⟨w1, w2, w3, -⟩ := hw.2 s hs
  refine Ct.mk [.ref 64, .ref 17, .int (z (s : Int)), .int (z (ld : Int)), .int (z top), mkV] (by decide) rfl (Nat.le_of_ble_eq_true rfl) (fun X K => ?_)
  refine wp_aload_n (n := 1) K dX2_liftOf_0 rfl rfl ?_
  refine wp_invV_r (n := 4) K dX2_liftOf_1 rfl cf_X2_18 (c_rule _ _ σ τ b hF hR h5 h4) rfl rfl rfl (liS rfl) rfl (by decide) ⟨Nat.le_refl _, Nat.le_refl _⟩ (Nat.le_of_ble_eq_true rfl) ?_
  rcases hR.2.2.2.1 with ⟨q1, q2⟩ | ⟨a, len, c, q1, q2, q3, q4, q5, q6, q7, q8, q9, q10, q11⟩
  · change clauseF σ τ 0 < 0 at q1
    refine wp_getD (n := 7) (b := 1) K dX2_liftOf_4 rfl fl_X2_24 hR.1 hR.2.1 rfl q2 ?_
    refine wp_astore (n := 9) K dX2_liftOf_7 rfl (by decide) (by decide) ?_
    refine wp_aload (n := 11) K dX2_liftOf_9 rfl rfl ?_
    refine wp_alen1 (n := 12) K dX2_liftOf_11 rfl ?_
    refine wp_if_ne (n := 15) K dX2_liftOf_12 rfl (tgt := 35) (by decide) ⟨by omega, by omega⟩ (fun c12 => ?_) (fun c12 => ?_)
    · exact absurd rfl c12
    · refine wp_aload_n (n := 16) K dX2_liftOf_15 rfl rfl ?_
      refine wp_getF (n := 19) K dX2_liftOf_16 rfl fl_X2_29 rfl (liS rfl) rfl rfl ?_
      refine wp_getF (n := 22) K dX2_liftOf_19 rfl fl_X2_33 rfl (liS rfl) rfl rfl ?_
      refine wp_iload_n (n := 23) K dX2_liftOf_22 rfl rfl ?_
      refine wp_iald (n := 24) K dX2_liftOf_23 rfl rfl (liS rfl) ⟨by omega, by omega, by omega⟩ ?_
      try simp only [up_same, up_up, up_ne, ne_eq, Nat.reduceEqDiff, not_false_eq_true, Int.reduceToNat, Int.toNat_natCast]
      refine wp_aload_n (n := 25) K dX2_liftOf_24 rfl rfl ?_
      refine wp_getF (n := 28) K dX2_liftOf_25 rfl fl_X2_29 rfl (liS rfl) rfl rfl ?_
      refine wp_getF (n := 31) K dX2_liftOf_28 rfl fl_X2_38 rfl (liS rfl) rfl rfl ?_
      refine wp_iload_n (n := 32) K dX2_liftOf_31 rfl rfl ?_
      refine wp_iald (n := 33) K dX2_liftOf_32 rfl rfl (liS rfl) ⟨by omega, by omega, by omega⟩ ?_
      try simp only [up_same, up_up, up_ne, ne_eq, Nat.reduceEqDiff, not_false_eq_true, Int.reduceToNat, Int.toNat_natCast]
      refine wp_imul (n := 34) K dX2_liftOf_33 rfl ?_
      refine ret_qi K dX2_liftOf_34 ?_ rfl ?_ ?_ ⟨Nat.le_refl _, Nat.le_refl _⟩
      · rw [g1, g2]; unfold liftL; rw [if_pos q1]
      · intro a _; rfl
      · exact hV
  · change 0 ≤ clauseF σ τ 0 at q1
    change ∀ nm, evC σ τ nm (clauseF σ τ 0) = evRun nm c len at q9
    refine wp_getD (n := 7) (b := a) K dX2_liftOf_4 rfl fl_X2_24 hR.1 hR.2.1 rfl q2 ?_
    have ha0 : a ≠ 0 := by omega
    have hlen := q7.1
    refine wp_astore (n := 9) K dX2_liftOf_7 rfl (by omega) (by decide) ?_
    refine wp_aload (n := 11) K dX2_liftOf_9 rfl rfl ?_
    refine wp_alen (n := 12) K dX2_liftOf_11 rfl q4 (by decide) q5 ?_
    refine wp_if_ne (n := 15) K dX2_liftOf_12 rfl (tgt := 35) (by decide) ⟨by omega, by omega⟩ (fun c12 => ?_) (fun c12 => ?_)
    · refine wp_aload_n (n := 36) K dX2_liftOf_35 rfl rfl ?_
      refine wp_aload_n (n := 37) K dX2_liftOf_36 rfl rfl ?_
      refine wp_getF (n := 40) K dX2_liftOf_37 rfl fl_X2_29 rfl (liS rfl) rfl rfl ?_
      refine wp_iload_n (n := 41) K dX2_liftOf_40 rfl rfl ?_
      refine wp_invV_n (n := 44) K dX2_liftOf_41 rfl cf_X2_41 (c_setStone_a s hs _ _ σ h) rfl rfl rfl (liS rfl) rfl (by decide) ⟨Nat.le_refl _, Nat.le_refl _⟩ (Nat.le_of_ble_eq_true rfl) ?_
      refine wp_aload_n (n := 45) K dX2_liftOf_44 rfl rfl ?_
      refine wp_aload_n (n := 46) K dX2_liftOf_45 rfl rfl ?_
      refine wp_getI (n := 49) K dX2_liftOf_46 rfl fl_X2_45 rfl (liS rfl) rfl ?_
      try simp only [up_same, up_up, up_ne, ne_eq, Nat.reduceEqDiff, not_false_eq_true, Int.reduceToNat, Int.toNat_natCast]
      refine wp_iload_n (n := 50) K dX2_liftOf_49 rfl rfl ?_
      refine wp_iload (n := 52) K dX2_liftOf_50 rfl rfl ?_
      rw [show M 17 8 = ((σ 2).toNat : Int) by rw [hF.2.2.1]; omega]
      refine wp_invV_n (n := 55) K dX2_liftOf_52 rfl cf_X2_49 (c_setPlace_a (σ 2).toNat ld top (by omega) hl _ _) rfl rfl rfl (liS rfl) rfl (by decide) ⟨Nat.le_refl _, Nat.le_refl _⟩ (Nat.le_of_ble_eq_true rfl) ?_
      refine wp_iconst (n := 56) K dX2_liftOf_55 rfl ?_
      refine wp_sipush (n := 59) K dX2_liftOf_56 rfl rfl ?_
      refine wp_aload_n (n := 60) K dX2_liftOf_59 rfl rfl ?_
      refine wp_aload (n := 62) K dX2_liftOf_60 rfl rfl ?_
      simp only [up_same, up_up]
      obtain ⟨n1, n2⟩ := nms_a hV hw h2 s ld top hs hl ht _ rfl
      generalize hNm : up (up (up (up (up (up (up (M 65) 0 (s : Int)) 1 (σ (10 + 5 * s))) 2 (σ (11 + 5 * s))) 3 (σ (12 + 5 * s))) 4 (ld : Int)) 5 top) 6 ((((σ 2).toNat + ld) % 24 : Nat) : Int) = N at n1 n2 ⊢
      refine wp_invV_qi (n := 65) K dX2_liftOf_62 rfl cf_X2_53 (c_run_a _ _ a len q4 q5 (by simp; omega) N c q7 (fun i hi => by rw [up_ne _ _ (by omega)]; exact q8 i hi) (fun j _ => by rw [up_same]) n1) rfl rfl rfl (liS rfl) rfl (by decide) ⟨Nat.le_refl _, Nat.le_refl _⟩ (Nat.le_of_ble_eq_true rfl) (fun A1 hA1 gA1 => ?_)
      have het := ev_top (nm := N) q7 (q := 0) q10
      rw [if_pos rfl] at het
      have hcg := evRun_congr (nm := N) (nm' := nmL σ s ld top) (c := c) (len := len) (fun i hi h1 => by
        have := q11 i hi h1
        have ho := q7.2.1 i hi
        unfold okOp2 at ho
        exact n2 _ (by simp at this; omega)) q7.ok len (Nat.le_refl _)
      have hob := evRun_ok n1 q7.ok len (Nat.le_refl _)
      have hdp := evRun_dp N c q7.ok len (Nat.le_refl _)
      have hn1 : (evRun N c len).2.1 = 1 := by rw [q10] at hdp; exact congrArg Prod.fst hdp
      have hvr := hob.1 0 (by omega)
      rw [het]
      generalize hev : (evRun N c len).1 0 = v at hvr ⊢
      refine wp_invS_i (n := 68) K dX2_liftOf_65 rfl cf_X2_57 (j_min _ _ ⟨by omega, by omega⟩ ⟨by omega, by omega⟩ _ _) rfl rfl (by decide) ⟨Nat.le_refl _, Nat.le_refl _⟩ (Nat.le_of_ble_eq_true rfl) ?_
      refine wp_invS_i (n := 71) K dX2_liftOf_68 rfl cf_X2_63 (j_max _ _ ⟨by omega, by omega⟩ ⟨by omega, by omega⟩ _ _) rfl rfl (by decide) ⟨Nat.le_refl _, Nat.le_refl _⟩ (Nat.le_of_ble_eq_true rfl) ?_
      refine ret_qi K dX2_liftOf_71 ?_ rfl ?_ ?_ ⟨Nat.le_refl _, Nat.le_refl _⟩
      · unfold liftL; rw [if_neg (by omega), q9, ← hcg, hev]
      · intro x hx
        simp only [List.mem_cons, List.not_mem_nil, or_false, not_or] at hx
        rw [hA1 x (by simp [hx]), up_ne _ _ (by simp [hx])]
      · intro j hj; rw [hA1 _ (by decide), up_same]; exact n1 j hj
    · omega
theorem c_isLet_a (s ld : Nat) (top : Int) (hs : s < 12) (hl : ld ≤ 12) (ht : -1 ≤ top ∧ top ≤ 20) (S : ST) (M : MT) (σ τ : Nat → Int) (b : Nat) (h : SN M σ) (hF : FD 17 M σ) (hR : RB S M σ τ b) (hb : b = 34 ∨ 91 ≤ b) (hw : WS σ) (h2 : 0 ≤ σ 2 ∧ σ 2 < 24) (h5 : -1 ≤ σ 5 ∧ σ 5 < 4) (h4 : 0 ≤ σ 4 ∧ σ 4 ≤ 4) (hV : VB 65 M) : Ct E1 yX2_isLet cX2_isLet 6 (some .boolean) rm_X2_isLet [.ref 64, .ref 17, .int (z (s : Int)), .int (z (ld : Int)), .int (z top)] S M (Qi (bI (letL σ τ s ld top)) [65, 66] S M (fun M1 => VB 65 M1)) := by
  refine Ct.mk [.ref 64, .ref 17, .int (z (s : Int)), .int (z (ld : Int)), .int (z top), mkV] (by decide) rfl (Nat.le_of_ble_eq_true rfl) (fun X K => ?_)
  refine wp_aload_n (n := 1) K dX2_isLet_0 rfl rfl ?_
  refine wp_invV_r (n := 4) K dX2_isLet_1 rfl cf_X2_18 (c_rule _ _ σ τ b hF hR h5 h4) rfl rfl rfl (liS rfl) rfl (by decide) ⟨Nat.le_refl _, Nat.le_refl _⟩ (Nat.le_of_ble_eq_true rfl) ?_
  rcases hR.2.2.2.2.1 with ⟨q1, q2⟩ | ⟨a, len, c, q1, q2, q3, q4, q5, q6, q7, q8, q9, q10, q11⟩
  · change clauseF σ τ 1 < 0 at q1
    refine wp_getD (n := 7) (b := 1) K dX2_isLet_4 rfl fl_X2_66 hR.1 hR.2.1 rfl q2 ?_
    refine wp_astore (n := 9) K dX2_isLet_7 rfl (by decide) (by decide) ?_
    refine wp_aload (n := 11) K dX2_isLet_9 rfl rfl ?_
    refine wp_alen1 (n := 12) K dX2_isLet_11 rfl ?_
    refine wp_if_ne (n := 15) K dX2_isLet_12 rfl (tgt := 17) (by decide) ⟨by omega, by omega⟩ (fun c12 => ?_) (fun c12 => ?_)
    · exact absurd rfl c12
    · refine wp_iconst (n := 16) K dX2_isLet_15 rfl ?_
      refine ret_qz K dX2_isLet_16 ?_ rfl ?_ ?_ ⟨Nat.le_refl _, Nat.le_refl _⟩
      · unfold letL; rw [decide_eq_true q1]; rfl
      · intro a _; rfl
      · exact hV
  · change 0 ≤ clauseF σ τ 1 at q1
    change ∀ nm, evC σ τ nm (clauseF σ τ 1) = evRun nm c len at q9
    refine wp_getD (n := 7) (b := a) K dX2_isLet_4 rfl fl_X2_66 hR.1 hR.2.1 rfl q2 ?_
    have ha0 : a ≠ 0 := by omega
    have hlen := q7.1
    refine wp_astore (n := 9) K dX2_isLet_7 rfl (by omega) (by decide) ?_
    refine wp_aload (n := 11) K dX2_isLet_9 rfl rfl ?_
    refine wp_alen (n := 12) K dX2_isLet_11 rfl q4 (by decide) q5 ?_
    refine wp_if_ne (n := 15) K dX2_isLet_12 rfl (tgt := 17) (by decide) ⟨by omega, by omega⟩ (fun c12 => ?_) (fun c12 => ?_)
    · refine wp_aload_n (n := 18) K dX2_isLet_17 rfl rfl ?_
      refine wp_aload_n (n := 19) K dX2_isLet_18 rfl rfl ?_
      refine wp_getF (n := 22) K dX2_isLet_19 rfl fl_X2_29 rfl (liS rfl) rfl rfl ?_
      refine wp_iload_n (n := 23) K dX2_isLet_22 rfl rfl ?_
      refine wp_invV_n (n := 26) K dX2_isLet_23 rfl cf_X2_41 (c_setStone_a s hs _ _ σ h) rfl rfl rfl (liS rfl) rfl (by decide) ⟨Nat.le_refl _, Nat.le_refl _⟩ (Nat.le_of_ble_eq_true rfl) ?_
      refine wp_aload_n (n := 27) K dX2_isLet_26 rfl rfl ?_
      refine wp_aload_n (n := 28) K dX2_isLet_27 rfl rfl ?_
      refine wp_getI (n := 31) K dX2_isLet_28 rfl fl_X2_45 rfl (liS rfl) rfl ?_
      try simp only [up_same, up_up, up_ne, ne_eq, Nat.reduceEqDiff, not_false_eq_true, Int.reduceToNat, Int.toNat_natCast]
      refine wp_iload_n (n := 32) K dX2_isLet_31 rfl rfl ?_
      refine wp_iload (n := 34) K dX2_isLet_32 rfl rfl ?_
      rw [show M 17 8 = ((σ 2).toNat : Int) by rw [hF.2.2.1]; omega]
      refine wp_invV_n (n := 37) K dX2_isLet_34 rfl cf_X2_49 (c_setPlace_a (σ 2).toNat ld top (by omega) hl _ _) rfl rfl rfl (liS rfl) rfl (by decide) ⟨Nat.le_refl _, Nat.le_refl _⟩ (Nat.le_of_ble_eq_true rfl) ?_
      refine wp_aload_n (n := 38) K dX2_isLet_37 rfl rfl ?_
      refine wp_aload (n := 40) K dX2_isLet_38 rfl rfl ?_
      simp only [up_same, up_up]
      obtain ⟨n1, n2⟩ := nms_a hV hw h2 s ld top hs hl ht _ rfl
      generalize hNm : up (up (up (up (up (up (up (M 65) 0 (s : Int)) 1 (σ (10 + 5 * s))) 2 (σ (11 + 5 * s))) 3 (σ (12 + 5 * s))) 4 (ld : Int)) 5 top) 6 ((((σ 2).toNat + ld) % 24 : Nat) : Int) = N at n1 n2 ⊢
      refine wp_invV_qi (n := 43) K dX2_isLet_40 rfl cf_X2_53 (c_run_a _ _ a len q4 q5 (by simp; omega) N c q7 (fun i hi => by rw [up_ne _ _ (by omega)]; exact q8 i hi) (fun j _ => by rw [up_same]) n1) rfl rfl rfl (liS rfl) rfl (by decide) ⟨Nat.le_refl _, Nat.le_refl _⟩ (Nat.le_of_ble_eq_true rfl) (fun A1 hA1 gA1 => ?_)
      have het := ev_top (nm := N) q7 (q := 1) q10
      rw [if_neg (by decide)] at het
      have hcg := evRun_congr (nm := N) (nm' := nmL σ s ld top) (c := c) (len := len) (fun i hi h1 => by
        have := q11 i hi h1
        have ho := q7.2.1 i hi
        unfold okOp2 at ho
        exact n2 _ (by simp at this; omega)) q7.ok len (Nat.le_refl _)
      have hob := evRun_ok n1 q7.ok len (Nat.le_refl _)
      have hdp := evRun_dp N c q7.ok len (Nat.le_refl _)
      have hn1 : (evRun N c len).2.2.2 = 1 := by rw [q10] at hdp; exact congrArg Prod.snd hdp
      have hvr := hob.2 0 (by omega)
      rw [het]
      have hlet : letL σ τ s ld top = decide ((evRun N c len).2.2.1 0 = 1) := by unfold letL; rw [decide_eq_false (by omega), q9, ← hcg]; rfl
      rw [hlet] at K
      generalize hev : (evRun N c len).2.2.1 0 = v at hvr K ⊢
      have fin1 : ∀ x, x ∉ [65, 66] → A1 x = M x := fun x hx => by
        simp only [List.mem_cons, List.not_mem_nil, or_false, not_or] at hx
        rw [hA1 x (by simp [hx]), up_ne _ _ (by simp [hx])]
      have fin2 : VB 65 A1 := fun j hj => by rw [hA1 _ (by decide), up_same]; exact n1 j hj
      refine wp_if_eq (n := 46) K dX2_isLet_43 rfl (tgt := 50) (by decide) ⟨by omega, by omega⟩ (fun c43 => ?_) (fun c43 => ?_)
      · refine wp_iconst (n := 51) K dX2_isLet_50 rfl ?_
        refine ret_qz K dX2_isLet_51 ?_ rfl ?_ ?_ ⟨Nat.le_refl _, Nat.le_refl _⟩
        · exact bI_f (by omega)
        · exact fin1
        · exact fin2
      · refine wp_iconst (n := 47) K dX2_isLet_46 rfl ?_
        refine wp_goto K dX2_isLet_47 (tgt := 51) (by decide) ?_
        refine ret_qz K dX2_isLet_51 ?_ rfl ?_ ?_ ⟨Nat.le_refl _, Nat.le_refl _⟩
        · exact bI_t (by omega)
        · exact fin1
        · exact fin2
    · omega
theorem c_setStone_p (s : Nat) (hs : s < 12) (S : ST) (M : MT) (σ : Nat → Int) (h : SN M σ) : Ct E1 yX2_setStone cX2_setStone 3 none rm_X2_setStone [.ref 71, .ref 18, .int (z (s : Int))] S M (Pn S (up M 72 (up (up (up (up (M 72) 0 (s : Int)) 1 (σ (10 + 5 * s))) 2 (σ (11 + 5 * s))) 3 (σ (12 + 5 * s))))) := by
  obtain ⟨g1, g2, g3, g4, g5⟩ := h.2 s hs
  refine Ct.mk [.ref 71, .ref 18, .int (z (s : Int))] (by decide) rfl (Nat.le_of_ble_eq_true rfl) (fun X K => ?_)
  refine wp_aload_n (n := 1) K dX2_setStone_0 rfl rfl ?_
  refine wp_getF (n := 4) K dX2_setStone_1 rfl fl_X2_9 rfl (liS rfl) rfl rfl ?_
  refine wp_iconst (n := 5) K dX2_setStone_4 rfl ?_
  refine wp_iload_n (n := 6) K dX2_setStone_5 rfl rfl ?_
  refine wp_iast (n := 7) K dX2_setStone_6 rfl rfl (liS rfl) (fun _ => rfl) ⟨by omega, by omega, by omega⟩ ?_
  try simp only [up_same, up_up, up_ne, ne_eq, Nat.reduceEqDiff, not_false_eq_true, Int.reduceToNat, Int.toNat_natCast]
  refine wp_aload_n (n := 8) K dX2_setStone_7 rfl rfl ?_
  refine wp_getF (n := 11) K dX2_setStone_8 rfl fl_X2_9 rfl (liS rfl) rfl rfl ?_
  refine wp_iconst (n := 12) K dX2_setStone_11 rfl ?_
  refine wp_aload_n (n := 13) K dX2_setStone_12 rfl rfl ?_
  refine wp_getF (n := 16) K dX2_setStone_13 rfl fl_X2_33 rfl (liS rfl) rfl rfl ?_
  refine wp_iload_n (n := 17) K dX2_setStone_16 rfl rfl ?_
  refine wp_iald (n := 18) K dX2_setStone_17 rfl rfl (liS rfl) ⟨by omega, by omega, by omega⟩ ?_
  try simp only [up_same, up_up, up_ne, ne_eq, Nat.reduceEqDiff, not_false_eq_true, Int.reduceToNat, Int.toNat_natCast]
  rw [g1]
  refine wp_iast (n := 19) K dX2_setStone_18 rfl rfl (liS rfl) (fun _ => rfl) ⟨by omega, by omega, by omega⟩ ?_
  try simp only [up_same, up_up, up_ne, ne_eq, Nat.reduceEqDiff, not_false_eq_true, Int.reduceToNat, Int.toNat_natCast]
  refine wp_aload_n (n := 20) K dX2_setStone_19 rfl rfl ?_
  refine wp_getF (n := 23) K dX2_setStone_20 rfl fl_X2_9 rfl (liS rfl) rfl rfl ?_
  refine wp_iconst (n := 24) K dX2_setStone_23 rfl ?_
  refine wp_aload_n (n := 25) K dX2_setStone_24 rfl rfl ?_
  refine wp_getF (n := 28) K dX2_setStone_25 rfl fl_X2_38 rfl (liS rfl) rfl rfl ?_
  refine wp_iload_n (n := 29) K dX2_setStone_28 rfl rfl ?_
  refine wp_iald (n := 30) K dX2_setStone_29 rfl rfl (liS rfl) ⟨by omega, by omega, by omega⟩ ?_
  try simp only [up_same, up_up, up_ne, ne_eq, Nat.reduceEqDiff, not_false_eq_true, Int.reduceToNat, Int.toNat_natCast]
  rw [g2]
  refine wp_iast (n := 31) K dX2_setStone_30 rfl rfl (liS rfl) (fun _ => rfl) ⟨by omega, by omega, by omega⟩ ?_
  try simp only [up_same, up_up, up_ne, ne_eq, Nat.reduceEqDiff, not_false_eq_true, Int.reduceToNat, Int.toNat_natCast]
  refine wp_aload_n (n := 32) K dX2_setStone_31 rfl rfl ?_
  refine wp_getF (n := 35) K dX2_setStone_32 rfl fl_X2_9 rfl (liS rfl) rfl rfl ?_
  refine wp_iconst (n := 36) K dX2_setStone_35 rfl ?_
  refine wp_aload_n (n := 37) K dX2_setStone_36 rfl rfl ?_
  refine wp_getF (n := 40) K dX2_setStone_37 rfl fl_X2_72 rfl (liS rfl) rfl rfl ?_
  refine wp_iload_n (n := 41) K dX2_setStone_40 rfl rfl ?_
  refine wp_iald (n := 42) K dX2_setStone_41 rfl rfl (liS rfl) ⟨by omega, by omega, by omega⟩ ?_
  try simp only [up_same, up_up, up_ne, ne_eq, Nat.reduceEqDiff, not_false_eq_true, Int.reduceToNat, Int.toNat_natCast]
  rw [g3]
  refine wp_iast (n := 43) K dX2_setStone_42 rfl rfl (liS rfl) (fun _ => rfl) ⟨by omega, by omega, by omega⟩ ?_
  try simp only [up_same, up_up, up_ne, ne_eq, Nat.reduceEqDiff, not_false_eq_true, Int.reduceToNat, Int.toNat_natCast]
  refine ret_n K dX2_setStone_43 rfl ?_ ⟨Nat.le_refl _, Nat.le_refl _⟩
  · rfl
theorem c_setPlace_p (hr ld : Nat) (top : Int) (h1 : hr < 24) (h2 : ld ≤ 12) (S : ST) (M : MT) : Ct E1 yX2_setPlace cX2_setPlace 4 none rm_X2_setPlace [.ref 71, .int (z (hr : Int)), .int (z (ld : Int)), .int (z top)] S M (Pn S (up M 72 (up (up (up (M 72) 4 (ld : Int)) 5 top) 6 (((hr + ld) % 24 : Nat) : Int)))) := by
  refine Ct.mk [.ref 71, .int (z (hr : Int)), .int (z (ld : Int)), .int (z top)] (by decide) rfl (Nat.le_of_ble_eq_true rfl) (fun X K => ?_)
  refine wp_aload_n (n := 1) K dX2_setPlace_0 rfl rfl ?_
  refine wp_getF (n := 4) K dX2_setPlace_1 rfl fl_X2_9 rfl (liS rfl) rfl rfl ?_
  refine wp_iconst (n := 5) K dX2_setPlace_4 rfl ?_
  refine wp_iload_n (n := 6) K dX2_setPlace_5 rfl rfl ?_
  refine wp_iast (n := 7) K dX2_setPlace_6 rfl rfl (liS rfl) (fun _ => rfl) ⟨by omega, by omega, by omega⟩ ?_
  try simp only [up_same, up_up, up_ne, ne_eq, Nat.reduceEqDiff, not_false_eq_true, Int.reduceToNat, Int.toNat_natCast]
  refine wp_aload_n (n := 8) K dX2_setPlace_7 rfl rfl ?_
  refine wp_getF (n := 11) K dX2_setPlace_8 rfl fl_X2_9 rfl (liS rfl) rfl rfl ?_
  refine wp_iconst (n := 12) K dX2_setPlace_11 rfl ?_
  refine wp_iload_n (n := 13) K dX2_setPlace_12 rfl rfl ?_
  refine wp_iast (n := 14) K dX2_setPlace_13 rfl rfl (liS rfl) (fun _ => rfl) ⟨by omega, by omega, by omega⟩ ?_
  try simp only [up_same, up_up, up_ne, ne_eq, Nat.reduceEqDiff, not_false_eq_true, Int.reduceToNat, Int.toNat_natCast]
  refine wp_aload_n (n := 15) K dX2_setPlace_14 rfl rfl ?_
  refine wp_getF (n := 18) K dX2_setPlace_15 rfl fl_X2_9 rfl (liS rfl) rfl rfl ?_
  refine wp_bipush (n := 20) K dX2_setPlace_18 rfl rfl ?_
  refine wp_iload_n (n := 21) K dX2_setPlace_20 rfl rfl ?_
  refine wp_iload_n (n := 22) K dX2_setPlace_21 rfl rfl ?_
  refine wp_iadd (n := 23) K dX2_setPlace_22 rfl ?_
  refine wp_bipush (n := 25) K dX2_setPlace_23 rfl rfl ?_
  refine wp_irem (n := 26) K dX2_setPlace_25 rfl (by decide) ?_
  rw [show brem ((hr : Int) + (ld : Int)) 24 = (((hr + ld) % 24 : Nat) : Int) by
    rw [show (hr : Int) + (ld : Int) = ((hr + ld : Nat) : Int) by omega]; exact brem_n (a := hr + ld) (d := 24) (by omega) (by omega) (by omega)]
  refine wp_iast (n := 27) K dX2_setPlace_26 rfl rfl (liS rfl) (fun _ => rfl) ⟨by omega, by omega, by omega⟩ ?_
  try simp only [up_same, up_up, up_ne, ne_eq, Nat.reduceEqDiff, not_false_eq_true, Int.reduceToNat, Int.toNat_natCast]
  refine ret_n K dX2_setPlace_27 rfl ?_ ⟨Nat.le_refl _, Nat.le_refl _⟩
  · rfl
theorem nms_p {M : MT} {σ : Nat → Int} (hV : VB 72 M) (hw : WS σ) (h2 : 0 ≤ σ 2 ∧ σ 2 < 24) (s ld : Nat) (top : Int) (hs : s < 12) (hl : ld ≤ 12) (ht : -1 ≤ top ∧ top ≤ 20) (N : Nat → Int) (hN : N = up (up (up (up (up (up (up (M 72) 0 (s : Int)) 1 (σ (10 + 5 * s))) 2 (σ (11 + 5 * s))) 3 (σ (12 + 5 * s))) 4 (ld : Int)) 5 top) 6 ((((σ 2).toNat + ld) % 24 : Nat) : Int)) : (∀ j, j < 8 → -1000000 ≤ N j ∧ N j ≤ 1000000) ∧ ∀ j, j ≤ 6 → N j = nmL σ s ld top j := by
  obtain ⟨w1, w2, w3, -⟩ := hw.2 s hs
  obtain ⟨a0, a1, a2, a3⟩ := nameA_4 σ s
  have h7 := hV 7 (by decide)
  subst hN
  constructor
  · intro j hj
    rcases (show j = 0 ∨ j = 1 ∨ j = 2 ∨ j = 3 ∨ j = 4 ∨ j = 5 ∨ j = 6 ∨ j = 7 by omega) with rfl | rfl | rfl | rfl | rfl | rfl | rfl | rfl <;> simp [up] <;> omega
  · intro j hj
    rcases (show j = 0 ∨ j = 1 ∨ j = 2 ∨ j = 3 ∨ j = 4 ∨ j = 5 ∨ j = 6 by omega) with rfl | rfl | rfl | rfl | rfl | rfl | rfl <;> simp [up, nmL, a0, a1, a2, a3]
theorem c_liftOf_p (s ld : Nat) (top : Int) (hs : s < 12) (hl : ld ≤ 12) (ht : -1 ≤ top ∧ top ≤ 20) (S : ST) (M : MT) (σ τ : Nat → Int) (b : Nat) (h : SN M σ) (hF : FD 17 M σ) (hR : RB S M σ τ b) (hb : b = 34 ∨ 91 ≤ b) (hw : WS σ) (h2 : 0 ≤ σ 2 ∧ σ 2 < 24) (h5 : -1 ≤ σ 5 ∧ σ 5 < 4) (h4 : 0 ≤ σ 4 ∧ σ 4 ≤ 4) (hV : VB 72 M) : Ct E1 yX2_liftOf cX2_liftOf 6 (some .int) rm_X2_liftOf [.ref 71, .ref 17, .int (z (s : Int)), .int (z (ld : Int)), .int (z top)] S M (Qi (liftL σ τ s ld top) [72, 73] S M (fun M1 => VB 72 M1)) := by
  obtain ⟨g1, g2, g3, g4, g5⟩ := h.2 s hs
  obtain ⟨w1, w2, w3, -⟩ := hw.2 s hs
  refine Ct.mk [.ref 71, .ref 17, .int (z (s : Int)), .int (z (ld : Int)), .int (z top), mkV] (by decide) rfl (Nat.le_of_ble_eq_true rfl) (fun X K => ?_)
  refine wp_aload_n (n := 1) K dX2_liftOf_0 rfl rfl ?_
  refine wp_invV_r (n := 4) K dX2_liftOf_1 rfl cf_X2_18 (c_rule _ _ σ τ b hF hR h5 h4) rfl rfl rfl (liS rfl) rfl (by decide) ⟨Nat.le_refl _, Nat.le_refl _⟩ (Nat.le_of_ble_eq_true rfl) ?_
  rcases hR.2.2.2.1 with ⟨q1, q2⟩ | ⟨a, len, c, q1, q2, q3, q4, q5, q6, q7, q8, q9, q10, q11⟩
  · change clauseF σ τ 0 < 0 at q1
    refine wp_getD (n := 7) (b := 1) K dX2_liftOf_4 rfl fl_X2_24 hR.1 hR.2.1 rfl q2 ?_
    refine wp_astore (n := 9) K dX2_liftOf_7 rfl (by decide) (by decide) ?_
    refine wp_aload (n := 11) K dX2_liftOf_9 rfl rfl ?_
    refine wp_alen1 (n := 12) K dX2_liftOf_11 rfl ?_
    refine wp_if_ne (n := 15) K dX2_liftOf_12 rfl (tgt := 35) (by decide) ⟨by omega, by omega⟩ (fun c12 => ?_) (fun c12 => ?_)
    · exact absurd rfl c12
    · refine wp_aload_n (n := 16) K dX2_liftOf_15 rfl rfl ?_
      refine wp_getF (n := 19) K dX2_liftOf_16 rfl fl_X2_29 rfl (liS rfl) rfl rfl ?_
      refine wp_getF (n := 22) K dX2_liftOf_19 rfl fl_X2_33 rfl (liS rfl) rfl rfl ?_
      refine wp_iload_n (n := 23) K dX2_liftOf_22 rfl rfl ?_
      refine wp_iald (n := 24) K dX2_liftOf_23 rfl rfl (liS rfl) ⟨by omega, by omega, by omega⟩ ?_
      try simp only [up_same, up_up, up_ne, ne_eq, Nat.reduceEqDiff, not_false_eq_true, Int.reduceToNat, Int.toNat_natCast]
      refine wp_aload_n (n := 25) K dX2_liftOf_24 rfl rfl ?_
      refine wp_getF (n := 28) K dX2_liftOf_25 rfl fl_X2_29 rfl (liS rfl) rfl rfl ?_
      refine wp_getF (n := 31) K dX2_liftOf_28 rfl fl_X2_38 rfl (liS rfl) rfl rfl ?_
      refine wp_iload_n (n := 32) K dX2_liftOf_31 rfl rfl ?_
      refine wp_iald (n := 33) K dX2_liftOf_32 rfl rfl (liS rfl) ⟨by omega, by omega, by omega⟩ ?_
      try simp only [up_same, up_up, up_ne, ne_eq, Nat.reduceEqDiff, not_false_eq_true, Int.reduceToNat, Int.toNat_natCast]
      refine wp_imul (n := 34) K dX2_liftOf_33 rfl ?_
      refine ret_qi K dX2_liftOf_34 ?_ rfl ?_ ?_ ⟨Nat.le_refl _, Nat.le_refl _⟩
      · rw [g1, g2]; unfold liftL; rw [if_pos q1]
      · intro a _; rfl
      · exact hV
  · change 0 ≤ clauseF σ τ 0 at q1
    change ∀ nm, evC σ τ nm (clauseF σ τ 0) = evRun nm c len at q9
    refine wp_getD (n := 7) (b := a) K dX2_liftOf_4 rfl fl_X2_24 hR.1 hR.2.1 rfl q2 ?_
    have ha0 : a ≠ 0 := by omega
    have hlen := q7.1
    refine wp_astore (n := 9) K dX2_liftOf_7 rfl (by omega) (by decide) ?_
    refine wp_aload (n := 11) K dX2_liftOf_9 rfl rfl ?_
    refine wp_alen (n := 12) K dX2_liftOf_11 rfl q4 (by decide) q5 ?_
    refine wp_if_ne (n := 15) K dX2_liftOf_12 rfl (tgt := 35) (by decide) ⟨by omega, by omega⟩ (fun c12 => ?_) (fun c12 => ?_)
    · refine wp_aload_n (n := 36) K dX2_liftOf_35 rfl rfl ?_
      refine wp_aload_n (n := 37) K dX2_liftOf_36 rfl rfl ?_
      refine wp_getF (n := 40) K dX2_liftOf_37 rfl fl_X2_29 rfl (liS rfl) rfl rfl ?_
      refine wp_iload_n (n := 41) K dX2_liftOf_40 rfl rfl ?_
      refine wp_invV_n (n := 44) K dX2_liftOf_41 rfl cf_X2_41 (c_setStone_p s hs _ _ σ h) rfl rfl rfl (liS rfl) rfl (by decide) ⟨Nat.le_refl _, Nat.le_refl _⟩ (Nat.le_of_ble_eq_true rfl) ?_
      refine wp_aload_n (n := 45) K dX2_liftOf_44 rfl rfl ?_
      refine wp_aload_n (n := 46) K dX2_liftOf_45 rfl rfl ?_
      refine wp_getI (n := 49) K dX2_liftOf_46 rfl fl_X2_45 rfl (liS rfl) rfl ?_
      try simp only [up_same, up_up, up_ne, ne_eq, Nat.reduceEqDiff, not_false_eq_true, Int.reduceToNat, Int.toNat_natCast]
      refine wp_iload_n (n := 50) K dX2_liftOf_49 rfl rfl ?_
      refine wp_iload (n := 52) K dX2_liftOf_50 rfl rfl ?_
      rw [show M 17 8 = ((σ 2).toNat : Int) by rw [hF.2.2.1]; omega]
      refine wp_invV_n (n := 55) K dX2_liftOf_52 rfl cf_X2_49 (c_setPlace_p (σ 2).toNat ld top (by omega) hl _ _) rfl rfl rfl (liS rfl) rfl (by decide) ⟨Nat.le_refl _, Nat.le_refl _⟩ (Nat.le_of_ble_eq_true rfl) ?_
      refine wp_iconst (n := 56) K dX2_liftOf_55 rfl ?_
      refine wp_sipush (n := 59) K dX2_liftOf_56 rfl rfl ?_
      refine wp_aload_n (n := 60) K dX2_liftOf_59 rfl rfl ?_
      refine wp_aload (n := 62) K dX2_liftOf_60 rfl rfl ?_
      simp only [up_same, up_up]
      obtain ⟨n1, n2⟩ := nms_p hV hw h2 s ld top hs hl ht _ rfl
      generalize hNm : up (up (up (up (up (up (up (M 72) 0 (s : Int)) 1 (σ (10 + 5 * s))) 2 (σ (11 + 5 * s))) 3 (σ (12 + 5 * s))) 4 (ld : Int)) 5 top) 6 ((((σ 2).toNat + ld) % 24 : Nat) : Int) = N at n1 n2 ⊢
      refine wp_invV_qi (n := 65) K dX2_liftOf_62 rfl cf_X2_53 (c_run_p _ _ a len q4 q5 (by simp; omega) N c q7 (fun i hi => by rw [up_ne _ _ (by omega)]; exact q8 i hi) (fun j _ => by rw [up_same]) n1) rfl rfl rfl (liS rfl) rfl (by decide) ⟨Nat.le_refl _, Nat.le_refl _⟩ (Nat.le_of_ble_eq_true rfl) (fun A1 hA1 gA1 => ?_)
      have het := ev_top (nm := N) q7 (q := 0) q10
      rw [if_pos rfl] at het
      have hcg := evRun_congr (nm := N) (nm' := nmL σ s ld top) (c := c) (len := len) (fun i hi h1 => by
        have := q11 i hi h1
        have ho := q7.2.1 i hi
        unfold okOp2 at ho
        exact n2 _ (by simp at this; omega)) q7.ok len (Nat.le_refl _)
      have hob := evRun_ok n1 q7.ok len (Nat.le_refl _)
      have hdp := evRun_dp N c q7.ok len (Nat.le_refl _)
      have hn1 : (evRun N c len).2.1 = 1 := by rw [q10] at hdp; exact congrArg Prod.fst hdp
      have hvr := hob.1 0 (by omega)
      rw [het]
      generalize hev : (evRun N c len).1 0 = v at hvr ⊢
      refine wp_invS_i (n := 68) K dX2_liftOf_65 rfl cf_X2_57 (j_min _ _ ⟨by omega, by omega⟩ ⟨by omega, by omega⟩ _ _) rfl rfl (by decide) ⟨Nat.le_refl _, Nat.le_refl _⟩ (Nat.le_of_ble_eq_true rfl) ?_
      refine wp_invS_i (n := 71) K dX2_liftOf_68 rfl cf_X2_63 (j_max _ _ ⟨by omega, by omega⟩ ⟨by omega, by omega⟩ _ _) rfl rfl (by decide) ⟨Nat.le_refl _, Nat.le_refl _⟩ (Nat.le_of_ble_eq_true rfl) ?_
      refine ret_qi K dX2_liftOf_71 ?_ rfl ?_ ?_ ⟨Nat.le_refl _, Nat.le_refl _⟩
      · unfold liftL; rw [if_neg (by omega), q9, ← hcg, hev]
      · intro x hx
        simp only [List.mem_cons, List.not_mem_nil, or_false, not_or] at hx
        rw [hA1 x (by simp [hx]), up_ne _ _ (by simp [hx])]
      · intro j hj; rw [hA1 _ (by decide), up_same]; exact n1 j hj
    · omega
theorem c_isLet_p (s ld : Nat) (top : Int) (hs : s < 12) (hl : ld ≤ 12) (ht : -1 ≤ top ∧ top ≤ 20) (S : ST) (M : MT) (σ τ : Nat → Int) (b : Nat) (h : SN M σ) (hF : FD 17 M σ) (hR : RB S M σ τ b) (hb : b = 34 ∨ 91 ≤ b) (hw : WS σ) (h2 : 0 ≤ σ 2 ∧ σ 2 < 24) (h5 : -1 ≤ σ 5 ∧ σ 5 < 4) (h4 : 0 ≤ σ 4 ∧ σ 4 ≤ 4) (hV : VB 72 M) : Ct E1 yX2_isLet cX2_isLet 6 (some .boolean) rm_X2_isLet [.ref 71, .ref 17, .int (z (s : Int)), .int (z (ld : Int)), .int (z top)] S M (Qi (bI (letL σ τ s ld top)) [72, 73] S M (fun M1 => VB 72 M1)) := by
  refine Ct.mk [.ref 71, .ref 17, .int (z (s : Int)), .int (z (ld : Int)), .int (z top), mkV] (by decide) rfl (Nat.le_of_ble_eq_true rfl) (fun X K => ?_)
  refine wp_aload_n (n := 1) K dX2_isLet_0 rfl rfl ?_
  refine wp_invV_r (n := 4) K dX2_isLet_1 rfl cf_X2_18 (c_rule _ _ σ τ b hF hR h5 h4) rfl rfl rfl (liS rfl) rfl (by decide) ⟨Nat.le_refl _, Nat.le_refl _⟩ (Nat.le_of_ble_eq_true rfl) ?_
  rcases hR.2.2.2.2.1 with ⟨q1, q2⟩ | ⟨a, len, c, q1, q2, q3, q4, q5, q6, q7, q8, q9, q10, q11⟩
  · change clauseF σ τ 1 < 0 at q1
    refine wp_getD (n := 7) (b := 1) K dX2_isLet_4 rfl fl_X2_66 hR.1 hR.2.1 rfl q2 ?_
    refine wp_astore (n := 9) K dX2_isLet_7 rfl (by decide) (by decide) ?_
    refine wp_aload (n := 11) K dX2_isLet_9 rfl rfl ?_
    refine wp_alen1 (n := 12) K dX2_isLet_11 rfl ?_
    refine wp_if_ne (n := 15) K dX2_isLet_12 rfl (tgt := 17) (by decide) ⟨by omega, by omega⟩ (fun c12 => ?_) (fun c12 => ?_)
    · exact absurd rfl c12
    · refine wp_iconst (n := 16) K dX2_isLet_15 rfl ?_
      refine ret_qz K dX2_isLet_16 ?_ rfl ?_ ?_ ⟨Nat.le_refl _, Nat.le_refl _⟩
      · unfold letL; rw [decide_eq_true q1]; rfl
      · intro a _; rfl
      · exact hV
  · change 0 ≤ clauseF σ τ 1 at q1
    change ∀ nm, evC σ τ nm (clauseF σ τ 1) = evRun nm c len at q9
    refine wp_getD (n := 7) (b := a) K dX2_isLet_4 rfl fl_X2_66 hR.1 hR.2.1 rfl q2 ?_
    have ha0 : a ≠ 0 := by omega
    have hlen := q7.1
    refine wp_astore (n := 9) K dX2_isLet_7 rfl (by omega) (by decide) ?_
    refine wp_aload (n := 11) K dX2_isLet_9 rfl rfl ?_
    refine wp_alen (n := 12) K dX2_isLet_11 rfl q4 (by decide) q5 ?_
    refine wp_if_ne (n := 15) K dX2_isLet_12 rfl (tgt := 17) (by decide) ⟨by omega, by omega⟩ (fun c12 => ?_) (fun c12 => ?_)
    · refine wp_aload_n (n := 18) K dX2_isLet_17 rfl rfl ?_
      refine wp_aload_n (n := 19) K dX2_isLet_18 rfl rfl ?_
      refine wp_getF (n := 22) K dX2_isLet_19 rfl fl_X2_29 rfl (liS rfl) rfl rfl ?_
      refine wp_iload_n (n := 23) K dX2_isLet_22 rfl rfl ?_
      refine wp_invV_n (n := 26) K dX2_isLet_23 rfl cf_X2_41 (c_setStone_p s hs _ _ σ h) rfl rfl rfl (liS rfl) rfl (by decide) ⟨Nat.le_refl _, Nat.le_refl _⟩ (Nat.le_of_ble_eq_true rfl) ?_
      refine wp_aload_n (n := 27) K dX2_isLet_26 rfl rfl ?_
      refine wp_aload_n (n := 28) K dX2_isLet_27 rfl rfl ?_
      refine wp_getI (n := 31) K dX2_isLet_28 rfl fl_X2_45 rfl (liS rfl) rfl ?_
      try simp only [up_same, up_up, up_ne, ne_eq, Nat.reduceEqDiff, not_false_eq_true, Int.reduceToNat, Int.toNat_natCast]
      refine wp_iload_n (n := 32) K dX2_isLet_31 rfl rfl ?_
      refine wp_iload (n := 34) K dX2_isLet_32 rfl rfl ?_
      rw [show M 17 8 = ((σ 2).toNat : Int) by rw [hF.2.2.1]; omega]
      refine wp_invV_n (n := 37) K dX2_isLet_34 rfl cf_X2_49 (c_setPlace_p (σ 2).toNat ld top (by omega) hl _ _) rfl rfl rfl (liS rfl) rfl (by decide) ⟨Nat.le_refl _, Nat.le_refl _⟩ (Nat.le_of_ble_eq_true rfl) ?_
      refine wp_aload_n (n := 38) K dX2_isLet_37 rfl rfl ?_
      refine wp_aload (n := 40) K dX2_isLet_38 rfl rfl ?_
      simp only [up_same, up_up]
      obtain ⟨n1, n2⟩ := nms_p hV hw h2 s ld top hs hl ht _ rfl
      generalize hNm : up (up (up (up (up (up (up (M 72) 0 (s : Int)) 1 (σ (10 + 5 * s))) 2 (σ (11 + 5 * s))) 3 (σ (12 + 5 * s))) 4 (ld : Int)) 5 top) 6 ((((σ 2).toNat + ld) % 24 : Nat) : Int) = N at n1 n2 ⊢
      refine wp_invV_qi (n := 43) K dX2_isLet_40 rfl cf_X2_53 (c_run_p _ _ a len q4 q5 (by simp; omega) N c q7 (fun i hi => by rw [up_ne _ _ (by omega)]; exact q8 i hi) (fun j _ => by rw [up_same]) n1) rfl rfl rfl (liS rfl) rfl (by decide) ⟨Nat.le_refl _, Nat.le_refl _⟩ (Nat.le_of_ble_eq_true rfl) (fun A1 hA1 gA1 => ?_)
      have het := ev_top (nm := N) q7 (q := 1) q10
      rw [if_neg (by decide)] at het
      have hcg := evRun_congr (nm := N) (nm' := nmL σ s ld top) (c := c) (len := len) (fun i hi h1 => by
        have := q11 i hi h1
        have ho := q7.2.1 i hi
        unfold okOp2 at ho
        exact n2 _ (by simp at this; omega)) q7.ok len (Nat.le_refl _)
      have hob := evRun_ok n1 q7.ok len (Nat.le_refl _)
      have hdp := evRun_dp N c q7.ok len (Nat.le_refl _)
      have hn1 : (evRun N c len).2.2.2 = 1 := by rw [q10] at hdp; exact congrArg Prod.snd hdp
      have hvr := hob.2 0 (by omega)
      rw [het]
      have hlet : letL σ τ s ld top = decide ((evRun N c len).2.2.1 0 = 1) := by unfold letL; rw [decide_eq_false (by omega), q9, ← hcg]; rfl
      rw [hlet] at K
      generalize hev : (evRun N c len).2.2.1 0 = v at hvr K ⊢
      have fin1 : ∀ x, x ∉ [72, 73] → A1 x = M x := fun x hx => by
        simp only [List.mem_cons, List.not_mem_nil, or_false, not_or] at hx
        rw [hA1 x (by simp [hx]), up_ne _ _ (by simp [hx])]
      have fin2 : VB 72 A1 := fun j hj => by rw [hA1 _ (by decide), up_same]; exact n1 j hj
      refine wp_if_eq (n := 46) K dX2_isLet_43 rfl (tgt := 50) (by decide) ⟨by omega, by omega⟩ (fun c43 => ?_) (fun c43 => ?_)
      · refine wp_iconst (n := 51) K dX2_isLet_50 rfl ?_
        refine ret_qz K dX2_isLet_51 ?_ rfl ?_ ?_ ⟨Nat.le_refl _, Nat.le_refl _⟩
        · exact bI_f (by omega)
        · exact fin1
        · exact fin2
      · refine wp_iconst (n := 47) K dX2_isLet_46 rfl ?_
        refine wp_goto K dX2_isLet_47 (tgt := 51) (by decide) ?_
        refine ret_qz K dX2_isLet_51 ?_ rfl ?_ ?_ ⟨Nat.le_refl _, Nat.le_refl _⟩
        · exact bI_t (by omega)
        · exact fin1
        · exact fin2
    · omega
