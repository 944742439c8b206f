theorem RB.sig {S : ST} {M : MT} {σ ρ τ : Nat → Int} {b : Nat} (h : RB S M σ τ b) (e5 : ρ 5 = σ 5) (e4 : ρ 4 = σ 4) : RB S M ρ τ b := by
  have ec : ∀ q, clauseF ρ τ q = clauseF σ τ q := fun q => by unfold clauseF; rw [e5]
  have ev : ∀ nm k, evC ρ τ nm k = evC σ τ nm k := fun nm k => by unfold evC; rw [e5]
  have er : ∀ q, RQ S M σ τ b q → RQ S M ρ τ b q := fun q hq => by
    unfold RQ at hq ⊢
    rw [ec]
    rcases hq with q1 | ⟨a, len, c, h1, h2, h3, h4, h5, h6, h7, h8, h9, h10⟩
    · exact Or.inl q1
    · exact Or.inr ⟨a, len, c, h1, h2, h3, h4, h5, h6, h7, h8, fun nm => by rw [ev]; exact h9 nm, h10⟩
  refine ⟨h.1, h.2.1, by rw [e5, e4]; exact h.2.2.1, er 0 h.2.2.2.1, er 1 h.2.2.2.2.1, er 2 h.2.2.2.2.2⟩
/-- what the class must bear when its law is asked -/
def AS (S : ST) (M : MT) (σ τ : Nat → Int) (b : Nat) : Prop := CN M σ ∧ RB S M σ τ b ∧ (b = 34 ∨ 91 ≤ b) ∧ WS σ ∧ (0 ≤ σ 2 ∧ σ 2 < 24) ∧ (-1 ≤ σ 5 ∧ σ 5 < 4) ∧ (0 ≤ σ 4 ∧ σ 4 ≤ 4) ∧ VB 65 M
theorem AS.mem {S : ST} {M M' : MT} {σ τ : Nat → Int} {b : Nat} (h : AS S M σ τ b) (e : ∀ a, a ∉ [65, 66] → M' a = M a) (hV : VB 65 M') : AS S M' σ τ b :=
  ⟨h.1.mem (fun a h1 h2 _ => e a (by simp; omega)), h.2.1.mem h.2.2.1 (fun a ha => e a (by simp; omega)), h.2.2.1, h.2.2.2.1, h.2.2.2.2.1, h.2.2.2.2.2.1, h.2.2.2.2.2.2.1, hV⟩

theorem c_quarries (s : Nat) (hs : s < 12) (S : ST) (M : MT) (σ τ : Nat → Int) (b : Nat) (hA : AS S M σ τ b) : Ct E1 yX2_quarriesOf cX2_quarriesOf 6 (some .int) rm_X2_quarriesOf [.ref 64, .ref 17, .int (z (s : Int))] S M (Qi (quT σ τ s 6 : Int) [65, 66] S M (fun M1 => VB 65 M1)) := by
  obtain ⟨hC, hR, hb, hw, h2, h5, h4, hV⟩ := hA
  obtain ⟨w1, w2, w3, -⟩ := hw.2 s hs
  obtain ⟨a0, a1, a2, a3⟩ := nameA_4 σ s
  refine Ct.mk [.ref 64, .ref 17, .int (z (s : Int)), mkV, mkV, mkV] (by decide) rfl (Nat.le_of_ble_eq_true rfl) (fun X K => ?_)
  refine wp_aload_n (n := 1) K dX2_quarriesOf_0 rfl rfl ?_
  refine wp_invV_r (n := 4) K dX2_quarriesOf_1 rfl cf_X2_18 (c_rule _ _ σ τ b hC.2.2.2.2 hR h5 h4) rfl rfl rfl (liS rfl) rfl (by decide) ⟨Nat.le_refl _, Nat.le_refl _⟩ (Nat.le_of_ble_eq_true rfl) ?_
  rcases hR.2.2.2.2.2 with ⟨q1, q2⟩ | ⟨a, len, c, q1, q2, q3, q4, q5, q6, q7, q8, q9, q10, q11⟩
  · change clauseF σ τ 2 < 0 at q1
    refine wp_getD (n := 7) (b := 1) K dX2_quarriesOf_4 rfl fl_X2_69 hR.1 hR.2.1 rfl q2 ?_
    refine wp_astore_n (n := 8) K dX2_quarriesOf_7 rfl (by decide) (by decide) ?_
    refine wp_aload_n (n := 9) K dX2_quarriesOf_8 rfl rfl ?_
    refine wp_alen1 (n := 10) K dX2_quarriesOf_9 rfl ?_
    refine wp_if_ne (n := 13) K dX2_quarriesOf_10 rfl (tgt := 16) (by decide) ⟨by omega, by omega⟩ (fun c10 => ?_) (fun c10 => ?_)
    · exact absurd rfl c10
    · have ht : ∀ q, fitF σ τ s q = true := fun q => by unfold fitF; rw [decide_eq_true q1]; rfl
      refine wp_bipush (n := 15) K dX2_quarriesOf_13 rfl rfl ?_
      refine ret_qi K dX2_quarriesOf_15 ?_ rfl ?_ ?_ ⟨Nat.le_refl _, Nat.le_refl _⟩
      · simp [quT, ht]
      · intro a _; rfl
      · exact hV
  · change 0 ≤ clauseF σ τ 2 at q1
    change ∀ nm, evC σ τ nm (clauseF σ τ 2) = evRun nm c len at q9
    refine wp_getD (n := 7) (b := a) K dX2_quarriesOf_4 rfl fl_X2_69 hR.1 hR.2.1 rfl q2 ?_
    have hlen := q7.1
    have ha0 : a ≠ 0 := by omega
    refine wp_astore_n (n := 8) K dX2_quarriesOf_7 rfl (by omega) (by decide) ?_
    refine wp_aload_n (n := 9) K dX2_quarriesOf_8 rfl rfl ?_
    refine wp_alen (n := 10) K dX2_quarriesOf_9 rfl q4 (by decide) q5 ?_
    refine wp_if_ne (n := 13) K dX2_quarriesOf_10 rfl (tgt := 16) (by decide) ⟨by omega, by omega⟩ (fun c10 => ?_) (fun c10 => ?_)
    · refine wp_aload_n (n := 17) K dX2_quarriesOf_16 rfl rfl ?_
      refine wp_aload_n (n := 18) K dX2_quarriesOf_17 rfl rfl ?_
      refine wp_getF (n := 21) K dX2_quarriesOf_18 rfl fl_X2_29 rfl (liS rfl) rfl rfl ?_
      refine wp_iload_n (n := 22) K dX2_quarriesOf_21 rfl rfl ?_
      refine wp_invV_n (n := 25) K dX2_quarriesOf_22 rfl cf_X2_41 (c_setStone_a s hs _ _ σ hC.1) rfl rfl rfl (liS rfl) rfl (by decide) ⟨Nat.le_refl _, Nat.le_refl _⟩ (Nat.le_of_ble_eq_true rfl) ?_
      refine wp_iconst (n := 26) K dX2_quarriesOf_25 rfl ?_
      refine wp_istore (n := 28) K dX2_quarriesOf_26 rfl (by decide) ?_
      refine wp_iconst (n := 29) K dX2_quarriesOf_28 rfl ?_
      refine wp_istore (n := 31) K dX2_quarriesOf_29 rfl (by decide) ?_
      generalize hN0 : up (up (up (up (M 65) 0 (s : Int)) 1 (σ (10 + 5 * s))) 2 (σ (11 + 5 * s))) 3 (σ (12 + 5 * s)) = N0
      have hN0r : ∀ j, j < 8 → -1000000 ≤ N0 j ∧ N0 j ≤ 1000000 := fun j hj => by
        have := hV j hj
        rw [← hN0]
        simp only [up]
        (repeat' split) <;> omega
      have hN03 : ∀ j, j ≤ 3 → N0 j = nameA (fun _ => 0) σ s 3 j := fun j hj => by
        rw [← hN0]
        rcases (show j = 0 ∨ j = 1 ∨ j = 2 ∨ j = 3 by omega) with rfl | rfl | rfl | rfl <;> simp [up, a0, a1, a2, a3]
      refine (dn 6 (Q := fun q => ∀ B : MT, (∀ x, x ∉ [65, 66] → B x = M x) → (∀ j, j < 8 → j ≠ 7 → B 65 j = N0 j) → VB 65 B → Wp E1 X 31 [.ref 64, .ref 17, .int (z (s : Int)), .ref a, .int (z (quT σ τ s q : Int)), .int (z (q : Int))] [] S B) (fun q hq ih B hB hBn hBv => ?_) 0 (by omega)) _ (fun x hx => by simp only [List.mem_cons, List.not_mem_nil, or_false, not_or] at hx; simp [up, hx]) (fun j hj _ => by rw [up_same]) (fun j hj => by rw [up_same]; exact hN0r j hj)
      have hqt : ∀ q, q ≤ 6 → quT σ τ s q < 2 ^ q := fun q => by
        induction q with
        | zero => intro _; exact Nat.zero_lt_one
        | succ q ih2 =>
          intro hq
          have := ih2 (by omega)
          show quT σ τ s q ||| _ < _
          refine Nat.or_lt_two_pow (Nat.lt_of_lt_of_le this (Nat.pow_le_pow_right (by decide) (by omega))) ?_
          split
          · exact Nat.pow_lt_pow_right (by decide) (by omega)
          · exact Nat.two_pow_pos _
      have hqq := hqt q hq
      have hp6 : 2 ^ q ≤ 64 := Nat.pow_le_pow_right (n := 2) (by decide) hq
      refine wp_iload (n := 33) K dX2_quarriesOf_31 rfl rfl ?_
      refine wp_bipush (n := 35) K dX2_quarriesOf_33 rfl rfl ?_
      refine wp_icmp_ge (n := 38) K dX2_quarriesOf_35 rfl (tgt := 70) (by decide) ⟨by omega, by omega⟩ ⟨by omega, by omega⟩ (fun c35 => ?_) (fun c35 => ?_)
      · have : q = 6 := by omega
        subst this
        refine wp_iload (n := 72) K dX2_quarriesOf_70 rfl rfl ?_
        refine ret_qi K dX2_quarriesOf_72 ?_ rfl ?_ ?_ ⟨Nat.le_refl _, Nat.le_refl _⟩
        · rfl
        · exact hB
        · exact hBv
      · have hN1 : ∀ j, j < 8 → -1000000 ≤ up (B 65) 7 (q : Int) j ∧ up (B 65) 7 (q : Int) j ≤ 1000000 := fun j hj => by
          have := hBv j hj
          simp only [up]; split <;> omega
        have hBa : B a = M a := hB a (by simp; omega)
        refine wp_aload_n (n := 39) K dX2_quarriesOf_38 rfl rfl ?_
        refine wp_getF (n := 42) K dX2_quarriesOf_39 rfl fl_X2_9 rfl (liS rfl) rfl rfl ?_
        refine wp_bipush (n := 44) K dX2_quarriesOf_42 rfl rfl ?_
        refine wp_iload (n := 46) K dX2_quarriesOf_44 rfl rfl ?_
        refine wp_iast (n := 47) K dX2_quarriesOf_46 rfl rfl (liS rfl) (fun _ => rfl) ⟨by omega, by omega, by omega⟩ ?_
        try simp only [up_same, up_up, up_ne, ne_eq, Nat.reduceEqDiff, not_false_eq_true, Int.reduceToNat, Int.toNat_natCast]
        refine wp_aload_n (n := 48) K dX2_quarriesOf_47 rfl rfl ?_
        refine wp_aload_n (n := 49) K dX2_quarriesOf_48 rfl rfl ?_
        refine wp_invV_qi (n := 52) K dX2_quarriesOf_49 rfl cf_X2_53 (c_run_a _ _ a len q4 q5 (by simp; omega) (up (B 65) 7 (q : Int)) c q7 (fun i hi => by rw [up_ne _ _ (by omega), hBa]; exact q8 i hi) (fun j _ => by rw [up_same]) hN1) rfl rfl rfl (liS rfl) rfl (by decide) ⟨Nat.le_refl _, Nat.le_refl _⟩ (Nat.le_of_ble_eq_true rfl) (fun A1 hA1 gA1 => ?_)
        have het := ev_top (nm := up (B 65) 7 (q : Int)) q7 (q := 2) q10
        rw [if_neg (by decide)] at het
        have hcg := evRun_congr (nm := up (B 65) 7 (q : Int)) (nm' := up (nameA (fun _ => 0) σ s 3) 7 (q : Int)) (c := c) (len := len) (fun i hi h1 => by
          have := q11 i hi h1
          have ho := q7.2.1 i hi
          unfold okOp2 at ho
          have hcase : (c i).2 ≤ 3 ∨ (c i).2 = 7 := by simpa using this
          rcases hcase with u | u
          · rw [up_ne _ _ (by omega), up_ne _ _ (by omega), hBn _ (by omega) (by omega)]; exact hN03 _ (by omega)
          · rw [u]; simp [up]) q7.ok len (Nat.le_refl _)
        have hob := evRun_ok hN1 q7.ok len (Nat.le_refl _)
        have hdp := evRun_dp (up (B 65) 7 (q : Int)) c q7.ok len (Nat.le_refl _)
        have hn1 : (evRun (up (B 65) 7 (q : Int)) c len).2.2.2 = 1 := by rw [q10] at hdp; exact congrArg Prod.snd hdp
        have hvr := hob.2 0 (by omega)
        rw [het]
        have hfit : fitF σ τ s q = decide ((evRun (up (B 65) 7 (q : Int)) c len).2.2.1 0 = 1) := by unfold fitF; rw [decide_eq_false (by omega), q9, ← hcg]; rfl
        generalize hev : (evRun (up (B 65) 7 (q : Int)) c len).2.2.1 0 = v at hvr hfit ⊢
        have ih := ih (by omega) A1 (fun x hx => by
            rw [← hB x hx]
            simp only [List.mem_cons, List.not_mem_nil, or_false, not_or] at hx
            rw [hA1 x (by simp [hx]), up_ne _ _ (by simp [hx])]) (fun j hj h7 => by rw [hA1 _ (by decide), up_same, up_ne _ _ h7]; exact hBn j hj h7) (fun j hj => by rw [hA1 _ (by decide), up_same]; exact hN1 j hj)
        have eq1 : quT σ τ s (q + 1) = quT σ τ s q ||| (if fitF σ τ s q = true then 2 ^ q else 0) := rfl
        refine wp_if_eq (n := 55) K dX2_quarriesOf_52 rfl (tgt := 64) (by decide) ⟨by omega, by omega⟩ (fun c52 => ?_) (fun c52 => ?_)
        · rw [eq1, if_neg (by rw [hfit]; simp; omega), Nat.or_zero] at ih
          refine wp_iinc (n := 67) K dX2_quarriesOf_64 rfl rfl (by decide) ?_
          refine wp_goto K dX2_quarriesOf_67 (tgt := 31) (by decide) ?_
          exact ih
        · rw [eq1, if_pos (by rw [hfit]; simp; omega)] at ih
          refine wp_iload (n := 57) K dX2_quarriesOf_55 rfl rfl ?_
          refine wp_iconst (n := 58) K dX2_quarriesOf_57 rfl ?_
          refine wp_iload (n := 60) K dX2_quarriesOf_58 rfl rfl ?_
          refine wp_ishl (n := 61) K dX2_quarriesOf_60 rfl ?_
          refine wp_ior (n := 62) K dX2_quarriesOf_61 rfl ?_
          rw [bshl_1 (by omega), bor_n (by omega) (by omega)]
          refine wp_istore (n := 64) K dX2_quarriesOf_62 rfl (by decide) ?_
          refine wp_iinc (n := 67) K dX2_quarriesOf_64 rfl rfl (by decide) ?_
          refine wp_goto K dX2_quarriesOf_67 (tgt := 31) (by decide) ?_
          exact ih
    · omega

theorem c_canBeLaid (s : Nat) (hs : s < 12) (S : ST) (M : MT) (σ τ : Nat → Int) (b : Nat) (hA : AS S M σ τ b) (L : Nat) (hL : σ 1 = L) (hL2 : L < 4096) : Ct E1 yX11_canBeLaid cX11_canBeLaid 2 (some .boolean) rm_X11_canBeLaid [.ref 16, .int (z (s : Int))] S M (Qi (bI (mayF σ τ s L)) [65, 66] S M (fun M1 => VB 65 M1)) := by
  obtain ⟨hC, hR, hb, hw, h2, h5, h4, hV⟩ := hA
  have eL : M 17 9 = (L : Int) := by rw [hC.2.2.2.2.2.2.2, hL]
  have ht := topT_r hw L (σ 0).toNat (by have := hw.1; omega)
  have hcl := cnt_le 12 L
  rw [mayF_L]
  refine Ct.mk [.ref 16, .int (z (s : Int))] (by decide) rfl (Nat.le_of_ble_eq_true rfl) (fun X K => ?_)
  refine wp_aload_n (n := 1) K dX11_canBeLaid_0 rfl rfl ?_
  refine wp_getF (n := 4) K dX11_canBeLaid_1 rfl fl_X11_12 rfl (liS rfl) rfl rfl ?_
  refine wp_iload_n (n := 5) K dX11_canBeLaid_4 rfl rfl ?_
  refine wp_invV_i (n := 8) K dX11_canBeLaid_5 rfl cf_X11_164 (c_isLaid s L (by omega) hL2 _ _ eL) rfl rfl rfl (liS rfl) rfl (by decide) ⟨Nat.le_refl _, Nat.le_refl _⟩ (Nat.le_of_ble_eq_true rfl) ?_
  refine wp_if_ne_b (n := 11) K dX11_canBeLaid_8 rfl (tgt := 78) (by decide) (fun c8 => ?_) (fun c8 => ?_)
  · refine wp_iconst (n := 79) K dX11_canBeLaid_78 rfl ?_
    refine ret_qz K dX11_canBeLaid_79 ?_ rfl ?_ ?_ ⟨Nat.le_refl _, Nat.le_refl _⟩
    · rw [c8]; rfl
    · intro a _; rfl
    · exact hV
  · refine wp_aload_n (n := 12) K dX11_canBeLaid_11 rfl rfl ?_
    refine wp_getF (n := 15) K dX11_canBeLaid_12 rfl fl_X11_12 rfl (liS rfl) rfl rfl ?_
    refine wp_getF (n := 18) K dX11_canBeLaid_15 rfl fl_X11_65 rfl (liS rfl) rfl rfl ?_
    refine wp_iload_n (n := 19) K dX11_canBeLaid_18 rfl rfl ?_
    refine wp_aload_n (n := 20) K dX11_canBeLaid_19 rfl rfl ?_
    refine wp_getF (n := 23) K dX11_canBeLaid_20 rfl fl_X11_12 rfl (liS rfl) rfl rfl ?_
    refine wp_getI (n := 26) K dX11_canBeLaid_23 rfl fl_X11_177 rfl (liS rfl) rfl ?_
    try simp only [up_same, up_up, up_ne, ne_eq, Nat.reduceEqDiff, not_false_eq_true, Int.reduceToNat, Int.toNat_natCast]
    rw [eL]
    refine wp_invV_i (n := 29) K dX11_canBeLaid_26 rfl cf_X11_180 (c_isBorne s L hs hL2 _ _ σ hC.1 hw) rfl rfl rfl (liS rfl) rfl (by decide) ⟨Nat.le_refl _, Nat.le_refl _⟩ (Nat.le_of_ble_eq_true rfl) ?_
    refine wp_if_eq_b (n := 32) K dX11_canBeLaid_29 rfl (tgt := 78) (by decide) (fun c29 => ?_) (fun c29 => ?_)
    · refine wp_iconst (n := 79) K dX11_canBeLaid_78 rfl ?_
      refine ret_qz K dX11_canBeLaid_79 ?_ rfl ?_ ?_ ⟨Nat.le_refl _, Nat.le_refl _⟩
      · rw [c29]; simp; rfl
      · intro a _; rfl
      · exact hV
    · refine wp_aload_n (n := 33) K dX11_canBeLaid_32 rfl rfl ?_
      refine wp_getF (n := 36) K dX11_canBeLaid_33 rfl fl_X11_36 rfl (liS rfl) rfl rfl ?_
      refine wp_aload_n (n := 37) K dX11_canBeLaid_36 rfl rfl ?_
      refine wp_getF (n := 40) K dX11_canBeLaid_37 rfl fl_X11_12 rfl (liS rfl) rfl rfl ?_
      refine wp_iload_n (n := 41) K dX11_canBeLaid_40 rfl rfl ?_
      refine wp_aload_n (n := 42) K dX11_canBeLaid_41 rfl rfl ?_
      refine wp_getF (n := 45) K dX11_canBeLaid_42 rfl fl_X11_12 rfl (liS rfl) rfl rfl ?_
      refine wp_getI (n := 48) K dX11_canBeLaid_45 rfl fl_X11_177 rfl (liS rfl) rfl ?_
      try simp only [up_same, up_up, up_ne, ne_eq, Nat.reduceEqDiff, not_false_eq_true, Int.reduceToNat, Int.toNat_natCast]
      rw [eL]
      refine wp_invS_i (n := 51) K dX11_canBeLaid_48 rfl cf_X11_75 (j_bitCount L hL2 _ _) rfl rfl (by decide) ⟨Nat.le_refl _, Nat.le_refl _⟩ (Nat.le_of_ble_eq_true rfl) ?_
      refine wp_aload_n (n := 52) K dX11_canBeLaid_51 rfl rfl ?_
      refine wp_getF (n := 55) K dX11_canBeLaid_52 rfl fl_X11_12 rfl (liS rfl) rfl rfl ?_
      refine wp_getF (n := 58) K dX11_canBeLaid_55 rfl fl_X11_65 rfl (liS rfl) rfl rfl ?_
      refine wp_aload_n (n := 59) K dX11_canBeLaid_58 rfl rfl ?_
      refine wp_getF (n := 62) K dX11_canBeLaid_59 rfl fl_X11_12 rfl (liS rfl) rfl rfl ?_
      refine wp_getI (n := 65) K dX11_canBeLaid_62 rfl fl_X11_177 rfl (liS rfl) rfl ?_
      try simp only [up_same, up_up, up_ne, ne_eq, Nat.reduceEqDiff, not_false_eq_true, Int.reduceToNat, Int.toNat_natCast]
      rw [eL]
      refine wp_invV_i (n := 68) K dX11_canBeLaid_65 rfl cf_X11_277 (c_topOf L hL2 _ _ σ hC.1 hw) rfl rfl rfl (liS rfl) rfl (by decide) ⟨Nat.le_refl _, Nat.le_refl _⟩ (Nat.le_of_ble_eq_true rfl) ?_
      refine wp_invV_qi (n := 71) K dX11_canBeLaid_68 rfl cf_X11_280 (c_isLet_a s (cnt 12 L) _ hs hcl ht _ _ σ τ b hC.1 hC.2.2.2.2 hR hb hw h2 h5 h4 hV) rfl rfl rfl (liS rfl) rfl (by decide) ⟨Nat.le_refl _, Nat.le_refl _⟩ (Nat.le_of_ble_eq_true rfl) (fun A1 hA1 gA1 => ?_)
      refine wp_if_eq_b (n := 74) K dX11_canBeLaid_71 rfl (tgt := 78) (by decide) (fun c71 => ?_) (fun c71 => ?_)
      · refine wp_iconst (n := 79) K dX11_canBeLaid_78 rfl ?_
        refine ret_qz K dX11_canBeLaid_79 ?_ rfl ?_ ?_ ⟨Nat.le_refl _, Nat.le_refl _⟩
        · rw [c71]; simp; rfl
        · exact hA1
        · exact gA1
      · refine wp_iconst (n := 75) K dX11_canBeLaid_74 rfl ?_
        refine wp_goto K dX11_canBeLaid_75 (tgt := 79) (by decide) ?_
        refine ret_qz K dX11_canBeLaid_79 ?_ rfl ?_ ?_ ⟨Nat.le_refl _, Nat.le_refl _⟩
        · rw [c71, c8, c29]; rfl
        · exact hA1
        · exact gA1

theorem c_liftUponLaid (s : Nat) (hs : s < 12) (S : ST) (M : MT) (σ τ : Nat → Int) (b : Nat) (hA : AS S M σ τ b) (L : Nat) (hL : σ 1 = L) (hL2 : L < 4096) : Ct E1 yX11_liftUponLaid cX11_liftUponLaid 3 (some .int) rm_X11_liftUponLaid [.ref 16, .int (z (s : Int))] S M (Qi (liftF σ τ s (wo L (2 ^ s))) [65, 66] S M (fun M1 => VB 65 M1)) := by
  obtain ⟨hC, hR, hb, hw, h2, h5, h4, hV⟩ := hA
  have eL : M 17 9 = (L : Int) := by rw [hC.2.2.2.2.2.2.2, hL]
  have hwo : wo L (2 ^ s) < 4096 := wo_ltn hL2
  have ht := topT_r hw (wo L (2 ^ s)) (σ 0).toNat (by have := hw.1; omega)
  have hcl := cnt_le 12 (wo L (2 ^ s))
  rw [liftF_L]
  refine Ct.mk [.ref 16, .int (z (s : Int)), mkV] (by decide) rfl (Nat.le_of_ble_eq_true rfl) (fun X K => ?_)
  refine wp_aload_n (n := 1) K dX11_liftUponLaid_0 rfl rfl ?_
  refine wp_getF (n := 4) K dX11_liftUponLaid_1 rfl fl_X11_12 rfl (liS rfl) rfl rfl ?_
  refine wp_getI (n := 7) K dX11_liftUponLaid_4 rfl fl_X11_177 rfl (liS rfl) rfl ?_
  try simp only [up_same, up_up, up_ne, ne_eq, Nat.reduceEqDiff, not_false_eq_true, Int.reduceToNat, Int.toNat_natCast]
  refine wp_iconst (n := 8) K dX11_liftUponLaid_7 rfl ?_
  refine wp_iload_n (n := 9) K dX11_liftUponLaid_8 rfl rfl ?_
  refine wp_ishl (n := 10) K dX11_liftUponLaid_9 rfl ?_
  refine wp_iconst (n := 11) K dX11_liftUponLaid_10 rfl ?_
  refine wp_ixor (n := 12) K dX11_liftUponLaid_11 rfl ?_
  refine wp_iand (n := 13) K dX11_liftUponLaid_12 rfl ?_
  rw [eL, bshl_1 (by omega), bandn_n (by omega) (Nat.lt_of_lt_of_le (Nat.pow_lt_pow_right (by decide) (show s < 31 by omega)) (by decide))]
  refine wp_istore_n (n := 14) K dX11_liftUponLaid_13 rfl (by decide) ?_
  refine wp_aload_n (n := 15) K dX11_liftUponLaid_14 rfl rfl ?_
  refine wp_getF (n := 18) K dX11_liftUponLaid_15 rfl fl_X11_36 rfl (liS rfl) rfl rfl ?_
  refine wp_aload_n (n := 19) K dX11_liftUponLaid_18 rfl rfl ?_
  refine wp_getF (n := 22) K dX11_liftUponLaid_19 rfl fl_X11_12 rfl (liS rfl) rfl rfl ?_
  refine wp_iload_n (n := 23) K dX11_liftUponLaid_22 rfl rfl ?_
  refine wp_iload_n (n := 24) K dX11_liftUponLaid_23 rfl rfl ?_
  refine wp_invS_i (n := 27) K dX11_liftUponLaid_24 rfl cf_X11_75 (j_bitCount _ hwo _ _) rfl rfl (by decide) ⟨Nat.le_refl _, Nat.le_refl _⟩ (Nat.le_of_ble_eq_true rfl) ?_
  refine wp_aload_n (n := 28) K dX11_liftUponLaid_27 rfl rfl ?_
  refine wp_getF (n := 31) K dX11_liftUponLaid_28 rfl fl_X11_12 rfl (liS rfl) rfl rfl ?_
  refine wp_getF (n := 34) K dX11_liftUponLaid_31 rfl fl_X11_65 rfl (liS rfl) rfl rfl ?_
  refine wp_iload_n (n := 35) K dX11_liftUponLaid_34 rfl rfl ?_
  refine wp_invV_i (n := 38) K dX11_liftUponLaid_35 rfl cf_X11_277 (c_topOf _ hwo _ _ σ hC.1 hw) rfl rfl rfl (liS rfl) rfl (by decide) ⟨Nat.le_refl _, Nat.le_refl _⟩ (Nat.le_of_ble_eq_true rfl) ?_
  refine wp_invV_qi (n := 41) K dX11_liftUponLaid_38 rfl cf_X11_284 (c_liftOf_a s (cnt 12 (wo L (2 ^ s))) _ hs hcl ht _ _ σ τ b hC.1 hC.2.2.2.2 hR hb hw h2 h5 h4 hV) rfl rfl rfl (liS rfl) rfl (by decide) ⟨Nat.le_refl _, Nat.le_refl _⟩ (Nat.le_of_ble_eq_true rfl) (fun A1 hA1 gA1 => ?_)
  refine ret_qi K dX11_liftUponLaid_41 ?_ rfl ?_ ?_ ⟨Nat.le_refl _, Nat.le_refl _⟩
  · rfl
  · exact hA1
  · exact gA1
theorem borne_wo {σ : Nat → Int} (hw : WS σ) {s L : Nat} (hs : s < 12) : borneB σ s (wo L (2 ^ s)) = borneB σ s L := by
  have hlt : brN σ s < 2 ^ s := by
    have := (hw.2 s hs).2.2.2.1
    unfold brN
    rw [p2_c] at this
    omega
  have e : brN σ s &&& wo L (2 ^ s) = brN σ s &&& L := by
    apply Nat.eq_of_testBit_eq
    intro i
    rw [Nat.testBit_and, Nat.testBit_and, wo_bit, bit_ne]
    by_cases he : s = i
    · subst he; rw [Nat.testBit_lt_two_pow hlt]; rfl
    · simp [he]
  unfold borneB
  rw [e]

theorem c_of (s w : Int) (h1 : InR s) (hw2 : InR w) (S : ST) (M : MT) (σ τ : Nat → Int) (b : Nat) (hA : AS S M σ τ b) (L : Nat) (hL : σ 1 = L) (hL2 : L < 4096) : Ct E1 yX11_of cX11_of 3 (some .int) rm_X11_of [.ref 16, .int (z s), .int (z w)] S M (Qi (ofF σ τ s w) [65, 66] S M (fun M1 => VB 65 M1)) := by
  obtain ⟨hC, hR, hb, hw, h2, h5, h4, hV⟩ := id hA
  have h0 := hw.1
  have eL : M 17 9 = (L : Int) := by rw [hC.2.2.2.2.2.2.2, hL]
  have eN : (σ 1).toNat = L := by omega
  refine Ct.mk [.ref 16, .int (z s), .int (z w)] (by decide) rfl (Nat.le_of_ble_eq_true rfl) (fun X K => ?_)
  unfold ofF at K
  rw [eN] at K
  refine wp_aload_n (n := 1) K dX11_of_0 rfl rfl ?_
  refine wp_getF (n := 4) K dX11_of_1 rfl fl_X11_12 rfl (liS rfl) rfl rfl ?_
  refine wp_getF (n := 7) K dX11_of_4 rfl fl_X11_65 rfl (liS rfl) rfl rfl ?_
  refine wp_iload_n (n := 8) K dX11_of_7 rfl rfl ?_
  refine wp_invV_i (n := 11) K dX11_of_8 rfl cf_X11_163 (c_hasS s h1 _ _ σ hC.1.1 hw.1) rfl rfl rfl (liS rfl) rfl (by decide) ⟨Nat.le_refl _, Nat.le_refl _⟩ (Nat.le_of_ble_eq_true rfl) ?_
  refine wp_if_ne_b (n := 14) K dX11_of_11 rfl (tgt := 16) (by decide) (fun c11 => ?_) (fun c11 => ?_)
  · have c := of_decide_eq_true c11
    rw [if_pos c] at K
    obtain ⟨n, rfl⟩ : ∃ n : Nat, s = n := ⟨s.toNat, by omega⟩
    rw [Int.toNat_natCast] at K
    refine wp_iload_n (n := 17) K dX11_of_16 rfl rfl ?_
    by_cases q : 0 ≤ w ∧ w ≤ 4
    · rcases (show w = 0 ∨ w = 1 ∨ w = 2 ∨ w = 3 ∨ w = 4 by omega) with rfl | rfl | rfl | rfl | rfl
      · refine wp_tswIn K dX11_of_17 (tgt := 52) hw2 (by decide) (by decide) (off := 35) rfl (by decide) ?_
        refine wp_aload_n (n := 53) K dX11_of_52 rfl rfl ?_
        refine wp_getF (n := 56) K dX11_of_53 rfl fl_X11_12 rfl (liS rfl) rfl rfl ?_
        refine wp_iload_n (n := 57) K dX11_of_56 rfl rfl ?_
        refine wp_invV_i (n := 60) K dX11_of_57 rfl cf_X11_164 (c_isLaid n L (by omega) hL2 _ _ eL) rfl rfl rfl (liS rfl) rfl (by decide) ⟨Nat.le_refl _, Nat.le_refl _⟩ (Nat.le_of_ble_eq_true rfl) ?_
        refine wp_if_eq_b (n := 63) K dX11_of_60 rfl (tgt := 67) (by decide) (fun c60 => ?_) (fun c60 => ?_)
        · refine wp_iconst (n := 68) K dX11_of_67 rfl ?_
          refine ret_qi K dX11_of_68 ?_ rfl ?_ ?_ ⟨Nat.le_refl _, Nat.le_refl _⟩
          · rw [c60]; rfl
          · intro a _; rfl
          · exact hV
        · refine wp_iconst (n := 64) K dX11_of_63 rfl ?_
          refine wp_goto K dX11_of_64 (tgt := 68) (by decide) ?_
          refine ret_qi K dX11_of_68 ?_ rfl ?_ ?_ ⟨Nat.le_refl _, Nat.le_refl _⟩
          · rw [c60]; rfl
          · intro a _; rfl
          · exact hV
      · refine wp_tswIn K dX11_of_17 (tgt := 69) hw2 (by decide) (by decide) (off := 52) rfl (by decide) ?_
        refine wp_aload_n (n := 70) K dX11_of_69 rfl rfl ?_
        refine wp_iload_n (n := 71) K dX11_of_70 rfl rfl ?_
        refine wp_invV_qi (n := 74) K dX11_of_71 rfl cf_X11_167 (c_canBeLaid n (by omega) _ _ σ τ b hA L hL hL2) rfl rfl rfl (liS rfl) rfl (by decide) ⟨Nat.le_refl _, Nat.le_refl _⟩ (Nat.le_of_ble_eq_true rfl) (fun A1 hA1 gA1 => ?_)
        refine wp_if_eq_b (n := 77) K dX11_of_74 rfl (tgt := 81) (by decide) (fun c74 => ?_) (fun c74 => ?_)
        · refine wp_iconst (n := 82) K dX11_of_81 rfl ?_
          refine ret_qi K dX11_of_82 ?_ rfl ?_ ?_ ⟨Nat.le_refl _, Nat.le_refl _⟩
          · rw [if_neg (by decide), if_pos rfl, c74]; rfl
          · exact hA1
          · exact gA1
        · refine wp_iconst (n := 78) K dX11_of_77 rfl ?_
          refine wp_goto K dX11_of_78 (tgt := 82) (by decide) ?_
          refine ret_qi K dX11_of_82 ?_ rfl ?_ ?_ ⟨Nat.le_refl _, Nat.le_refl _⟩
          · rw [if_neg (by decide), if_pos rfl, c74]; rfl
          · exact hA1
          · exact gA1
      · refine wp_tswIn K dX11_of_17 (tgt := 83) hw2 (by decide) (by decide) (off := 66) rfl (by decide) ?_
        refine wp_aload_n (n := 84) K dX11_of_83 rfl rfl ?_
        refine wp_iload_n (n := 85) K dX11_of_84 rfl rfl ?_
        refine wp_invV_qi (n := 88) K dX11_of_85 rfl cf_X11_170 (c_liftUponLaid n (by omega) _ _ σ τ b hA L hL hL2) rfl rfl rfl (liS rfl) rfl (by decide) ⟨Nat.le_refl _, Nat.le_refl _⟩ (Nat.le_of_ble_eq_true rfl) (fun A2 hA2 gA2 => ?_)
        refine ret_qi K dX11_of_88 ?_ rfl ?_ ?_ ⟨Nat.le_refl _, Nat.le_refl _⟩
        · rfl
        · exact hA2
        · exact gA2
      · refine wp_tswIn K dX11_of_17 (tgt := 89) hw2 (by decide) (by decide) (off := 72) rfl (by decide) ?_
        refine wp_aload_n (n := 90) K dX11_of_89 rfl rfl ?_
        refine wp_getF (n := 93) K dX11_of_90 rfl fl_X11_36 rfl (liS rfl) rfl rfl ?_
        refine wp_aload_n (n := 94) K dX11_of_93 rfl rfl ?_
        refine wp_getF (n := 97) K dX11_of_94 rfl fl_X11_12 rfl (liS rfl) rfl rfl ?_
        refine wp_iload_n (n := 98) K dX11_of_97 rfl rfl ?_
        refine wp_invV_qi (n := 101) K dX11_of_98 rfl cf_X11_173 (c_quarries n (by omega) _ _ σ τ b hA) rfl rfl rfl (liS rfl) rfl (by decide) ⟨Nat.le_refl _, Nat.le_refl _⟩ (Nat.le_of_ble_eq_true rfl) (fun A3 hA3 gA3 => ?_)
        refine ret_qi K dX11_of_101 ?_ rfl ?_ ?_ ⟨Nat.le_refl _, Nat.le_refl _⟩
        · rfl
        · exact hA3
        · exact gA3
      · refine wp_tswIn K dX11_of_17 (tgt := 102) hw2 (by decide) (by decide) (off := 85) rfl (by decide) ?_
        refine wp_aload_n (n := 103) K dX11_of_102 rfl rfl ?_
        refine wp_getF (n := 106) K dX11_of_103 rfl fl_X11_12 rfl (liS rfl) rfl rfl ?_
        refine wp_getF (n := 109) K dX11_of_106 rfl fl_X11_65 rfl (liS rfl) rfl rfl ?_
        refine wp_iload_n (n := 110) K dX11_of_109 rfl rfl ?_
        refine wp_aload_n (n := 111) K dX11_of_110 rfl rfl ?_
        refine wp_getF (n := 114) K dX11_of_111 rfl fl_X11_12 rfl (liS rfl) rfl rfl ?_
        refine wp_getI (n := 117) K dX11_of_114 rfl fl_X11_177 rfl (liS rfl) rfl ?_
        try simp only [up_same, up_up, up_ne, ne_eq, Nat.reduceEqDiff, not_false_eq_true, Int.reduceToNat, Int.toNat_natCast]
        rw [eL]
        refine wp_invV_i (n := 120) K dX11_of_117 rfl cf_X11_180 (c_isBorne n L (by omega) hL2 _ _ σ hC.1 hw) rfl rfl rfl (liS rfl) rfl (by decide) ⟨Nat.le_refl _, Nat.le_refl _⟩ (Nat.le_of_ble_eq_true rfl) ?_
        refine wp_if_eq_b (n := 123) K dX11_of_120 rfl (tgt := 127) (by decide) (fun c120 => ?_) (fun c120 => ?_)
        · refine wp_iconst (n := 128) K dX11_of_127 rfl ?_
          refine ret_qi K dX11_of_128 ?_ rfl ?_ ?_ ⟨Nat.le_refl _, Nat.le_refl _⟩
          · rw [if_neg (by decide), if_neg (by decide), if_neg (by decide), if_neg (by decide), if_pos rfl, borne_wo hw (by omega), c120]; rfl
          · intro a _; rfl
          · exact hV
        · refine wp_iconst (n := 124) K dX11_of_123 rfl ?_
          refine wp_goto K dX11_of_124 (tgt := 128) (by decide) ?_
          refine ret_qi K dX11_of_128 ?_ rfl ?_ ?_ ⟨Nat.le_refl _, Nat.le_refl _⟩
          · rw [if_neg (by decide), if_neg (by decide), if_neg (by decide), if_neg (by decide), if_pos rfl, borne_wo hw (by omega), c120]; rfl
          · intro a _; rfl
          · exact hV
    · rw [if_neg (by omega), if_neg (by omega), if_neg (by omega), if_neg (by omega), if_neg (by omega)] at K
      refine wp_tswOut K dX11_of_17 (tgt := 129) hw2 (by omega) (by decide) ?_
      refine wp_iconst (n := 130) K dX11_of_129 rfl ?_
      refine ret_qi K dX11_of_130 ?_ rfl ?_ ?_ ⟨Nat.le_refl _, Nat.le_refl _⟩
      · rfl
      · intro a _; rfl
      · exact hV
  · have c := of_decide_eq_false c11
    rw [if_neg c] at K
    refine wp_iconst (n := 15) K dX11_of_14 rfl ?_
    refine ret_qi K dX11_of_15 ?_ rfl ?_ ?_ ⟨Nat.le_refl _, Nat.le_refl _⟩
    · rfl
    · intro a _; rfl
    · exact hV

theorem c_lay (s : Int) (h1 : InR s) (S : ST) (M : MT) (σ τ : Nat → Int) (b : Nat) (hA : AS S M σ τ b) (h6 : 0 ≤ σ 6 ∧ σ 6 ≤ 30) (L : Nat) (hL : σ 1 = L) (hL2 : L < 4096) : (okLay σ τ s → Ct E1 yX11_lay cX11_lay 3 (some .int) rm_X11_lay [.ref 16, .int (z s)] S M (Qi (liftF σ τ s.toNat L) [17, 32, 33, 65, 66] S M (fun M1 => VB 65 M1 ∧ CN M1 (layA σ s.toNat)))) ∧ (¬ okLay σ τ s → Ct E1 yX11_lay cX11_lay 3 (some .int) rm_X11_lay [.ref 16, .int (z s)] S M (Qi (-1) [65, 66] S M (fun M1 => VB 65 M1))) := by
  obtain ⟨hC, hR, hb, hw, h2, h5, h4, hV⟩ := id hA
  have h0 := hw.1
  have eN : (σ 1).toNat = L := by omega
  
  refine ⟨fun c => ?_, fun c => ?_⟩
  · obtain ⟨c1, c2⟩ := c
    obtain ⟨n, rfl⟩ : ∃ n : Nat, s = n := ⟨s.toNat, by omega⟩
    rw [eN] at c2
    rw [Int.toNat_natCast] at c2 ⊢
    have hnb : L.testBit n = false := by
      rw [mayF_L, Bool.and_eq_true] at c2
      simpa using c2.1
    have ewo : wo L (2 ^ n) = L := by
      apply Nat.eq_of_testBit_eq
      intro i
      rw [wo_bit, bit_ne]
      by_cases he : n = i
      · subst he; simp [hnb]
      · simp [he]
    have hp : (2 ^ n : Nat) < 4096 := Nat.pow_lt_pow_right (by decide) (show n < 12 by omega)
    refine Ct.mk [.ref 16, .int (z (n : Int)), mkV] (by decide) rfl (Nat.le_of_ble_eq_true rfl) (fun X K => ?_)
    refine wp_aload_n (n := 1) K dX11_lay_0 rfl rfl ?_
    refine wp_getF (n := 4) K dX11_lay_1 rfl fl_X11_12 rfl (liS rfl) rfl rfl ?_
    refine wp_getF (n := 7) K dX11_lay_4 rfl fl_X11_65 rfl (liS rfl) rfl rfl ?_
    refine wp_iload_n (n := 8) K dX11_lay_7 rfl rfl ?_
    refine wp_invV_i (n := 11) K dX11_lay_8 rfl cf_X11_163 (c_hasS _ h1 _ _ σ hC.1.1 hw.1) rfl rfl rfl (liS rfl) rfl (by decide) ⟨Nat.le_refl _, Nat.le_refl _⟩ (Nat.le_of_ble_eq_true rfl) ?_
    refine wp_if_eq_b (n := 14) K dX11_lay_11 rfl (tgt := 22) (by decide) (fun c11 => ?_) (fun c11 => ?_)
    · have := of_decide_eq_false c11; omega
    · refine wp_aload_n (n := 15) K dX11_lay_14 rfl rfl ?_
      refine wp_iload_n (n := 16) K dX11_lay_15 rfl rfl ?_
      refine wp_invV_qi (n := 19) K dX11_lay_16 rfl cf_X11_167 (c_canBeLaid n (by omega) _ _ σ τ b hA L hL hL2) rfl rfl rfl (liS rfl) rfl (by decide) ⟨Nat.le_refl _, Nat.le_refl _⟩ (Nat.le_of_ble_eq_true rfl) (fun A1 hA1 gA1 => ?_)
      refine wp_if_ne_b (n := 22) K dX11_lay_19 rfl (tgt := 24) (by decide) (fun c19 => ?_) (fun c19 => ?_)
      · have hA' := hA.mem hA1 gA1
        refine wp_aload_n (n := 25) K dX11_lay_24 rfl rfl ?_
        refine wp_iload_n (n := 26) K dX11_lay_25 rfl rfl ?_
        refine wp_invV_qi (n := 29) K dX11_lay_26 rfl cf_X11_170 (c_liftUponLaid n (by omega) _ _ σ τ b hA' L hL hL2) rfl rfl rfl (liS rfl) rfl (by decide) ⟨Nat.le_refl _, Nat.le_refl _⟩ (Nat.le_of_ble_eq_true rfl) (fun A2 hA2 gA2 => ?_)
        have hA'' := hA'.mem hA2 gA2
        rw [ewo]
        refine wp_istore_n (n := 30) K dX11_lay_29 rfl (by decide) ?_
        refine wp_aload_n (n := 31) K dX11_lay_30 rfl rfl ?_
        refine wp_getF (n := 34) K dX11_lay_31 rfl fl_X11_12 rfl (liS rfl) rfl rfl ?_
        refine wp_getF (n := 37) K dX11_lay_34 rfl fl_X11_187 rfl (liS rfl) rfl rfl ?_
        refine wp_aload_n (n := 38) K dX11_lay_37 rfl rfl ?_
        refine wp_getF (n := 41) K dX11_lay_38 rfl fl_X11_12 rfl (liS rfl) rfl rfl ?_
        refine wp_getI (n := 44) K dX11_lay_41 rfl fl_X11_177 rfl (liS rfl) rfl ?_
        try simp only [up_same, up_up, up_ne, ne_eq, Nat.reduceEqDiff, not_false_eq_true, Int.reduceToNat, Int.toNat_natCast]
        refine wp_aload_n (n := 45) K dX11_lay_44 rfl rfl ?_
        refine wp_getF (n := 48) K dX11_lay_45 rfl fl_X11_12 rfl (liS rfl) rfl rfl ?_
        refine wp_getF (n := 51) K dX11_lay_48 rfl fl_X11_106 rfl (liS rfl) rfl rfl ?_
        rw [hA''.1.2.2.2.2.2.2.2]
        refine wp_invV_qn (n := 54) K dX11_lay_51 rfl cf_X11_191 (c_keep _ _ σ h6 hA''.1.2.2.2.1 hA''.1.2.1) rfl rfl rfl (liS rfl) rfl (by decide) ⟨Nat.le_refl _, Nat.le_refl _⟩ (Nat.le_of_ble_eq_true rfl) (fun A3 hA3 gA3 => ?_)
        refine wp_aload_n (n := 55) K dX11_lay_54 rfl rfl ?_
        refine wp_getF (n := 58) K dX11_lay_55 rfl fl_X11_12 rfl (liS rfl) rfl rfl ?_
        refine wp_dup (n := 59) K dX11_lay_58 rfl rfl ?_
        refine wp_getI (n := 62) K dX11_lay_59 rfl fl_X11_177 rfl (liS rfl) rfl ?_
        try simp only [up_same, up_up, up_ne, ne_eq, Nat.reduceEqDiff, not_false_eq_true, Int.reduceToNat, Int.toNat_natCast]
        refine wp_iconst (n := 63) K dX11_lay_62 rfl ?_
        refine wp_iload_n (n := 64) K dX11_lay_63 rfl rfl ?_
        refine wp_ishl (n := 65) K dX11_lay_64 rfl ?_
        refine wp_ior (n := 66) K dX11_lay_65 rfl ?_
        have hk := keep_rest h6 hA''.1 hA3 gA3
        rw [hk.2.2.2.2.2.2.2, keepA_h σ h6 1 (by decide) (by decide), hL, bshl_1 (by omega), bor_n (by omega) (by omega)]
        refine wp_putI (n := 69) K dX11_lay_66 rfl fl_X11_177 rfl (liS rfl) (Or.inl rfl) rfl rfl ?_
        try simp only [up_same, up_up, up_ne, ne_eq, Nat.reduceEqDiff, not_false_eq_true, Int.reduceToNat, Int.toNat_natCast]
        refine wp_iload_n (n := 70) K dX11_lay_69 rfl rfl ?_
        refine ret_qi K dX11_lay_70 ?_ rfl ?_ ?_ ⟨Nat.le_refl _, Nat.le_refl _⟩
        · rfl
        · intro a ha
          simp only [List.mem_cons, List.not_mem_nil, or_false, not_or] at ha
          rw [up_ne _ _ (by simp [ha]), hA3 a (by simp [ha]), hA2 a (by simp [ha]), hA1 a (by simp [ha])]
        · refine ⟨fun j hj => ?_, ?_⟩
          · rw [up_ne _ _ (by decide), hA3 _ (by decide)]; exact gA2 j hj
          · unfold layA; rw [eN]; exact laid_rest hk _
      · rw [c2] at c19; cases c19
  · refine Ct.mk [.ref 16, .int (z s), mkV] (by decide) rfl (Nat.le_of_ble_eq_true rfl) (fun X K => ?_)
    refine wp_aload_n (n := 1) K dX11_lay_0 rfl rfl ?_
    refine wp_getF (n := 4) K dX11_lay_1 rfl fl_X11_12 rfl (liS rfl) rfl rfl ?_
    refine wp_getF (n := 7) K dX11_lay_4 rfl fl_X11_65 rfl (liS rfl) rfl rfl ?_
    refine wp_iload_n (n := 8) K dX11_lay_7 rfl rfl ?_
    refine wp_invV_i (n := 11) K dX11_lay_8 rfl cf_X11_163 (c_hasS _ h1 _ _ σ hC.1.1 hw.1) rfl rfl rfl (liS rfl) rfl (by decide) ⟨Nat.le_refl _, Nat.le_refl _⟩ (Nat.le_of_ble_eq_true rfl) ?_
    refine wp_if_eq_b (n := 14) K dX11_lay_11 rfl (tgt := 22) (by decide) (fun c11 => ?_) (fun c11 => ?_)
    · refine wp_iconst (n := 23) K dX11_lay_22 rfl ?_
      refine ret_qi K dX11_lay_23 ?_ rfl ?_ ?_ ⟨Nat.le_refl _, Nat.le_refl _⟩
      · rfl
      · intro a _; rfl
      · exact hV
    · have c1 := of_decide_eq_true c11
      obtain ⟨n, rfl⟩ : ∃ n : Nat, s = n := ⟨s.toNat, by omega⟩
      refine wp_aload_n (n := 15) K dX11_lay_14 rfl rfl ?_
      refine wp_iload_n (n := 16) K dX11_lay_15 rfl rfl ?_
      refine wp_invV_qi (n := 19) K dX11_lay_16 rfl cf_X11_167 (c_canBeLaid n (by omega) _ _ σ τ b hA L hL hL2) rfl rfl rfl (liS rfl) rfl (by decide) ⟨Nat.le_refl _, Nat.le_refl _⟩ (Nat.le_of_ble_eq_true rfl) (fun A1 hA1 gA1 => ?_)
      refine wp_if_ne_b (n := 22) K dX11_lay_19 rfl (tgt := 24) (by decide) (fun c19 => ?_) (fun c19 => ?_)
      · exact absurd ⟨c1, by rw [eN]; exact c19⟩ c
      · refine wp_iconst (n := 23) K dX11_lay_22 rfl ?_
        refine ret_qi K dX11_lay_23 ?_ rfl ?_ ?_ ⟨Nat.le_refl _, Nat.le_refl _⟩
        · rfl
        · exact hA1
        · exact gA1
