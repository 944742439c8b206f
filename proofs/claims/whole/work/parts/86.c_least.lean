/-! what stood in the rows before has no part in the answers -/
theorem cmK_W {σ τ : Nat → Int} {set n : Nat} {C C' : Nat → Int} (h : ∀ j, j < 2 ^ n → C j = C' j) : ∀ m j, j < 2 ^ n → cmK σ τ set C m j = cmK σ τ set C' m j := by
  intro m
  induction m with
  | zero => exact h
  | succ m ih =>
    intro j hj
    unfold cmK
    split
    · by_cases he : j = set ||| 2 ^ m
      · subst he; rw [up_same, up_same]
      · rw [up_ne _ _ he, up_ne _ _ he]; exact ih j hj
    · exact ih j hj
theorem cmT_W {σ τ : Nat → Int} {n : Nat} (C C' : Nat → Int) : ∀ k, k ≤ 2 ^ n → ∀ j, j < 2 ^ n → cmT σ τ n C k j = cmT σ τ n C' k j := by
  intro k
  induction k with
  | zero => intro _ j hj; unfold cmT cm0; rw [if_pos hj, if_pos hj]
  | succ k ih =>
    intro hk j hj
    have ih := ih (by omega)
    unfold cmT
    rw [ih k (by omega)]
    split
    · exact cmK_W ih n j hj
    · exact ih j hj
theorem soT_W {σ τ : Nat → Int} {n : Nat} (C C' : Nat → Int) : ∀ k, k ≤ 2 ^ n → soT σ τ n C k = soT σ τ n C' k := by
  intro k
  induction k with
  | zero => intro _; rfl
  | succ k ih =>
    intro hk
    unfold soT
    rw [ih (by omega), cmT_W C C' k (by omega) k (by omega)]
theorem lvK_W {σ τ : Nat → Int} {so set : Nat} {C C' Lf Lg : Nat → Int} (hC : C set = C' set) (h : ∀ s, so.testBit s = true → set.testBit s = false → Lf (set ||| 2 ^ s) = Lg (set ||| 2 ^ s)) : ∀ m, lvK σ τ so C Lf set m = lvK σ τ so C' Lg set m := by
  intro m
  induction m with
  | zero => rfl
  | succ m ih =>
    unfold lvK
    rw [ih, hC]
    by_cases hb : so.testBit m = true ∧ mayF σ τ m set = true
    · have hnb : set.testBit m = false := by have := hb.2; rw [mayF_L, Bool.and_eq_true] at this; simpa using this.1
      rw [h m hb.1 hnb]
    · rw [if_neg (fun q => hb ⟨q.1, q.2.2.1⟩), if_neg (fun q => hb ⟨q.1, q.2.2.1⟩)]
theorem lf_W {σ τ : Nat → Int} {n so : Nat} (hso : so < 2 ^ n) {C C' L L' : Nat → Int} (hC : ∀ j, j < 2 ^ n → C j = C' j) : ∀ d set, set + d = so → lfD σ τ n so C L (so + 1) set = lfD σ τ n so C' L' (so + 1) set := by
  intro d
  induction d using Nat.strongRecOn with
  | _ d ih =>
    intro set hsd
    rw [lf_fix (σ := σ) (τ := τ) (n := n) (C := C) (L0 := L) (set := set) (so := so) (by omega), lf_fix (σ := σ) (τ := τ) (n := n) (C := C') (L0 := L') (set := set) (so := so) (by omega)]
    unfold lvV
    split
    · rename_i hw
      refine lvK_W (hC set (by omega)) (fun s hs hb' => ?_) n
      have hle := sub_or hw hs
      have hgt := or_gt hb'
      exact ih (so - (set ||| 2 ^ s)) (by omega) _ (by omega)
    · rfl
theorem nsF_W {σ τ : Nat → Int} {so set : Nat} {Lf Lg : Nat → Int} (hsub : wo set so = 0) (h : ∀ j, j ≤ so → Lf j = Lg j) : ∀ d s, nsF σ τ so Lf set d s = nsF σ τ so Lg set d s := by
  intro d
  induction d with
  | zero => intro s; rfl
  | succ d ih =>
    intro s
    unfold nsF
    rw [ih, h set (wo0_le hsub)]
    by_cases hb : so.testBit s = true
    · rw [h _ (sub_or hsub hb)]
    · rw [if_neg (fun q => hb q.1), if_neg (fun q => hb q.1)]
theorem ptS_W {σ τ : Nat → Int} {so : Nat} {Lf Lg : Nat → Int} (h : ∀ j, j ≤ so → Lf j = Lg j) (m : Nat) (hp : ∀ k, k ≤ m → wo (ptS σ τ so Lf k) so = 0) : ∀ k, k ≤ m → ptS σ τ so Lf k = ptS σ τ so Lg k := by
  intro k
  induction k with
  | zero => intro _; rfl
  | succ k ih =>
    intro hk
    have ih := ih (by omega)
    unfold ptS
    rw [nsF_W (hp k (by omega)) h, ih]
theorem least_W {σ τ : Nat → Int} (hL : LW σ τ) {N : Nat} (hN : N ≤ 12) (C0 L0 : Nat → Int) (w : Int) : leastF σ τ (soT σ τ N C0 (2 ^ N)) (lfD σ τ N (soT σ τ N C0 (2 ^ N)) (cmT σ τ N C0 (2 ^ N)) L0 (soT σ τ N C0 (2 ^ N) + 1)) w = leastF σ τ (so0 σ τ N) (Lf0 σ τ N) w := by
  have hp := p12 hN
  have es : soT σ τ N C0 (2 ^ N) = so0 σ τ N := soT_W C0 _ (2 ^ N) (Nat.le_refl _)
  rw [es]
  have hsl : so0 σ τ N < 2 ^ N := (soT_lt σ τ N (fun _ => 0) (2 ^ N)).2 (by omega)
  have hl : ∀ j, j ≤ so0 σ τ N → Lf0 σ τ N j = lfD σ τ N (so0 σ τ N) (cmT σ τ N C0 (2 ^ N)) L0 (so0 σ τ N + 1) j := fun j hj => lf_W hsl (fun i hi => cmT_W _ C0 (2 ^ N) (Nat.le_refl _) i hi) (so0 σ τ N - j) j (by omega)
  have hpo := pt_ok hL hN (C0 := fun _ => 0) (L0 := fun _ => 0) (so := so0 σ τ N) (C := cm00 σ τ N) (Lf := Lf0 σ τ N) rfl rfl rfl
  generalize lfD σ τ N (so0 σ τ N) (cmT σ τ N C0 (2 ^ N)) L0 (so0 σ τ N + 1) = Lg at hl ⊢
  unfold leastF
  rw [← hl 0 (by omega)]
  by_cases h : 0 ≤ w ∧ w < (cnt 12 (so0 σ τ N) : Int)
  · rw [if_pos h, if_pos h]
    have hq : ∀ k, k ≤ w.toNat → wo (ptS σ τ (so0 σ τ N) (Lf0 σ τ N) k) (so0 σ τ N) = 0 := fun k hk => (hpo k (by omega)).1.2.1
    rw [← ptS_W hl w.toNat hq w.toNat (Nat.le_refl _), nsF_W (hq _ (Nat.le_refl _)) hl]
  · rw [if_neg h, if_neg h]
def PKV (M : MT) (σ τ : Nat → Int) : Prop := VB 72 M ∧ (M 67 4 = 0 ∨ (M 67 4 = 1 ∧ LC M σ τ ∧ PV M σ τ (σ 0).toNat))

theorem c_least (w : Int) (h1 : InR w) (S : ST) (M : MT) (σ τ : Nat → Int) (b : Nat) (hC : CN M σ) (hR : RB S M σ τ b) (hb : b = 34 ∨ 91 ≤ b) (hL : LW σ τ) (h4 : 0 ≤ σ 4 ∧ σ 4 ≤ 4) (h7 : 0 ≤ σ 7 ∧ σ 7 ≤ 8) (hso : ∀ u : Nat, u < 12 → InR (σ (100 + 2 * u)) ∧ InR (σ (101 + 2 * u))) (hk : PKV M σ τ) : Ct E1 yX11_least cX11_least 2 (some .int) rm_X11_least [.ref 16, .int (z w)] S M (Qi (leastF σ τ (so0 σ τ (σ 0).toNat) (Lf0 σ τ (σ 0).toNat) w) [67, 68, 69, 70, 72, 73] S M (fun M1 => PKV M1 σ τ)) := by
  have hw0 := hL.1.1
  have hcl := cnt_le 12 (so0 σ τ (σ 0).toNat)
  refine Ct.mk [.ref 16, .int (z w)] (by decide) rfl (Nat.le_of_ble_eq_true rfl) (fun X K => ?_)
  refine wp_aload_n (n := 1) K dX11_least_0 rfl rfl ?_
  refine wp_getF (n := 4) K dX11_least_1 rfl fl_X11_43 rfl (liS rfl) rfl rfl ?_
  refine wp_aload_n (n := 5) K dX11_least_4 rfl rfl ?_
  refine wp_getF (n := 8) K dX11_least_5 rfl fl_X11_12 rfl (liS rfl) rfl rfl ?_
  refine wp_invV_qn (n := 11) K dX11_least_8 rfl cf_X11_218 (c_prepare (σ 0).toNat (by omega) _ _ σ τ b hC hR hb hL h4 hk.1 (by omega) h7 hso hk.2) rfl rfl rfl (liS rfl) rfl (by decide) ⟨Nat.le_refl _, Nat.le_refl _⟩ (Nat.le_of_ble_eq_true rfl) (fun A1 hA1 gA1 => ?_)
  obtain ⟨p1, p2, p3, p4, p5, p6, p7⟩ := gA1
  have hpk : PKV A1 σ τ := ⟨p1, Or.inr ⟨p3, p2, p4, p5, p6, p7⟩⟩
  unfold leastF at K
  refine wp_iload_n (n := 12) K dX11_least_11 rfl rfl ?_
  refine wp_iconst (n := 13) K dX11_least_12 rfl ?_
  refine wp_icmp_ne (n := 16) K dX11_least_13 rfl (tgt := 24) (by decide) ⟨by omega, by omega⟩ ⟨by omega, by omega⟩ (fun c13 => ?_) (fun c13 => ?_)
  · refine wp_iload_n (n := 25) K dX11_least_24 rfl rfl ?_
    refine wp_bipush (n := 27) K dX11_least_25 rfl rfl ?_
    refine wp_icmp_ne (n := 30) K dX11_least_27 rfl (tgt := 38) (by decide) ⟨by omega, by omega⟩ ⟨by omega, by omega⟩ (fun c27 => ?_) (fun c27 => ?_)
    · rw [if_neg c13, if_neg c27] at K
      refine wp_iload_n (n := 39) K dX11_least_38 rfl rfl ?_
      refine wp_if_lt (n := 42) K dX11_least_39 rfl (tgt := 65) (by decide) ⟨by omega, by omega⟩ (fun c39 => ?_) (fun c39 => ?_)
      · rw [if_neg (by omega)] at K
        refine wp_bipush (n := 67) K dX11_least_65 rfl rfl ?_
        refine ret_qi K dX11_least_67 ?_ rfl ?_ ?_ ⟨Nat.le_refl _, Nat.le_refl _⟩
        · rfl
        · exact hA1
        · exact hpk
      · refine wp_iload_n (n := 43) K dX11_least_42 rfl rfl ?_
        refine wp_aload_n (n := 44) K dX11_least_43 rfl rfl ?_
        refine wp_getF (n := 47) K dX11_least_44 rfl fl_X11_43 rfl (liS rfl) rfl rfl ?_
        refine wp_getI (n := 50) K dX11_least_47 rfl fl_X11_222 rfl (liS rfl) rfl ?_
        try simp only [up_same, up_up, up_ne, ne_eq, Nat.reduceEqDiff, not_false_eq_true, Int.reduceToNat, Int.toNat_natCast]
        rw [p4]
        refine wp_icmp_ge (n := 53) K dX11_least_50 rfl (tgt := 65) (by decide) ⟨by omega, by omega⟩ ⟨by omega, by omega⟩ (fun c50 => ?_) (fun c50 => ?_)
        · rw [if_neg (by omega)] at K
          refine wp_bipush (n := 67) K dX11_least_65 rfl rfl ?_
          refine ret_qi K dX11_least_67 ?_ rfl ?_ ?_ ⟨Nat.le_refl _, Nat.le_refl _⟩
          · rfl
          · exact hA1
          · exact hpk
        · rw [if_pos (by omega)] at K
          refine wp_aload_n (n := 54) K dX11_least_53 rfl rfl ?_
          refine wp_getF (n := 57) K dX11_least_54 rfl fl_X11_43 rfl (liS rfl) rfl rfl ?_
          refine wp_getF (n := 60) K dX11_least_57 rfl fl_X11_226 rfl (liS rfl) rfl rfl ?_
          refine wp_iload_n (n := 61) K dX11_least_60 rfl rfl ?_
          refine wp_iald (n := 62) K dX11_least_61 rfl rfl (liS rfl) ⟨by omega, by omega, by omega⟩ ?_
          try simp only [up_same, up_up, up_ne, ne_eq, Nat.reduceEqDiff, not_false_eq_true, Int.reduceToNat, Int.toNat_natCast]
          refine wp_goto K dX11_least_62 (tgt := 67) (by decide) ?_
          refine ret_qi K dX11_least_67 ?_ rfl ?_ ?_ ⟨Nat.le_refl _, Nat.le_refl _⟩
          · exact p7 w.toNat (by omega)
          · exact hA1
          · exact hpk
    · subst c27
      refine wp_aload_n (n := 31) K dX11_least_30 rfl rfl ?_
      refine wp_getF (n := 34) K dX11_least_31 rfl fl_X11_43 rfl (liS rfl) rfl rfl ?_
      refine wp_getI (n := 37) K dX11_least_34 rfl fl_X11_223 rfl (liS rfl) rfl ?_
      try simp only [up_same, up_up, up_ne, ne_eq, Nat.reduceEqDiff, not_false_eq_true, Int.reduceToNat, Int.toNat_natCast]
      refine ret_qi K dX11_least_37 ?_ rfl ?_ ?_ ⟨Nat.le_refl _, Nat.le_refl _⟩
      · exact p5
      · exact hA1
      · exact hpk
  · subst c13
    refine wp_aload_n (n := 17) K dX11_least_16 rfl rfl ?_
    refine wp_getF (n := 20) K dX11_least_17 rfl fl_X11_43 rfl (liS rfl) rfl rfl ?_
    refine wp_getI (n := 23) K dX11_least_20 rfl fl_X11_222 rfl (liS rfl) rfl ?_
    try simp only [up_same, up_up, up_ne, ne_eq, Nat.reduceEqDiff, not_false_eq_true, Int.reduceToNat, Int.toNat_natCast]
    refine ret_qi K dX11_least_23 ?_ rfl ?_ ?_ ⟨Nat.le_refl _, Nat.le_refl _⟩
    · exact p4
    · exact hA1
    · exact hpk

theorem c_orders (S : ST) (M : MT) (σ τ W : Nat → Int) (b : Nat) (hC : CN M σ) (hR : RB S M σ τ b) (hb : b = 34 ∨ 91 ≤ b) (hL : LW σ τ) (h4 : 0 ≤ σ 4 ∧ σ 4 ≤ 4) (h7 : 0 ≤ σ 7 ∧ σ 7 ≤ 8) (hso : ∀ u : Nat, u < 12 → InR (σ (100 + 2 * u)) ∧ InR (σ (101 + 2 * u))) (hk : PKV M σ τ) : Ct E1 yX11_orders cX11_orders 1 (some .long) rm_X11_orders [.ref 16] S M (Ql (ordF σ τ (σ 0).toNat W) [67, 68, 69, 70, 72, 73] S M (fun M1 => PKV M1 σ τ)) := by
  have hw0 := hL.1.1
  have hp := p12 (n := (σ 0).toNat) (by omega)
  have ew : ordF σ τ (σ 0).toNat W = ordF σ τ (σ 0).toNat (fun _ => 0) := wyT_W _ _ _ (Nat.le_refl _) _ (by omega)
  rw [ew]
  refine Ct.mk [.ref 16] (by decide) rfl (Nat.le_of_ble_eq_true rfl) (fun X K => ?_)
  refine wp_aload_n (n := 1) K dX11_orders_0 rfl rfl ?_
  refine wp_getF (n := 4) K dX11_orders_1 rfl fl_X11_43 rfl (liS rfl) rfl rfl ?_
  refine wp_aload_n (n := 5) K dX11_orders_4 rfl rfl ?_
  refine wp_getF (n := 8) K dX11_orders_5 rfl fl_X11_12 rfl (liS rfl) rfl rfl ?_
  refine wp_invV_qn (n := 11) K dX11_orders_8 rfl cf_X11_218 (c_prepare (σ 0).toNat (by omega) _ _ σ τ b hC hR hb hL h4 hk.1 (by omega) h7 hso hk.2) rfl rfl rfl (liS rfl) rfl (by decide) ⟨Nat.le_refl _, Nat.le_refl _⟩ (Nat.le_of_ble_eq_true rfl) (fun A1 hA1 gA1 => ?_)
  refine wp_aload_n (n := 12) K dX11_orders_11 rfl rfl ?_
  refine wp_getF (n := 15) K dX11_orders_12 rfl fl_X11_43 rfl (liS rfl) rfl rfl ?_
  refine wp_getL (n := 18) K dX11_orders_15 rfl fl_X11_229 rfl (liS rfl) rfl ?_
  try simp only [up_same, up_up, up_ne, ne_eq, Nat.reduceEqDiff, not_false_eq_true, Int.reduceToNat, Int.toNat_natCast]
  refine ret_ql K dX11_orders_18 ?_ rfl ?_ ?_ ⟨Nat.le_refl _, Nat.le_refl _⟩
  · exact gA1.2.2.2.2.2.1
  · exact hA1
  · obtain ⟨p1, p2, p3, p4⟩ := gA1
    exact ⟨p1, Or.inr ⟨p3, p2, p4⟩⟩

theorem c_heard (w : Int) (h1 : InR w) (S : ST) (M : MT) (σ τ W : Nat → Int) (b : Nat) (hC : CN M σ) (hR : RB S M σ τ b) (hb : b = 34 ∨ 91 ≤ b) (hL : LW σ τ) (h4 : 0 ≤ σ 4 ∧ σ 4 ≤ 4) (h7 : 0 ≤ σ 7 ∧ σ 7 ≤ 8) (hso : ∀ u : Nat, u < 12 → InR (σ (100 + 2 * u)) ∧ InR (σ (101 + 2 * u))) (hk : PKV M σ τ) : Ct E1 yX11_heard cX11_heard 2 (some .long) rm_X11_heard [.ref 16, .int (z w)] S M (Ql (heardF (wyT (okW σ τ true) (σ 0).toNat (σ 7).toNat W (2 ^ (σ 0).toNat)) (σ 7).toNat (σ 0).toNat w) [67, 68, 69, 70, 72, 73] S M (fun M1 => PKV M1 σ τ)) := by
  have hw0 := hL.1.1
  have hp := p12 (n := (σ 0).toNat) (by omega)
  refine Ct.mk [.ref 16, .int (z w)] (by decide) rfl (Nat.le_of_ble_eq_true rfl) (fun X K => ?_)
  unfold heardF at K
  have k9 : ¬ (0 ≤ w ∧ w ≤ 2) → Wp E1 X 9 [.ref 16, .int (z w)] [] S M := fun c => by
    rw [if_neg (by omega), if_neg (by omega), if_neg (by omega)] at K
    refine wp_ldc2 (n := 12) K dX11_heard_9 rfl (-1) co_X11_243 ?_
    refine ret_ql K dX11_heard_12 ?_ rfl ?_ ?_ ⟨Nat.le_refl _, Nat.le_refl _⟩
    · rfl
    · intro a _; rfl
    · exact hk
  refine wp_iload_n (n := 1) K dX11_heard_0 rfl rfl ?_
  refine wp_if_lt (n := 4) K dX11_heard_1 rfl (tgt := 9) (by decide) ⟨by omega, by omega⟩ (fun c1 => ?_) (fun c1 => ?_)
  · exact k9 (by omega)
  · refine wp_iload_n (n := 5) K dX11_heard_4 rfl rfl ?_
    refine wp_iconst (n := 6) K dX11_heard_5 rfl ?_
    refine wp_icmp_le (n := 9) K dX11_heard_6 rfl (tgt := 13) (by decide) ⟨by omega, by omega⟩ ⟨by omega, by omega⟩ (fun c6 => ?_) (fun c6 => ?_)
    · refine wp_aload_n (n := 14) K dX11_heard_13 rfl rfl ?_
      refine wp_getF (n := 17) K dX11_heard_14 rfl fl_X11_43 rfl (liS rfl) rfl rfl ?_
      refine wp_aload_n (n := 18) K dX11_heard_17 rfl rfl ?_
      refine wp_getF (n := 21) K dX11_heard_18 rfl fl_X11_12 rfl (liS rfl) rfl rfl ?_
      refine wp_invV_qn (n := 24) K dX11_heard_21 rfl cf_X11_218 (c_prepare (σ 0).toNat (by omega) _ _ σ τ b hC hR hb hL h4 hk.1 (by omega) h7 hso hk.2) rfl rfl rfl (liS rfl) rfl (by decide) ⟨Nat.le_refl _, Nat.le_refl _⟩ (Nat.le_of_ble_eq_true rfl) (fun A1 hA1 gA1 => ?_)
      obtain ⟨p1, p2, p3, p4⟩ := gA1
      have hA : AQ S A1 σ τ b := ⟨hC.mem (fun a u1 u2 _ => hA1 a (by simp; omega)), hR.mem hb (fun a ha => hA1 a (by simp; omega)), hb, hL, h4, p1, p2⟩
      refine wp_aload_n (n := 25) K dX11_heard_24 rfl rfl ?_
      refine wp_getF (n := 28) K dX11_heard_25 rfl fl_X11_43 rfl (liS rfl) rfl rfl ?_
      refine wp_aload_n (n := 29) K dX11_heard_28 rfl rfl ?_
      refine wp_getF (n := 32) K dX11_heard_29 rfl fl_X11_12 rfl (liS rfl) rfl rfl ?_
      refine wp_invV_qn (n := 35) K dX11_heard_32 rfl cf_X11_245 (c_listen (σ 0).toNat (σ 7).toNat (by omega) (by omega) _ _ σ τ b hA (by omega) (by omega) hso W) rfl rfl rfl (liS rfl) rfl (by decide) ⟨Nat.le_refl _, Nat.le_refl _⟩ (Nat.le_of_ble_eq_true rfl) (fun A2 hA2 gA2 => ?_)
      obtain ⟨l1, l2, l3, l4, l5, l6⟩ := gA2
      have hfin : ∀ a, a ∉ [67, 68, 69, 70, 72, 73] → A2 a = M a := fun a ha => by
        simp only [List.mem_cons, List.not_mem_nil, or_false, not_or] at ha
        rw [hA2 a (by simp [ha]), hA1 a (by simp [ha])]
      have hpk : PKV A2 σ τ := ⟨l1, Or.inr ⟨by rw [l3 4 (by decide)]; exact p3, l2, by rw [l3 5 (by decide)]; exact p4.1, by rw [l3 6 (by decide)]; exact p4.2.1, by rw [l3 7 (by decide)]; exact p4.2.2.1, by rw [hA2 70 (by decide)]; exact p4.2.2.2⟩⟩
      have hrr := hrT_r (W := wyT (okW σ τ true) (σ 0).toNat (σ 7).toNat W (2 ^ (σ 0).toNat)) (most := (σ 7).toNat) (all := 2 ^ (σ 0).toNat - 1) (N := (σ 0).toNat) (by omega) (fun j hj => wyT_r (okW_b σ τ true) (by omega) (Nat.le_refl _) hj) (2 ^ (σ 0).toNat) (Nat.le_refl _)
      generalize hrT (wyT (okW σ τ true) (σ 0).toNat (σ 7).toNat W (2 ^ (σ 0).toNat)) (σ 7).toNat (2 ^ (σ 0).toNat - 1) (2 ^ (σ 0).toNat) = R at *
      refine wp_iload_n (n := 36) K dX11_heard_35 rfl rfl ?_
      refine wp_if_ne (n := 39) K dX11_heard_36 rfl (tgt := 47) (by decide) ⟨by omega, by omega⟩ (fun c36 => ?_) (fun c36 => ?_)
      · rw [if_neg c36] at K
        refine wp_iload_n (n := 48) K dX11_heard_47 rfl rfl ?_
        refine wp_iconst (n := 49) K dX11_heard_48 rfl ?_
        refine wp_icmp_ne (n := 52) K dX11_heard_49 rfl (tgt := 63) (by decide) ⟨by omega, by omega⟩ ⟨by omega, by omega⟩ (fun c49 => ?_) (fun c49 => ?_)
        · rw [if_pos (by omega)] at K
          refine wp_aload_n (n := 64) K dX11_heard_63 rfl rfl ?_
          refine wp_getF (n := 67) K dX11_heard_64 rfl fl_X11_43 rfl (liS rfl) rfl rfl ?_
          refine wp_getI (n := 70) K dX11_heard_67 rfl fl_X11_254 rfl (liS rfl) rfl ?_
          try simp only [up_same, up_up, up_ne, ne_eq, Nat.reduceEqDiff, not_false_eq_true, Int.reduceToNat, Int.toNat_natCast]
          rw [l6]
          refine wp_i2l (n := 71) K dX11_heard_70 rfl ⟨by omega, by omega⟩ ?_
          refine ret_ql K dX11_heard_71 ?_ rfl ?_ ?_ ⟨Nat.le_refl _, Nat.le_refl _⟩
          · rfl
          · exact hfin
          · exact hpk
        · rw [if_neg (by omega), if_pos c49] at K
          have h9 : InR (A2 67 9) := by rw [l5]; split <;> exact ⟨by omega, by omega⟩
          refine wp_aload_n (n := 53) K dX11_heard_52 rfl rfl ?_
          refine wp_getF (n := 56) K dX11_heard_53 rfl fl_X11_43 rfl (liS rfl) rfl rfl ?_
          refine wp_getI (n := 59) K dX11_heard_56 rfl fl_X11_251 rfl (liS rfl) rfl ?_
          try simp only [up_same, up_up, up_ne, ne_eq, Nat.reduceEqDiff, not_false_eq_true, Int.reduceToNat, Int.toNat_natCast]
          refine wp_i2l (n := 60) K dX11_heard_59 rfl h9 ?_
          refine wp_goto K dX11_heard_60 (tgt := 71) (by decide) ?_
          refine ret_ql K dX11_heard_71 ?_ rfl ?_ ?_ ⟨Nat.le_refl _, Nat.le_refl _⟩
          · exact l5
          · exact hfin
          · exact hpk
      · subst c36
        refine wp_aload_n (n := 40) K dX11_heard_39 rfl rfl ?_
        refine wp_getF (n := 43) K dX11_heard_40 rfl fl_X11_43 rfl (liS rfl) rfl rfl ?_
        refine wp_getL (n := 46) K dX11_heard_43 rfl fl_X11_248 rfl (liS rfl) rfl ?_
        try simp only [up_same, up_up, up_ne, ne_eq, Nat.reduceEqDiff, not_false_eq_true, Int.reduceToNat, Int.toNat_natCast]
        refine ret_ql K dX11_heard_46 ?_ rfl ?_ ?_ ⟨Nat.le_refl _, Nat.le_refl _⟩
        · exact l4
        · exact hfin
        · exact hpk
    · exact k9 (by omega)
