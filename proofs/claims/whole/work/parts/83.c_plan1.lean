def fillF (f : Nat → Int) (N : Nat) (v : Int) : Nat → Int := fun j => if j < N then v else f j

theorem j_fill (a N : Nat) (v : Int) (S : ST) (M : MT) (hs : shp E1 S a = (2, N)) (hl : live E1 S a) (hf : ∀ i, fin E1 a i = none) (hN : N < 100000) : Ct E1 yJ7_fill_53178 cJ7_fill_53178 4 none rm_J7_fill_53178 [.ref a, .int (z v)] S M (Pn S (up M a (fillF (M a) N v))) := by
  refine Ct.mk [.ref a, .int (z v), mkV, mkV] (by decide) rfl (Nat.le_of_ble_eq_true rfl) (fun X K => ?_)
  refine wp_iconst (n := 1) K dJ7_fill_53178_0 rfl ?_
  refine wp_istore_n (n := 2) K dJ7_fill_53178_1 rfl (by decide) ?_
  refine wp_aload_n (n := 3) K dJ7_fill_53178_2 rfl rfl ?_
  refine wp_alen (n := 4) K dJ7_fill_53178_3 rfl hs (by decide) hl ?_
  refine wp_istore_n (n := 5) K dJ7_fill_53178_4 rfl (by decide) ?_
  have e0 : up M a (fillF (M a) 0 v) = M := by
    have : fillF (M a) 0 v = M a := by funext j; unfold fillF; rw [if_neg (by omega)]
    rw [this, up_self]
  have key := dn N (Q := fun k => Wp E1 X 5 [.ref a, .int (z v), .int (z (k : Int)), .int (z (N : Int))] [] S (up M a (fillF (M a) k v))) (fun k hk ih => ?_) 0 (by omega)
  · rw [e0] at key; exact key
  refine wp_iload_n (n := 6) K dJ7_fill_53178_5 rfl rfl ?_
  refine wp_iload_n (n := 7) K dJ7_fill_53178_6 rfl rfl ?_
  refine wp_icmp_ge (n := 10) K dJ7_fill_53178_7 rfl (tgt := 20) (by decide) ⟨by omega, by omega⟩ ⟨by omega, by omega⟩ (fun c7 => ?_) (fun c7 => ?_)
  · have : k = N := by omega
    subst this
    refine ret_n K dJ7_fill_53178_20 rfl ?_ ⟨Nat.le_refl _, Nat.le_refl _⟩
    · rfl
  · refine wp_aload_n (n := 11) K dJ7_fill_53178_10 rfl rfl ?_
    refine wp_iload_n (n := 12) K dJ7_fill_53178_11 rfl rfl ?_
    refine wp_iload_n (n := 13) K dJ7_fill_53178_12 rfl rfl ?_
    refine wp_iast (n := 14) K dJ7_fill_53178_13 rfl hs hl hf ⟨by omega, by omega, by omega⟩ ?_
    try simp only [up_same, up_up, up_ne, ne_eq, Nat.reduceEqDiff, not_false_eq_true, Int.reduceToNat, Int.toNat_natCast]
    refine wp_iinc (n := 17) K dJ7_fill_53178_14 rfl rfl (by decide) ?_
    refine wp_goto K dJ7_fill_53178_17 (tgt := 5) (by decide) ?_
    have e1 : up (fillF (M a) k v) k v = fillF (M a) (k + 1) v := by
      funext j; unfold up fillF
      by_cases h1 : j = k
      · rw [if_pos h1, if_pos (by omega)]
      · rw [if_neg h1]
        by_cases h2 : j < k
        · rw [if_pos h2, if_pos (by omega)]
        · rw [if_neg h2, if_neg (by omega)]
    rw [e1]
    exact ih (by omega)
def lvF (σ τ : Nat → Int) (s ld : Nat) (top : Int) : Int := if letL σ τ s ld top = true then liftL σ τ s ld top else -1
/-- what was asked is kept rightly -/
def LC (M : MT) (σ τ : Nat → Int) : Prop := ∀ s ld tp, s < 12 → ld < 12 → tp < 22 → M 68 ((s * 12 + ld) * 22 + tp) = -2 ∨ M 68 ((s * 12 + ld) * 22 + tp) = lvF σ τ s ld ((tp : Int) - 1)
def AQ (S : ST) (M : MT) (σ τ : Nat → Int) (b : Nat) : Prop := CN M σ ∧ RB S M σ τ b ∧ (b = 34 ∨ 91 ≤ b) ∧ LW σ τ ∧ (0 ≤ σ 4 ∧ σ 4 ≤ 4) ∧ VB 72 M ∧ LC M σ τ
theorem AQ.mem {S : ST} {M M' : MT} {σ τ : Nat → Int} {b : Nat} (h : AQ S M σ τ b) (e : ∀ a, a ∉ [67, 68, 69, 70, 72, 73] → M' a = M a) (hV : VB 72 M') (hc : LC M' σ τ) : AQ S M' σ τ b :=
  ⟨h.1.mem (fun a h1 h2 _ => e a (by simp; omega)), h.2.1.mem h.2.2.1 (fun a ha => e a (by simp; omega)), h.2.2.1, h.2.2.2.1, h.2.2.2.2.1, hV, hc⟩
def upF (σ τ : Nat → Int) (s set : Nat) : Int := if mayF σ τ s set = true then liftF σ τ s set else -1
theorem liftL_r {σ τ : Nat → Int} (hL : LW σ τ) {s ld : Nat} (hs : s < 12) (top : Int) : 0 ≤ liftL σ τ s ld top ∧ liftL σ τ s ld top ≤ 9999 := by
  unfold liftL
  obtain ⟨w1, w2, -⟩ := hL.1.2 s hs
  split
  · have h1 := Int.mul_nonneg w1.1 w2.1
    have h2 : σ (10 + 5 * s) * σ (11 + 5 * s) ≤ 99 * 20 := Int.mul_le_mul w1.2 w2.2 w2.1 (by omega)
    omega
  · omega
theorem cnt11 {s set : Nat} (hs : s < 12) (h : set.testBit s = false) : cnt 12 set ≤ 11 := by
  have h1 := cnt_or 12 set s h
  rw [if_pos hs] at h1
  have := cnt_le 12 (set ||| 2 ^ s)
  omega
theorem lvF_r {σ τ : Nat → Int} (hL : LW σ τ) {s ld : Nat} (hs : s < 12) (top : Int) : -1 ≤ lvF σ τ s ld top ∧ lvF σ τ s ld top ≤ 9999 := by
  unfold lvF
  have := liftL_r hL (ld := ld) hs top
  split <;> omega

theorem c_liftUpon (s set : Nat) (hs : s < 12) (hset : set < 4096) (hb0 : set.testBit s = false) (S : ST) (M : MT) (σ τ : Nat → Int) (b : Nat) (hA : AQ S M σ τ b) : Ct E1 yX3_liftUpon cX3_liftUpon 8 (some .int) rm_X3_liftUpon [.ref 67, .ref 17, .int (z (s : Int)), .int (z (set : Int)), .int (z (topT σ set (σ 0).toNat))] S M (Qi (upF σ τ s set) [68, 72, 73] S M (fun M1 => VB 72 M1 ∧ LC M1 σ τ)) := by
  obtain ⟨hC, hR, hb, hL, h4, hV, hc⟩ := id hA
  have hw := hL.1
  have ht := topT_r hw set (σ 0).toNat (by have := hw.1; omega)
  have hcl := cnt11 hs hb0
  have hlr := lvF_r hL (ld := cnt 12 set) hs (topT σ set (σ 0).toNat)
  have hup : upF σ τ s set = if borneB σ s set = true then lvF σ τ s (cnt 12 set) (topT σ set (σ 0).toNat) else -1 := by
    unfold upF lvF
    rw [mayF_L, hb0, ← liftF_L]
    cases borneB σ s set <;> cases letL σ τ s (cnt 12 set) (topT σ set (σ 0).toNat) <;> rfl
  rw [hup]
  generalize htop : topT σ set (σ 0).toNat = top at *
  generalize hld : cnt 12 set = ld at *
  obtain ⟨tp, htp⟩ : ∃ tp : Nat, top = (tp : Int) - 1 := ⟨(top + 1).toNat, by omega⟩
  generalize hat : (s * 12 + ld) * 22 + tp = at0
  have hat3 : at0 < 3168 := by omega
  have hcc := hc s ld tp hs (by omega) (by omega)
  rw [hat, ← htp] at hcc
  have hlc : ∀ (B : MT), (∀ a, a ∉ [72, 73] → B a = M a) → LC (up B 68 (up (B 68) at0 (lvF σ τ s ld top))) σ τ := fun B hB s' ld' tp' g1 g2 g3 => by
    rw [up_same]
    by_cases he : (s' * 12 + ld') * 22 + tp' = at0
    · rw [he, up_same]
      right
      have e1 : s' = s := by omega
      have e2 : ld' = ld := by omega
      have e3 : tp' = tp := by omega
      rw [e1, e2, e3, htp]
    · rw [up_ne _ _ he, hB _ (by decide)]; exact hc s' ld' tp' g1 g2 g3
  refine Ct.mk [.ref 67, .ref 17, .int (z (s : Int)), .int (z (set : Int)), .int (z top), mkV, mkV, mkV] (by decide) rfl (Nat.le_of_ble_eq_true rfl) (fun X K => ?_)
  refine wp_aload_n (n := 1) K dX3_liftUpon_0 rfl rfl ?_
  refine wp_getF (n := 4) K dX3_liftUpon_1 rfl fl_X3_58 rfl (liS rfl) rfl rfl ?_
  refine wp_iload_n (n := 5) K dX3_liftUpon_4 rfl rfl ?_
  refine wp_iload_n (n := 6) K dX3_liftUpon_5 rfl rfl ?_
  refine wp_invV_i (n := 9) K dX3_liftUpon_6 rfl cf_X3_116 (c_isBorne s set hs hset _ _ σ hC.1 hw) rfl rfl rfl (liS rfl) rfl (by decide) ⟨Nat.le_refl _, Nat.le_refl _⟩ (Nat.le_of_ble_eq_true rfl) ?_
  refine wp_if_ne_b (n := 12) K dX3_liftUpon_9 rfl (tgt := 14) (by decide) (fun c9 => ?_) (fun c9 => ?_)
  · rw [if_pos c9] at K
    refine wp_iload_n (n := 15) K dX3_liftUpon_14 rfl rfl ?_
    refine wp_invS_i (n := 18) K dX3_liftUpon_15 rfl cf_X3_88 (j_bitCount set hset _ _) rfl rfl (by decide) ⟨Nat.le_refl _, Nat.le_refl _⟩ (Nat.le_of_ble_eq_true rfl) ?_
    rw [hld]
    refine wp_istore (n := 20) K dX3_liftUpon_18 rfl (by decide) ?_
    refine wp_iload_n (n := 21) K dX3_liftUpon_20 rfl rfl ?_
    refine wp_bipush (n := 23) K dX3_liftUpon_21 rfl rfl ?_
    refine wp_imul (n := 24) K dX3_liftUpon_23 rfl ?_
    refine wp_iload (n := 26) K dX3_liftUpon_24 rfl rfl ?_
    refine wp_iadd (n := 27) K dX3_liftUpon_26 rfl ?_
    refine wp_bipush (n := 29) K dX3_liftUpon_27 rfl rfl ?_
    refine wp_imul (n := 30) K dX3_liftUpon_29 rfl ?_
    refine wp_iload (n := 32) K dX3_liftUpon_30 rfl rfl ?_
    refine wp_iadd (n := 33) K dX3_liftUpon_32 rfl ?_
    refine wp_iconst (n := 34) K dX3_liftUpon_33 rfl ?_
    refine wp_iadd (n := 35) K dX3_liftUpon_34 rfl ?_
    rw [show ((s : Int) * 12 + (ld : Int)) * 22 + top + 1 = (at0 : Int) by omega]
    refine wp_istore (n := 37) K dX3_liftUpon_35 rfl (by decide) ?_
    refine wp_iload (n := 39) K dX3_liftUpon_37 rfl rfl ?_
    refine wp_if_lt (n := 42) K dX3_liftUpon_39 rfl (tgt := 52) (by decide) ⟨by omega, by omega⟩ (fun c39 => ?_) (fun c39 => ?_)
    · omega
    · refine wp_iload (n := 44) K dX3_liftUpon_42 rfl rfl ?_
      refine wp_aload_n (n := 45) K dX3_liftUpon_44 rfl rfl ?_
      refine wp_getF (n := 48) K dX3_liftUpon_45 rfl fl_X3_11 rfl (liS rfl) rfl rfl ?_
      refine wp_alen (n := 49) K dX3_liftUpon_48 rfl rfl (by decide) (liS rfl) ?_
      refine wp_icmp_lt (n := 52) K dX3_liftUpon_49 rfl (tgt := 54) (by decide) ⟨by omega, by omega⟩ ⟨by omega, by omega⟩ (fun c49 => ?_) (fun c49 => ?_)
      · refine wp_aload_n (n := 55) K dX3_liftUpon_54 rfl rfl ?_
        refine wp_getF (n := 58) K dX3_liftUpon_55 rfl fl_X3_11 rfl (liS rfl) rfl rfl ?_
        refine wp_iload (n := 60) K dX3_liftUpon_58 rfl rfl ?_
        refine wp_iald (n := 61) K dX3_liftUpon_60 rfl rfl (liS rfl) ⟨by omega, by omega, by omega⟩ ?_
        try simp only [up_same, up_up, up_ne, ne_eq, Nat.reduceEqDiff, not_false_eq_true, Int.reduceToNat, Int.toNat_natCast]
        refine wp_bipush (n := 63) K dX3_liftUpon_61 rfl rfl ?_
        have hr68 : InR (M 68 at0) := by rcases hcc with q | q <;> rw [q] <;> exact ⟨by omega, by omega⟩
        refine wp_icmp_ne (n := 66) K dX3_liftUpon_63 rfl (tgt := 110) (by decide) hr68 ⟨by omega, by omega⟩ (fun c63 => ?_) (fun c63 => ?_)
        · have hv : M 68 at0 = lvF σ τ s ld top := by rcases hcc with q | q; exact absurd q c63; exact q
          refine wp_aload_n (n := 111) K dX3_liftUpon_110 rfl rfl ?_
          refine wp_getF (n := 114) K dX3_liftUpon_111 rfl fl_X3_11 rfl (liS rfl) rfl rfl ?_
          refine wp_iload (n := 116) K dX3_liftUpon_114 rfl rfl ?_
          refine wp_iald (n := 117) K dX3_liftUpon_116 rfl rfl (liS rfl) ⟨by omega, by omega, by omega⟩ ?_
          try simp only [up_same, up_up, up_ne, ne_eq, Nat.reduceEqDiff, not_false_eq_true, Int.reduceToNat, Int.toNat_natCast]
          refine ret_qi K dX3_liftUpon_117 ?_ rfl ?_ ?_ ⟨Nat.le_refl _, Nat.le_refl _⟩
          · exact hv
          · intro a _; rfl
          · exact ⟨hV, hc⟩
        · refine wp_aload_n (n := 67) K dX3_liftUpon_66 rfl rfl ?_
          refine wp_getF (n := 70) K dX3_liftUpon_67 rfl fl_X3_24 rfl (liS rfl) rfl rfl ?_
          refine wp_aload_n (n := 71) K dX3_liftUpon_70 rfl rfl ?_
          refine wp_iload_n (n := 72) K dX3_liftUpon_71 rfl rfl ?_
          refine wp_iload (n := 74) K dX3_liftUpon_72 rfl rfl ?_
          refine wp_iload (n := 76) K dX3_liftUpon_74 rfl rfl ?_
          refine wp_invV_qi (n := 79) K dX3_liftUpon_76 rfl cf_X3_119 (c_isLet_p s ld top hs (by omega) ht _ _ σ τ b hC.1 hC.2.2.2.2 hR hb hw hL.2.1 hL.2.2.1 h4 hV) rfl rfl rfl (liS rfl) rfl (by decide) ⟨Nat.le_refl _, Nat.le_refl _⟩ (Nat.le_of_ble_eq_true rfl) (fun A1 hA1 gA1 => ?_)
          refine wp_istore (n := 81) K dX3_liftUpon_79 rfl (by decide) ?_
          refine wp_aload_n (n := 82) K dX3_liftUpon_81 rfl rfl ?_
          refine wp_getF (n := 85) K dX3_liftUpon_82 rfl fl_X3_11 rfl (liS rfl) rfl rfl ?_
          refine wp_iload (n := 87) K dX3_liftUpon_85 rfl rfl ?_
          have hA' := hA.mem (M' := A1) (fun a ha => hA1 a (by simp at ha ⊢; omega)) gA1 (fun s' ld' tp' g1 g2 g3 => by rw [hA1 _ (by decide)]; exact hc s' ld' tp' g1 g2 g3)
          refine wp_iload (n := 89) K dX3_liftUpon_87 rfl rfl ?_
          refine wp_if_eq_b (n := 92) K dX3_liftUpon_89 rfl (tgt := 108) (by decide) (fun c89 => ?_) (fun c89 => ?_)
          · refine wp_iconst (n := 109) K dX3_liftUpon_108 rfl ?_
            refine wp_iast (n := 110) K dX3_liftUpon_109 rfl rfl (liS rfl) (fun _ => rfl) ⟨by omega, by omega, by omega⟩ ?_
            try simp only [up_same, up_up, up_ne, ne_eq, Nat.reduceEqDiff, not_false_eq_true, Int.reduceToNat, Int.toNat_natCast]
            refine wp_aload_n (n := 111) K dX3_liftUpon_110 rfl rfl ?_
            refine wp_getF (n := 114) K dX3_liftUpon_111 rfl fl_X3_11 rfl (liS rfl) rfl rfl ?_
            refine wp_iload (n := 116) K dX3_liftUpon_114 rfl rfl ?_
            refine wp_iald (n := 117) K dX3_liftUpon_116 rfl rfl (liS rfl) ⟨by omega, by omega, by omega⟩ ?_
            try simp only [up_same, up_up, up_ne, ne_eq, Nat.reduceEqDiff, not_false_eq_true, Int.reduceToNat, Int.toNat_natCast]
            refine ret_qi K dX3_liftUpon_117 ?_ rfl ?_ ?_ ⟨Nat.le_refl _, Nat.le_refl _⟩
            · unfold lvF; rw [c89]; simp [up]
            · intro a ha
              simp only [List.mem_cons, List.not_mem_nil, or_false, not_or] at ha
              rw [up_ne _ _ (by simp [ha]), hA1 a (by simp [ha])]
            · have e : (-1 : Int) = lvF σ τ s ld top := by unfold lvF; rw [c89]; rfl
              refine ⟨fun j hj => by rw [up_ne _ _ (by decide)]; exact gA1 j hj, ?_⟩
              rw [e]
              exact hlc A1 hA1
          · obtain ⟨hC', hR', hb', hL', h4', hV', hc'⟩ := hA'
            refine wp_aload_n (n := 93) K dX3_liftUpon_92 rfl rfl ?_
            refine wp_getF (n := 96) K dX3_liftUpon_93 rfl fl_X3_24 rfl (liS rfl) rfl rfl ?_
            refine wp_aload_n (n := 97) K dX3_liftUpon_96 rfl rfl ?_
            refine wp_iload_n (n := 98) K dX3_liftUpon_97 rfl rfl ?_
            refine wp_iload (n := 100) K dX3_liftUpon_98 rfl rfl ?_
            refine wp_iload (n := 102) K dX3_liftUpon_100 rfl rfl ?_
            refine wp_invV_qi (n := 105) K dX3_liftUpon_102 rfl cf_X3_123 (c_liftOf_p s ld top hs (by omega) ht _ _ σ τ b hC'.1 hC'.2.2.2.2 hR' hb hw hL.2.1 hL.2.2.1 h4 hV') rfl rfl rfl (liS rfl) rfl (by decide) ⟨Nat.le_refl _, Nat.le_refl _⟩ (Nat.le_of_ble_eq_true rfl) (fun A2 hA2 gA2 => ?_)
            refine wp_goto K dX3_liftUpon_105 (tgt := 109) (by decide) ?_
            have hA12 : ∀ a, a ∉ [72, 73] → A2 a = M a := fun a ha => by rw [hA2 a ha, hA1 a ha]
            have e : liftL σ τ s ld top = lvF σ τ s ld top := by unfold lvF; rw [c89]; rfl
            refine wp_iast (n := 110) K dX3_liftUpon_109 rfl rfl (liS rfl) (fun _ => rfl) ⟨by omega, by omega, by omega⟩ ?_
            try simp only [up_same, up_up, up_ne, ne_eq, Nat.reduceEqDiff, not_false_eq_true, Int.reduceToNat, Int.toNat_natCast]
            refine wp_aload_n (n := 111) K dX3_liftUpon_110 rfl rfl ?_
            refine wp_getF (n := 114) K dX3_liftUpon_111 rfl fl_X3_11 rfl (liS rfl) rfl rfl ?_
            refine wp_iload (n := 116) K dX3_liftUpon_114 rfl rfl ?_
            refine wp_iald (n := 117) K dX3_liftUpon_116 rfl rfl (liS rfl) ⟨by omega, by omega, by omega⟩ ?_
            try simp only [up_same, up_up, up_ne, ne_eq, Nat.reduceEqDiff, not_false_eq_true, Int.reduceToNat, Int.toNat_natCast]
            refine ret_qi K dX3_liftUpon_117 ?_ rfl ?_ ?_ ⟨Nat.le_refl _, Nat.le_refl _⟩
            · rw [← e]
            · intro a ha
              simp only [List.mem_cons, List.not_mem_nil, or_false, not_or] at ha
              rw [up_ne _ _ (by simp [ha]), hA12 a (by simp [ha])]
            · refine ⟨fun j hj => by rw [up_ne _ _ (by decide)]; exact gA2 j hj, ?_⟩
              rw [e]
              exact hlc A2 hA12
      · omega
  · rw [if_neg (by rw [c9]; decide)] at K
    refine wp_iconst (n := 13) K dX3_liftUpon_12 rfl ?_
    refine ret_qi K dX3_liftUpon_13 ?_ rfl ?_ ?_ ⟨Nat.le_refl _, Nat.le_refl _⟩
    · rfl
    · intro a _; rfl
    · exact ⟨hV, hc⟩

theorem c_spread (set N : Nat) (bs0 : Bool) (hN : N ≤ 12) (hset : set < 2 ^ N) (S : ST) (M : MT) (σ τ : Nat → Int) (b : Nat) (hA : AQ S M σ τ b) (h0 : σ 0 = N) (hU : bs0 = true → (cnt 12 set : Int) < σ 7) (h7 : 0 ≤ σ 7 ∧ σ 7 ≤ 8) (hso : ∀ u : Nat, u < 12 → InR (σ (100 + 2 * u)) ∧ InR (σ (101 + 2 * u))) : Ct E1 yX3_spread cX3_spread 9 none rm_X3_spread [.ref 67, .ref 17, .int (z (set : Int)), .int (z (bI bs0))] S M (Qn [68, 69, 72, 73] S M (fun M1 => VB 72 M1 ∧ LC M1 σ τ ∧ M1 69 = wyK (okW σ τ bs0) set (M 69) N)) := by
  have hp := p12 hN
  have hw := hA.2.2.2.1.1
  have eN : (σ 0).toNat = N := by omega
  have hcl := cnt_le 12 set
  refine Ct.mk [.ref 67, .ref 17, .int (z (set : Int)), .int (z (bI bs0)), mkV, mkV, mkV, mkV, mkV] (by decide) rfl (Nat.le_of_ble_eq_true rfl) (fun X K => ?_)
  refine wp_aload_n (n := 1) K dX3_spread_0 rfl rfl ?_
  refine wp_getF (n := 4) K dX3_spread_1 rfl fl_X3_58 rfl (liS rfl) rfl rfl ?_
  refine wp_astore (n := 6) K dX3_spread_4 rfl (by decide) (by decide) ?_
  refine wp_iload_n (n := 7) K dX3_spread_6 rfl rfl ?_
  refine wp_invS_i (n := 10) K dX3_spread_7 rfl cf_X3_88 (j_bitCount set (by omega) _ _) rfl rfl (by decide) ⟨Nat.le_refl _, Nat.le_refl _⟩ (Nat.le_of_ble_eq_true rfl) ?_
  refine wp_istore (n := 12) K dX3_spread_10 rfl (by decide) ?_
  refine wp_aload (n := 14) K dX3_spread_12 rfl rfl ?_
  refine wp_iload_n (n := 15) K dX3_spread_14 rfl rfl ?_
  refine wp_invV_i (n := 18) K dX3_spread_15 rfl cf_X3_96 (c_topOf set (by omega) _ _ σ hA.1.1 hw) rfl rfl rfl (liS rfl) rfl (by decide) ⟨Nat.le_refl _, Nat.le_refl _⟩ (Nat.le_of_ble_eq_true rfl) ?_
  refine wp_istore (n := 20) K dX3_spread_18 rfl (by decide) ?_
  refine wp_iconst (n := 21) K dX3_spread_20 rfl ?_
  refine wp_istore (n := 23) K dX3_spread_21 rfl (by decide) ?_
  refine (dn N (Q := fun i => ∀ (B : MT) (w8 : Value), (∀ a, a ∉ [68, 69, 72, 73] → B a = M a) → VB 72 B → LC B σ τ → B 69 = wyK (okW σ τ bs0) set (M 69) i → Wp E1 X 23 [.ref 67, .ref 17, .int (z (set : Int)), .int (z (bI bs0)), .ref 18, .int (z (cnt 12 set : Int)), .int (z (topT σ set (σ 0).toNat)), .int (z (i : Int)), w8] [] S B) (fun i hi ih B w8 hB hBv hBc hB69 => ?_) 0 (by omega)) M mkV (fun _ _ => rfl) hA.2.2.2.2.2.1 hA.2.2.2.2.2.2 rfl
  have hAB : AQ S B σ τ b := hA.mem (fun a ha => hB a (by simp at ha ⊢; omega)) hBv hBc
  have hw69 : ∀ k, wyK (okW σ τ bs0) set (M 69) k set = M 69 set := fun k => by
    induction k with
    | zero => rfl
    | succ k ihk =>
      unfold wyK
      split
      · rename_i q
        have := okW_b σ τ bs0 k set q
        have := or_gt this
        rw [up_ne _ _ (by omega)]; exact ihk
      · exact ihk
  refine wp_iload (n := 25) K dX3_spread_23 rfl rfl ?_
  refine wp_aload (n := 27) K dX3_spread_25 rfl rfl ?_
  refine wp_getI (n := 30) K dX3_spread_27 rfl fl_X3_64 rfl (liS rfl) rfl ?_
  try simp only [up_same, up_up, up_ne, ne_eq, Nat.reduceEqDiff, not_false_eq_true, Int.reduceToNat, Int.toNat_natCast]
  rw [show B 18 5 = (N : Int) by rw [hAB.1.1.1, h0]]
  refine wp_icmp_ge (n := 33) K dX3_spread_30 rfl (tgt := 118) (by decide) ⟨by omega, by omega⟩ ⟨by omega, by omega⟩ (fun c30 => ?_) (fun c30 => ?_)
  · have : i = N := by omega
    subst this
    refine ret_qn K dX3_spread_118 rfl ?_ ?_ ⟨Nat.le_refl _, Nat.le_refl _⟩
    · exact hB
    · exact ⟨hBv, hBc, hB69⟩
  · have hi12 : i < 12 := by omega
    have ih := ih (by omega)
    have e0 : wyK (okW σ τ bs0) set (M 69) (i + 1) = if okW σ τ bs0 i set = true then up (wyK (okW σ τ bs0) set (M 69) i) (set ||| 2 ^ i) (wyK (okW σ τ bs0) set (M 69) i (set ||| 2 ^ i) + M 69 set) else wyK (okW σ τ bs0) set (M 69) i := rfl
    rw [e0] at ih
    have hno : okW σ τ bs0 i set = false → ∀ (B' : MT) (w8 : Value), (∀ a, a ∉ [68, 72, 73] → B' a = B a) → VB 72 B' → LC B' σ τ → Wp E1 X 112 [.ref 67, .ref 17, .int (z (set : Int)), .int (z (bI bs0)), .ref 18, .int (z (cnt 12 set : Int)), .int (z (topT σ set (σ 0).toNat)), .int (z (i : Int)), w8] [] S B' := fun hf B' w8 hB' v1 v2 => by
      rw [if_neg (by rw [hf]; decide)] at ih
      refine wp_iinc (n := 115) K dX3_spread_112 rfl rfl (by decide) ?_
      refine wp_goto K dX3_spread_115 (tgt := 23) (by decide) ?_
      exact ih B' w8 (fun a ha => by rw [hB' a (by simp at ha ⊢; omega), hB a ha]) v1 v2 (by rw [hB' _ (by decide)]; exact hB69)
    have hyes : set.testBit i = false → (bs0 = true → decide (σ (100 + 2 * cnt 12 set) ≤ σ (11 + 5 * i) ∧ σ (11 + 5 * i) ≤ σ (101 + 2 * cnt 12 set)) = true) → Wp E1 X 66 [.ref 67, .ref 17, .int (z (set : Int)), .int (z (bI bs0)), .ref 18, .int (z (cnt 12 set : Int)), .int (z (topT σ set (σ 0).toNat)), .int (z (i : Int)), w8] [] S B := fun hnb hf => by
      have hok : okW σ τ bs0 i set = mayF σ τ i set := by
        unfold okW
        cases bs0
        · simp
        · rw [hf rfl]; simp
      refine wp_iconst (n := 67) K dX3_spread_66 rfl ?_
      refine wp_goto K dX3_spread_67 (tgt := 71) (by decide) ?_
      refine wp_istore (n := 73) K dX3_spread_71 rfl (by decide) ?_
      refine wp_iload (n := 75) K dX3_spread_73 rfl rfl ?_
      refine wp_if_eq (n := 78) K dX3_spread_75 rfl (tgt := 112) (by decide) ⟨by omega, by omega⟩ (fun c75 => ?_) (fun c75 => ?_)
      · omega
      · refine wp_aload_n (n := 79) K dX3_spread_78 rfl rfl ?_
        refine wp_aload_n (n := 80) K dX3_spread_79 rfl rfl ?_
        refine wp_iload (n := 82) K dX3_spread_80 rfl rfl ?_
        refine wp_iload_n (n := 83) K dX3_spread_82 rfl rfl ?_
        refine wp_iload (n := 85) K dX3_spread_83 rfl rfl ?_
        refine wp_invV_qi (n := 88) K dX3_spread_85 rfl cf_X3_112 (c_liftUpon i set hi12 (by omega) hnb _ _ σ τ b hAB) rfl rfl rfl (liS rfl) rfl (by decide) ⟨Nat.le_refl _, Nat.le_refl _⟩ (Nat.le_of_ble_eq_true rfl) (fun A1 hA1 gA1 => ?_)
        refine wp_iconst (n := 89) K dX3_spread_88 rfl ?_
        have hur : -1 ≤ upF σ τ i set ∧ upF σ τ i set ≤ 9999 := by
          unfold upF
          have := liftF_r hAB.2.2.2.1 hi12 set
          split <;> omega
        refine wp_icmp_eq (n := 92) K dX3_spread_89 rfl (tgt := 112) (by decide) ⟨by omega, by omega⟩ ⟨by omega, by omega⟩ (fun c89 => ?_) (fun c89 => ?_)
        · refine hno ?_ A1 _ hA1 gA1.1 gA1.2
          rw [hok]
          cases hq : mayF σ τ i set with
          | false => rfl
          | true =>
            unfold upF at c89
            rw [hq, if_pos rfl] at c89
            have := liftF_r hAB.2.2.2.1 hi12 set
            omega
        · have hm : mayF σ τ i set = true := by
            cases hq : mayF σ τ i set with
            | true => rfl
            | false => unfold upF at c89; rw [hq] at c89; exact absurd rfl c89
          rw [if_pos (by rw [hok]; exact hm)] at ih
          have hpi : 2 ^ i < 4096 := Nat.pow_lt_pow_right (by decide) hi12
          have hor : set ||| 2 ^ i < 4096 := Nat.or_lt_two_pow (n := 12) (by omega) hpi
          have hA69 : A1 69 = wyK (okW σ τ bs0) set (M 69) i := by rw [hA1 _ (by decide)]; exact hB69
          refine wp_aload_n (n := 93) K dX3_spread_92 rfl rfl ?_
          refine wp_getF (n := 96) K dX3_spread_93 rfl fl_X3_15 rfl (liS rfl) rfl rfl ?_
          refine wp_iload_n (n := 97) K dX3_spread_96 rfl rfl ?_
          refine wp_iconst (n := 98) K dX3_spread_97 rfl ?_
          refine wp_iload (n := 100) K dX3_spread_98 rfl rfl ?_
          refine wp_ishl (n := 101) K dX3_spread_100 rfl ?_
          refine wp_ior (n := 102) K dX3_spread_101 rfl ?_
          rw [bshl_1 (by omega), bor_n (by omega) (by omega)]
          refine wp_dup2 (n := 103) K dX3_spread_102 rfl rfl rfl ?_
          refine wp_iald (n := 104) K dX3_spread_103 rfl rfl (liS rfl) ⟨by omega, by omega, by omega⟩ ?_
          try simp only [up_same, up_up, up_ne, ne_eq, Nat.reduceEqDiff, not_false_eq_true, Int.reduceToNat, Int.toNat_natCast]
          refine wp_aload_n (n := 105) K dX3_spread_104 rfl rfl ?_
          refine wp_getF (n := 108) K dX3_spread_105 rfl fl_X3_15 rfl (liS rfl) rfl rfl ?_
          refine wp_iload_n (n := 109) K dX3_spread_108 rfl rfl ?_
          refine wp_iald (n := 110) K dX3_spread_109 rfl rfl (liS rfl) ⟨by omega, by omega, by omega⟩ ?_
          try simp only [up_same, up_up, up_ne, ne_eq, Nat.reduceEqDiff, not_false_eq_true, Int.reduceToNat, Int.toNat_natCast]
          refine wp_iadd (n := 111) K dX3_spread_110 rfl ?_
          refine wp_iast (n := 112) K dX3_spread_111 rfl rfl (liS rfl) (fun _ => rfl) ⟨by omega, by omega, by omega⟩ ?_
          try simp only [up_same, up_up, up_ne, ne_eq, Nat.reduceEqDiff, not_false_eq_true, Int.reduceToNat, Int.toNat_natCast]
          rw [hA69, hw69]
          refine wp_iinc (n := 115) K dX3_spread_112 rfl rfl (by decide) ?_
          refine wp_goto K dX3_spread_115 (tgt := 23) (by decide) ?_
          refine ih _ _ (fun a ha => ?_) (fun j hj => by rw [up_ne _ _ (by decide)]; exact gA1.1 j hj) (fun s' ld' tp' g1 g2 g3 => by rw [up_ne _ _ (by decide)]; exact gA1.2 s' ld' tp' g1 g2 g3) (by rw [up_same])
          simp only [List.mem_cons, List.not_mem_nil, or_false, not_or] at ha
          rw [up_ne _ _ (by simp [ha]), hA1 a (by simp [ha]), hB a (by simp [ha])]
    refine wp_iload_n (n := 34) K dX3_spread_33 rfl rfl ?_
    refine wp_iload (n := 36) K dX3_spread_34 rfl rfl ?_
    refine wp_ishr (n := 37) K dX3_spread_36 rfl ?_
    refine wp_iconst (n := 38) K dX3_spread_37 rfl ?_
    refine wp_iand (n := 39) K dX3_spread_38 rfl ?_
    rw [bit_n (by omega) (by omega)]
    have hbt := Bool.toNat_le (set.testBit i)
    refine wp_if_ne (n := 42) K dX3_spread_39 rfl (tgt := 70) (by decide) ⟨by omega, by omega⟩ (fun c39 => ?_) (fun c39 => ?_)
    · have ht : set.testBit i = true := by cases hq : set.testBit i with
        | true => rfl
        | false => rw [hq] at c39; exact absurd rfl c39
      have hf : okW σ τ bs0 i set = false := by
        unfold okW; rw [mayF_L, ht]; simp
      refine wp_iconst (n := 71) K dX3_spread_70 rfl ?_
      refine wp_istore (n := 73) K dX3_spread_71 rfl (by decide) ?_
      refine wp_iload (n := 75) K dX3_spread_73 rfl rfl ?_
      refine wp_if_eq (n := 78) K dX3_spread_75 rfl (tgt := 112) (by decide) ⟨by omega, by omega⟩ (fun c75 => ?_) (fun c75 => ?_)
      · exact hno hf B _ (fun _ _ => rfl) hBv hBc
      · omega
    · have hnb : set.testBit i = false := by cases hq : set.testBit i with
        | false => rfl
        | true => rw [hq] at c39; cases c39
      refine wp_iload_n (n := 43) K dX3_spread_42 rfl rfl ?_
      refine wp_if_eq_b (n := 46) K dX3_spread_43 rfl (tgt := 66) (by decide) (fun c43 => ?_) (fun c43 => ?_)
      · exact hyes hnb (fun q => by rw [q] at c43; cases c43)
      · subst c43
        obtain ⟨-, w2, -⟩ := hw.2 i hi12
        have hs2 := hso (cnt 12 set) (by have := hU rfl; omega)
        refine wp_aload_n (n := 47) K dX3_spread_46 rfl rfl ?_
        refine wp_getF (n := 50) K dX3_spread_47 rfl fl_X3_99 rfl (liS rfl) rfl rfl ?_
        refine wp_iload (n := 52) K dX3_spread_50 rfl rfl ?_
        refine wp_aload (n := 54) K dX3_spread_52 rfl rfl ?_
        refine wp_getF (n := 57) K dX3_spread_54 rfl fl_X3_103 rfl (liS rfl) rfl rfl ?_
        refine wp_iload (n := 59) K dX3_spread_57 rfl rfl ?_
        refine wp_iald (n := 60) K dX3_spread_59 rfl rfl (liS rfl) ⟨by omega, by omega, by omega⟩ ?_
        try simp only [up_same, up_up, up_ne, ne_eq, Nat.reduceEqDiff, not_false_eq_true, Int.reduceToNat, Int.toNat_natCast]
        rw [(hAB.1.1.2 i hi12).2.1]
        refine wp_invV_i (n := 63) K dX3_spread_60 rfl cf_X3_106 (c_isFit (cnt 12 set) (σ (11 + 5 * i)) _ _ σ hAB.1.2.2.1 h7 (hU rfl) ⟨by omega, by omega⟩ hs2) rfl rfl rfl (liS rfl) rfl (by decide) ⟨Nat.le_refl _, Nat.le_refl _⟩ (Nat.le_of_ble_eq_true rfl) ?_
        refine wp_if_eq_b (n := 66) K dX3_spread_63 rfl (tgt := 70) (by decide) (fun c63 => ?_) (fun c63 => ?_)
        · have hf : okW σ τ true i set = false := by
            unfold okW; rw [c63]; simp
          refine wp_iconst (n := 71) K dX3_spread_70 rfl ?_
          refine wp_istore (n := 73) K dX3_spread_71 rfl (by decide) ?_
          refine wp_iload (n := 75) K dX3_spread_73 rfl rfl ?_
          refine wp_if_eq (n := 78) K dX3_spread_75 rfl (tgt := 112) (by decide) ⟨by omega, by omega⟩ (fun c75 => ?_) (fun c75 => ?_)
          · exact hno hf B _ (fun _ _ => rfl) hBv hBc
          · omega
        · exact hyes hnb (fun _ => c63)
