def Qs (Xs : List Nat) (S1 : ST) (M1 : MT) (F : ST → MT → Prop) : Option Value → ST → MT → Prop := fun r S' M' => r = none ∧ S1.2.1 ≤ S'.2.1 ∧ (∀ a, a < S1.2.1 → S'.1 a = S1.1 a) ∧ (∀ a, a < S1.2.1 → a ∉ Xs → M' a = M1 a) ∧ F S' M'
theorem ret_sn {E : ET} {X : XT} {y : MethodName} {cc : ByteArray} {nL : Nat} {rm : Room} {S0 : ST} {pc : Nat} {L : List Value} {S S1 : ST} {M M1 : MT} {Xs : List Nat} {F : ST → MT → Prop} (K : Ok E X y cc nL none rm (Qs Xs S1 M1 F) S0) (hd : decode cc pc = .ok (.return_, 1)) (h1 : S1.2.1 ≤ S.2.1) (h2 : ∀ a, a < S1.2.1 → S.1 a = S1.1 a) (h3 : ∀ a, a < S1.2.1 → a ∉ Xs → M a = M1 a) (hF : F (bud S S0 rm) M) (hw : Bw S S0 rm) : Wp E X pc L [] S M := wp_vreturn K hd ⟨rfl, h1, h2, h3, hF⟩ hw

theorem c_addClause (x y : Int) (nc : Nat) (hn : nc < 24) (S : ST) (M : MT) (h : M 60 6 = (nc : Int)) : Ct E1 yX4_addClause cX4_addClause 3 none rm_X4_addClause [.ref 60, .int (z x), .int (z y)] S M (Qn [60, 61] S M (fun M1 => M1 61 = up (up (up (M 61) (3 * nc) (M 60 11)) (3 * nc + 1) x) (3 * nc + 2) y ∧ M1 60 = up (M 60) 6 ((nc : Int) + 1))) := by
  refine Ct.mk [.ref 60, .int (z x), .int (z y)] (by decide) rfl (Nat.le_of_ble_eq_true rfl) (fun X K => ?_)
  refine wp_aload_n (n := 1) K dX4_addClause_0 rfl rfl ?_
  refine wp_getI (n := 4) K dX4_addClause_1 rfl fl_X4_35 rfl (liS rfl) rfl ?_
  try simp only [up_same, up_up, up_ne, ne_eq, Nat.reduceEqDiff, not_false_eq_true, Int.reduceToNat, Int.toNat_natCast]
  refine wp_bipush (n := 6) K dX4_addClause_4 rfl rfl ?_
  refine wp_icmp_ge (n := 9) K dX4_addClause_6 rfl (tgt := 62) (by decide) ⟨by omega, by omega⟩ ⟨by omega, by omega⟩ (fun c6 => ?_) (fun c6 => ?_)
  · omega
  · refine wp_aload_n (n := 10) K dX4_addClause_9 rfl rfl ?_
    refine wp_getF (n := 13) K dX4_addClause_10 rfl fl_X4_11 rfl (liS rfl) rfl rfl ?_
    refine wp_aload_n (n := 14) K dX4_addClause_13 rfl rfl ?_
    refine wp_getI (n := 17) K dX4_addClause_14 rfl fl_X4_35 rfl (liS rfl) rfl ?_
    try simp only [up_same, up_up, up_ne, ne_eq, Nat.reduceEqDiff, not_false_eq_true, Int.reduceToNat, Int.toNat_natCast]
    refine wp_iconst (n := 18) K dX4_addClause_17 rfl ?_
    refine wp_imul (n := 19) K dX4_addClause_18 rfl ?_
    refine wp_aload_n (n := 20) K dX4_addClause_19 rfl rfl ?_
    refine wp_getI (n := 23) K dX4_addClause_20 rfl fl_X4_51 rfl (liS rfl) rfl ?_
    try simp only [up_same, up_up, up_ne, ne_eq, Nat.reduceEqDiff, not_false_eq_true, Int.reduceToNat, Int.toNat_natCast]
    rw [h, show (nc : Int) * 3 = ((3 * nc : Nat) : Int) by omega]
    refine wp_iast (n := 24) K dX4_addClause_23 rfl rfl (liS rfl) (fun _ => rfl) ⟨by omega, by omega, by omega⟩ ?_
    try simp only [up_same, up_up, up_ne, ne_eq, Nat.reduceEqDiff, not_false_eq_true, Int.reduceToNat, Int.toNat_natCast]
    refine wp_aload_n (n := 25) K dX4_addClause_24 rfl rfl ?_
    refine wp_getF (n := 28) K dX4_addClause_25 rfl fl_X4_11 rfl (liS rfl) rfl rfl ?_
    refine wp_aload_n (n := 29) K dX4_addClause_28 rfl rfl ?_
    refine wp_getI (n := 32) K dX4_addClause_29 rfl fl_X4_35 rfl (liS rfl) rfl ?_
    try simp only [up_same, up_up, up_ne, ne_eq, Nat.reduceEqDiff, not_false_eq_true, Int.reduceToNat, Int.toNat_natCast]
    refine wp_iconst (n := 33) K dX4_addClause_32 rfl ?_
    refine wp_imul (n := 34) K dX4_addClause_33 rfl ?_
    refine wp_iconst (n := 35) K dX4_addClause_34 rfl ?_
    refine wp_iadd (n := 36) K dX4_addClause_35 rfl ?_
    refine wp_iload_n (n := 37) K dX4_addClause_36 rfl rfl ?_
    rw [h, show (nc : Int) * 3 + 1 = ((3 * nc + 1 : Nat) : Int) by omega]
    refine wp_iast (n := 38) K dX4_addClause_37 rfl rfl (liS rfl) (fun _ => rfl) ⟨by omega, by omega, by omega⟩ ?_
    try simp only [up_same, up_up, up_ne, ne_eq, Nat.reduceEqDiff, not_false_eq_true, Int.reduceToNat, Int.toNat_natCast]
    refine wp_aload_n (n := 39) K dX4_addClause_38 rfl rfl ?_
    refine wp_getF (n := 42) K dX4_addClause_39 rfl fl_X4_11 rfl (liS rfl) rfl rfl ?_
    refine wp_aload_n (n := 43) K dX4_addClause_42 rfl rfl ?_
    refine wp_getI (n := 46) K dX4_addClause_43 rfl fl_X4_35 rfl (liS rfl) rfl ?_
    try simp only [up_same, up_up, up_ne, ne_eq, Nat.reduceEqDiff, not_false_eq_true, Int.reduceToNat, Int.toNat_natCast]
    refine wp_iconst (n := 47) K dX4_addClause_46 rfl ?_
    refine wp_imul (n := 48) K dX4_addClause_47 rfl ?_
    refine wp_iconst (n := 49) K dX4_addClause_48 rfl ?_
    refine wp_iadd (n := 50) K dX4_addClause_49 rfl ?_
    refine wp_iload_n (n := 51) K dX4_addClause_50 rfl rfl ?_
    rw [h, show (nc : Int) * 3 + 2 = ((3 * nc + 2 : Nat) : Int) by omega]
    refine wp_iast (n := 52) K dX4_addClause_51 rfl rfl (liS rfl) (fun _ => rfl) ⟨by omega, by omega, by omega⟩ ?_
    try simp only [up_same, up_up, up_ne, ne_eq, Nat.reduceEqDiff, not_false_eq_true, Int.reduceToNat, Int.toNat_natCast]
    refine wp_aload_n (n := 53) K dX4_addClause_52 rfl rfl ?_
    refine wp_dup (n := 54) K dX4_addClause_53 rfl rfl ?_
    refine wp_getI (n := 57) K dX4_addClause_54 rfl fl_X4_35 rfl (liS rfl) rfl ?_
    try simp only [up_same, up_up, up_ne, ne_eq, Nat.reduceEqDiff, not_false_eq_true, Int.reduceToNat, Int.toNat_natCast]
    refine wp_iconst (n := 58) K dX4_addClause_57 rfl ?_
    refine wp_iadd (n := 59) K dX4_addClause_58 rfl ?_
    rw [h]
    refine wp_putI (n := 62) K dX4_addClause_59 rfl fl_X4_35 rfl (liS rfl) (Or.inl rfl) rfl rfl ?_
    try simp only [up_same, up_up, up_ne, ne_eq, Nat.reduceEqDiff, not_false_eq_true, Int.reduceToNat, Int.toNat_natCast]
    refine ret_qn K dX4_addClause_62 rfl ?_ ?_ ⟨Nat.le_refl _, Nat.le_refl _⟩
    · (intro a ha; simp only [List.mem_cons, List.not_mem_nil, or_false, not_or] at ha; simp [up, ha])
    · exact ⟨rfl, rfl⟩
/-- the laws that were told, and their rows -/
def LQ (S : ST) (M : MT) (c : List (Int × Int)) (cR : Nat → Int) (nc on s : Nat) : Prop := (on / 2 ^ s % 2 = 0 ∧ M 60 (3 + s) = 1 ∧ ∀ k, k < nc → cR (3 * k) ≠ (s : Int)) ∨ (on / 2 ^ s % 2 = 1 ∧ ∃ k fN eN a : Nat, k < nc ∧ cR (3 * k) = (s : Int) ∧ cR (3 * k + 1) = (fN : Int) ∧ cR (3 * k + 2) = (eN : Int) ∧ (∀ k', k' < nc → cR (3 * k') = (s : Int) → k' = k) ∧ M 60 (3 + s) = (a : Int) ∧ 91 ≤ a ∧ shp E1 S a = (2, eN - fN) ∧ live E1 S a ∧ fN < eN ∧ eN ≤ c.length ∧ eN ≤ 299 ∧ ∀ i, i < eN - fN → M a i = encF (gS c fN i))
def SCR (M : MT) (cR : Nat → Int) (nc : Nat) : Prop := ∀ k, k < nc → M 61 (3 * k) = cR (3 * k) + 8 ∧ (3 ≤ cR (3 * k) → M 61 (3 * k + 1) = cR (3 * k + 1)) ∧ (cR (3 * k) = 5 → M 61 (3 * k + 2) = cR (3 * k + 2))
def RT (S : ST) (M : MT) (b : Nat → Int) (n T t : Nat) (c : List (Int × Int)) (cR : Nat → Int) (nc on : Nat) : Prop := TSA M b n T t ∧ M 60 6 = (nc : Int) ∧ M 60 9 = 0 ∧ SCR M cR nc ∧ ∀ s, s < 3 → LQ S M c cR nc on s
theorem LQ.gr {S S' : ST} {M M' : MT} {c c' : List (Int × Int)} {cR cR' : Nat → Int} {nc on s : Nat} (h : LQ S M c cR nc on s) (h91 : 91 ≤ S.2.1) (h1 : S.2.1 ≤ S'.2.1) (h2 : ∀ a, a < S.2.1 → S'.1 a = S.1 a) (hM : ∀ a, 91 ≤ a → a < S.2.1 → M' a = M a) (h60 : M' 60 (3 + s) = M 60 (3 + s)) (hc : c <:+ c') (hR : ∀ k, k < nc → cR' (3 * k) = cR (3 * k) ∧ cR' (3 * k + 1) = cR (3 * k + 1) ∧ cR' (3 * k + 2) = cR (3 * k + 2)) : LQ S' M' c' cR' nc on s := by
  rcases h with ⟨q1, q2, q3⟩ | ⟨q1, k, fN, eN, a, q2, q3, q4, q5, q6, q7, q8, q9, q10, q11, q12, q13, q14⟩
  · exact Or.inl ⟨q1, h60.trans q2, fun k hk => by rw [(hR k hk).1]; exact q3 k hk⟩
  · have ha := q10.lt h91
    refine Or.inr ⟨q1, k, fN, eN, a, q2, by rw [(hR k q2).1]; exact q3, by rw [(hR k q2).2.1]; exact q4, by rw [(hR k q2).2.2]; exact q5, fun k' hk' e => q6 k' hk' (by rw [← (hR k' hk').1]; exact e), h60.trans q7, q8, ?_, q10.mono h1, q11, Nat.le_trans q12 hc.length_le, q13, fun i hi => ?_⟩
    · rw [shp_out (show E1.1 ≤ a from q8), h2 a ha, ← shp_out (S := S) (show E1.1 ≤ a from q8)]; exact q9
    · rw [hM a q8 ha, q14 i hi]
      unfold gS
      rw [cAt_suf hc (by omega)]

theorem c_isTold (s on nc : Nat) (hs : s ≤ 5) (S : ST) (M : MT) (c : List (Int × Int)) (cR : Nat → Int) (h : ∀ s, s < 3 → LQ S M c cR nc on s) : Ct E1 yX4_isTold cX4_isTold 2 (some .boolean) rm_X4_isTold [.ref 60, .int (z ((s : Int) + 8))] S M (Pi (bI (decide (s ≤ 2 ∧ on / 2 ^ s % 2 = 1))) S M) := by
  refine Ct.mk [.ref 60, .int (z ((s : Int) + 8))] (by decide) rfl (Nat.le_of_ble_eq_true rfl) (fun X K => ?_)
  have k46 : ¬ (s ≤ 2 ∧ on / 2 ^ s % 2 = 1) → Wp E1 X 46 [.ref 60, .int (z ((s : Int) + 8))] [] S M := fun hn => by
    refine wp_iconst (n := 47) K dX4_isTold_46 rfl ?_
    refine ret_z K dX4_isTold_47 ?_ rfl ?_ ⟨Nat.le_refl _, Nat.le_refl _⟩
    · rw [decide_eq_false hn]; rfl
    · rfl
  have k42 : (s ≤ 2 ∧ on / 2 ^ s % 2 = 1) → Wp E1 X 42 [.ref 60, .int (z ((s : Int) + 8))] [] S M := fun hn => by
    refine wp_iconst (n := 43) K dX4_isTold_42 rfl ?_
    refine wp_goto K dX4_isTold_43 (tgt := 47) (by decide) ?_
    refine ret_z K dX4_isTold_47 ?_ rfl ?_ ⟨Nat.le_refl _, Nat.le_refl _⟩
    · rw [decide_eq_true hn]; rfl
    · rfl
  have k28 : s ≠ 2 → ¬ (s ≤ 2 ∧ on / 2 ^ s % 2 = 1) → Wp E1 X 28 [.ref 60, .int (z ((s : Int) + 8))] [] S M := fun h2 hn => by
    refine wp_iload_n (n := 29) K dX4_isTold_28 rfl rfl ?_
    refine wp_bipush (n := 31) K dX4_isTold_29 rfl rfl ?_
    refine wp_icmp_ne (n := 34) K dX4_isTold_31 rfl (tgt := 46) (by decide) ⟨by omega, by omega⟩ ⟨by omega, by omega⟩ (fun c31 => ?_) (fun c31 => ?_)
    · exact k46 hn
    · omega
  have k14 : s = 0 ∨ 3 ≤ s → ¬ (s ≤ 2 ∧ on / 2 ^ s % 2 = 1) → Wp E1 X 14 [.ref 60, .int (z ((s : Int) + 8))] [] S M := fun h2 hn => by
    refine wp_iload_n (n := 15) K dX4_isTold_14 rfl rfl ?_
    refine wp_bipush (n := 17) K dX4_isTold_15 rfl rfl ?_
    refine wp_icmp_ne (n := 20) K dX4_isTold_17 rfl (tgt := 28) (by decide) ⟨by omega, by omega⟩ ⟨by omega, by omega⟩ (fun c17 => ?_) (fun c17 => ?_)
    · exact k28 (by omega) hn
    · omega
  rcases (show s = 0 ∨ s = 1 ∨ s = 2 ∨ 3 ≤ s by omega) with q | q | q | q
  · subst q
    refine wp_iload_n (n := 1) K dX4_isTold_0 rfl rfl ?_
    refine wp_bipush (n := 3) K dX4_isTold_1 rfl rfl ?_
    refine wp_icmp_ne (n := 6) K dX4_isTold_3 rfl (tgt := 14) (by decide) ⟨by omega, by omega⟩ ⟨by omega, by omega⟩ (fun c3 => ?_) (fun c3 => ?_)
    · omega
    · rcases h 0 (by decide) with ⟨q1, q2, q3⟩ | ⟨q1, k, fN, eN, a, q2, q3, q4, q5, q6, q7, q8, q9, q10, q11, q12, q13, q14⟩
      · refine wp_aload_n (n := 7) K dX4_isTold_6 rfl rfl ?_
        refine wp_getD (n := 10) K dX4_isTold_7 rfl fl_X4_26 rfl (liS rfl) rfl (b := 1) q2 ?_
        try simp only [up_same, up_up, up_ne, ne_eq, Nat.reduceEqDiff, not_false_eq_true, Int.reduceToNat, Int.toNat_natCast]
        refine wp_alen1 (n := 11) K dX4_isTold_10 rfl ?_
        refine wp_if_gt (n := 14) K dX4_isTold_11 rfl (tgt := 42) (by decide) ⟨by omega, by omega⟩ (fun c11 => ?_) (fun c11 => ?_)
        · omega
        · exact k14 (Or.inl rfl) (by omega)
      · refine wp_aload_n (n := 7) K dX4_isTold_6 rfl rfl ?_
        refine wp_getD (n := 10) K dX4_isTold_7 rfl fl_X4_26 rfl (liS rfl) rfl q7 ?_
        try simp only [up_same, up_up, up_ne, ne_eq, Nat.reduceEqDiff, not_false_eq_true, Int.reduceToNat, Int.toNat_natCast]
        refine wp_alen (n := 11) K dX4_isTold_10 rfl q9 (by decide) q10 ?_
        refine wp_if_gt (n := 14) K dX4_isTold_11 rfl (tgt := 42) (by decide) ⟨by omega, by omega⟩ (fun c11 => ?_) (fun c11 => ?_)
        · exact k42 ⟨by decide, q1⟩
        · omega
  · subst q
    refine wp_iload_n (n := 1) K dX4_isTold_0 rfl rfl ?_
    refine wp_bipush (n := 3) K dX4_isTold_1 rfl rfl ?_
    refine wp_icmp_ne (n := 6) K dX4_isTold_3 rfl (tgt := 14) (by decide) ⟨by omega, by omega⟩ ⟨by omega, by omega⟩ (fun c3 => ?_) (fun c3 => ?_)
    · refine wp_iload_n (n := 15) K dX4_isTold_14 rfl rfl ?_
      refine wp_bipush (n := 17) K dX4_isTold_15 rfl rfl ?_
      refine wp_icmp_ne (n := 20) K dX4_isTold_17 rfl (tgt := 28) (by decide) ⟨by omega, by omega⟩ ⟨by omega, by omega⟩ (fun c17 => ?_) (fun c17 => ?_)
      · omega
      · rcases h 1 (by decide) with ⟨q1, q2, q3⟩ | ⟨q1, k, fN, eN, a, q2, q3, q4, q5, q6, q7, q8, q9, q10, q11, q12, q13, q14⟩
        · refine wp_aload_n (n := 21) K dX4_isTold_20 rfl rfl ?_
          refine wp_getD (n := 24) K dX4_isTold_21 rfl fl_X4_29 rfl (liS rfl) rfl (b := 1) q2 ?_
          try simp only [up_same, up_up, up_ne, ne_eq, Nat.reduceEqDiff, not_false_eq_true, Int.reduceToNat, Int.toNat_natCast]
          refine wp_alen1 (n := 25) K dX4_isTold_24 rfl ?_
          refine wp_if_gt (n := 28) K dX4_isTold_25 rfl (tgt := 42) (by decide) ⟨by omega, by omega⟩ (fun c25 => ?_) (fun c25 => ?_)
          · omega
          · exact k28 (by decide) (by omega)
        · refine wp_aload_n (n := 21) K dX4_isTold_20 rfl rfl ?_
          refine wp_getD (n := 24) K dX4_isTold_21 rfl fl_X4_29 rfl (liS rfl) rfl q7 ?_
          try simp only [up_same, up_up, up_ne, ne_eq, Nat.reduceEqDiff, not_false_eq_true, Int.reduceToNat, Int.toNat_natCast]
          refine wp_alen (n := 25) K dX4_isTold_24 rfl q9 (by decide) q10 ?_
          refine wp_if_gt (n := 28) K dX4_isTold_25 rfl (tgt := 42) (by decide) ⟨by omega, by omega⟩ (fun c25 => ?_) (fun c25 => ?_)
          · exact k42 ⟨by decide, q1⟩
          · omega
    · omega
  · subst q
    refine wp_iload_n (n := 1) K dX4_isTold_0 rfl rfl ?_
    refine wp_bipush (n := 3) K dX4_isTold_1 rfl rfl ?_
    refine wp_icmp_ne (n := 6) K dX4_isTold_3 rfl (tgt := 14) (by decide) ⟨by omega, by omega⟩ ⟨by omega, by omega⟩ (fun c3 => ?_) (fun c3 => ?_)
    · refine wp_iload_n (n := 15) K dX4_isTold_14 rfl rfl ?_
      refine wp_bipush (n := 17) K dX4_isTold_15 rfl rfl ?_
      refine wp_icmp_ne (n := 20) K dX4_isTold_17 rfl (tgt := 28) (by decide) ⟨by omega, by omega⟩ ⟨by omega, by omega⟩ (fun c17 => ?_) (fun c17 => ?_)
      · refine wp_iload_n (n := 29) K dX4_isTold_28 rfl rfl ?_
        refine wp_bipush (n := 31) K dX4_isTold_29 rfl rfl ?_
        refine wp_icmp_ne (n := 34) K dX4_isTold_31 rfl (tgt := 46) (by decide) ⟨by omega, by omega⟩ ⟨by omega, by omega⟩ (fun c31 => ?_) (fun c31 => ?_)
        · omega
        · rcases h 2 (by decide) with ⟨q1, q2, q3⟩ | ⟨q1, k, fN, eN, a, q2, q3, q4, q5, q6, q7, q8, q9, q10, q11, q12, q13, q14⟩
          · refine wp_aload_n (n := 35) K dX4_isTold_34 rfl rfl ?_
            refine wp_getD (n := 38) K dX4_isTold_35 rfl fl_X4_32 rfl (liS rfl) rfl (b := 1) q2 ?_
            try simp only [up_same, up_up, up_ne, ne_eq, Nat.reduceEqDiff, not_false_eq_true, Int.reduceToNat, Int.toNat_natCast]
            refine wp_alen1 (n := 39) K dX4_isTold_38 rfl ?_
            refine wp_if_le (n := 42) K dX4_isTold_39 rfl (tgt := 46) (by decide) ⟨by omega, by omega⟩ (fun c39 => ?_) (fun c39 => ?_)
            · exact k46 (by omega)
            · omega
          · refine wp_aload_n (n := 35) K dX4_isTold_34 rfl rfl ?_
            refine wp_getD (n := 38) K dX4_isTold_35 rfl fl_X4_32 rfl (liS rfl) rfl q7 ?_
            try simp only [up_same, up_up, up_ne, ne_eq, Nat.reduceEqDiff, not_false_eq_true, Int.reduceToNat, Int.toNat_natCast]
            refine wp_alen (n := 39) K dX4_isTold_38 rfl q9 (by decide) q10 ?_
            refine wp_if_le (n := 42) K dX4_isTold_39 rfl (tgt := 46) (by decide) ⟨by omega, by omega⟩ (fun c39 => ?_) (fun c39 => ?_)
            · omega
            · exact k42 ⟨by decide, q1⟩
      · omega
    · omega
  · refine wp_iload_n (n := 1) K dX4_isTold_0 rfl rfl ?_
    refine wp_bipush (n := 3) K dX4_isTold_1 rfl rfl ?_
    refine wp_icmp_ne (n := 6) K dX4_isTold_3 rfl (tgt := 14) (by decide) ⟨by omega, by omega⟩ ⟨by omega, by omega⟩ (fun c3 => ?_) (fun c3 => ?_)
    · exact k14 (Or.inr q) (by omega)
    · omega

theorem c_keepLaw (s L : Nat) (hs : s ≤ 2) (hL : L ≤ 299) (S : ST) (M : MT) (h91 : 91 ≤ S.2.1) (h11 : M 60 11 = (s : Int) + 8) (h7 : M 60 7 = (L : Int)) : Ct E1 yX4_keepLaw cX4_keepLaw 2 none rm_X4_keepLaw [.ref 60] S M (fun r S' M' => r = none ∧ S'.1 = up S.1 S.2.1 (2, L) ∧ S'.2.1 = S.2.1 + 1 ∧ (∀ b, b ≠ S.2.1 → b ≠ 60 → M' b = M b) ∧ M' 60 = up (M 60) (3 + s) (S.2.1 : Int) ∧ ∀ j, j < L → M' S.2.1 j = M 62 j) := by
  refine Ct.mk [.ref 60, mkV] (by decide) rfl (Nat.le_of_ble_eq_true rfl) (fun X K => ?_)
  refine wp_aload_n (n := 1) K dX4_keepLaw_0 rfl rfl ?_
  refine wp_getF (n := 4) K dX4_keepLaw_1 rfl fl_X4_17 rfl (liS rfl) rfl rfl ?_
  refine wp_aload_n (n := 5) K dX4_keepLaw_4 rfl rfl ?_
  refine wp_getI (n := 8) K dX4_keepLaw_5 rfl fl_X4_39 rfl (liS rfl) rfl ?_
  try simp only [up_same, up_up, up_ne, ne_eq, Nat.reduceEqDiff, not_false_eq_true, Int.reduceToNat, Int.toNat_natCast]
  rw [h7]
  refine wp_invS (n := 11) K dX4_keepLaw_8 rfl cf_X4_83 (c_copyOf 62 300 L (by decide) (by omega) S M rfl (liS rfl) h91) rfl rfl (by decide) ⟨Nat.le_refl _, Nat.le_refl _⟩ (Nat.le_of_ble_eq_true rfl) (fun rA SA A hA hcA hsA => ?_)
  obtain ⟨rfl, e1, e2, e3, e4⟩ := hA
  have h60 : A 60 = M 60 := e3 60 (by omega)
  have hend : ∀ b, b ≠ S.2.1 → b ≠ 60 → (up A 60 (up (A 60) (3 + s) (S.2.1 : Int))) b = M b := fun b h1 h2 => by rw [up_ne _ _ h2, e3 b h1]
  have fin2 : (up A 60 (up (A 60) (3 + s) (S.2.1 : Int))) 60 = up (M 60) (3 + s) (S.2.1 : Int) ∧ ∀ j, j < L → (up A 60 (up (A 60) (3 + s) (S.2.1 : Int))) S.2.1 j = M 62 j := ⟨by rw [up_same, h60], fun j hj => by rw [up_ne _ _ (by omega)]; exact e4 j hj⟩
  have hbw : Bw SA S rm_X4_keepLaw := ⟨by rw [hcA]; exact Nat.le_refl _, by rw [hsA]; exact Nat.le_refl _⟩
  refine wp_astore_n (n := 12) K dX4_keepLaw_11 rfl (by omega) (by decide) ?_
  refine wp_aload_n (n := 13) K dX4_keepLaw_12 rfl rfl ?_
  refine wp_getI (n := 16) K dX4_keepLaw_13 rfl fl_X4_51 rfl (liS rfl) rfl ?_
  try simp only [up_same, up_up, up_ne, ne_eq, Nat.reduceEqDiff, not_false_eq_true, Int.reduceToNat, Int.toNat_natCast]
  rw [h60, h11]
  refine wp_bipush (n := 18) K dX4_keepLaw_16 rfl rfl ?_
  refine wp_icmp_ne (n := 21) K dX4_keepLaw_18 rfl (tgt := 29) (by decide) ⟨by omega, by omega⟩ ⟨by omega, by omega⟩ (fun c18 => ?_) (fun c18 => ?_)
  · refine wp_aload_n (n := 30) K dX4_keepLaw_29 rfl rfl ?_
    refine wp_getI (n := 33) K dX4_keepLaw_30 rfl fl_X4_51 rfl (liS rfl) rfl ?_
    try simp only [up_same, up_up, up_ne, ne_eq, Nat.reduceEqDiff, not_false_eq_true, Int.reduceToNat, Int.toNat_natCast]
    rw [h60, h11]
    refine wp_bipush (n := 35) K dX4_keepLaw_33 rfl rfl ?_
    refine wp_icmp_ne (n := 38) K dX4_keepLaw_35 rfl (tgt := 46) (by decide) ⟨by omega, by omega⟩ ⟨by omega, by omega⟩ (fun c35 => ?_) (fun c35 => ?_)
    · have q : s = 2 := by omega
      subst q
      refine wp_aload_n (n := 47) K dX4_keepLaw_46 rfl rfl ?_
      refine wp_aload_n (n := 48) K dX4_keepLaw_47 rfl rfl ?_
      refine wp_putR (n := 51) K dX4_keepLaw_48 rfl fl_X4_32 rfl (liS rfl) (Or.inl rfl) rfl rfl ?_
      try simp only [up_same, up_up, up_ne, ne_eq, Nat.reduceEqDiff, not_false_eq_true, Int.reduceToNat, Int.toNat_natCast]
      exact wp_vreturn K dX4_keepLaw_51 ⟨rfl, e1, e2, hend, fin2⟩ hbw
    · have q : s = 1 := by omega
      subst q
      refine wp_aload_n (n := 39) K dX4_keepLaw_38 rfl rfl ?_
      refine wp_aload_n (n := 40) K dX4_keepLaw_39 rfl rfl ?_
      refine wp_putR (n := 43) K dX4_keepLaw_40 rfl fl_X4_29 rfl (liS rfl) (Or.inl rfl) rfl rfl ?_
      try simp only [up_same, up_up, up_ne, ne_eq, Nat.reduceEqDiff, not_false_eq_true, Int.reduceToNat, Int.toNat_natCast]
      refine wp_goto K dX4_keepLaw_43 (tgt := 51) (by decide) ?_
      exact wp_vreturn K dX4_keepLaw_51 ⟨rfl, e1, e2, hend, fin2⟩ hbw
  · have q : s = 0 := by omega
    subst q
    refine wp_aload_n (n := 22) K dX4_keepLaw_21 rfl rfl ?_
    refine wp_aload_n (n := 23) K dX4_keepLaw_22 rfl rfl ?_
    refine wp_putR (n := 26) K dX4_keepLaw_23 rfl fl_X4_26 rfl (liS rfl) (Or.inl rfl) rfl rfl ?_
    try simp only [up_same, up_up, up_ne, ne_eq, Nat.reduceEqDiff, not_false_eq_true, Int.reduceToNat, Int.toNat_natCast]
    refine wp_goto K dX4_keepLaw_26 (tgt := 51) (by decide) ?_
    exact wp_vreturn K dX4_keepLaw_51 ⟨rfl, e1, e2, hend, fin2⟩ hbw
