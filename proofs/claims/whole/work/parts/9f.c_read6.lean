theorem RT.mem {S : ST} {M M' : MT} {b : Nat → Int} {n T t t' : Nat} {c : List (Int × Int)} {cR : Nat → Int} {nc on : Nat} (h : RT S M b n T t c cR nc on) (h91 : 91 ≤ S.2.1) (hT : TSA M' b n T t') (h60 : ∀ j, j < 7 ∨ j = 9 → M' 60 j = M 60 j) (h61 : M' 61 = M 61) (hM : ∀ a, 91 ≤ a → M' a = M a) : RT S M' b n T t' c cR nc on := by
  obtain ⟨_, h1, h2, h3, h4⟩ := h
  refine ⟨hT, (h60 6 (by omega)).trans h1, (h60 9 (by omega)).trans h2, ?_, fun s hs => ?_⟩
  · unfold SCR; rw [h61]; exact h3
  · exact (h4 s hs).gr h91 (Nat.le_refl _) (fun _ _ => rfl) (fun a u _ => hM a u) (h60 _ (by omega)) (List.suffix_refl _) (fun _ _ => ⟨rfl, rfl, rfl⟩)

theorem c_readDeed {b : Nat → Int} {n T t : Nat} (hok : okTp b n) {x0 : Cf} (s : Nat) (hs : 3 ≤ s) (hs5 : s ≤ 5) (c : List (Int × Int)) (cR : Nat → Int) (nc on : Nat) (hnc : nc < 24) (hon : on < 8) (S : ST) (M : MT) (h91 : 91 ≤ S.2.1) (h11 : M 60 11 = (s : Int) + 8)
    (hr : Rch (KT b n) (VT b n) x0 (cf 7 t 0 s [] c 0 0 false false c.length (up cR (3 * nc) (s : Int)) nc on)) (h10 : M 60 10 = -1) (hRT : RT S M b n T t c cR nc on) : Ct E1 yX4_readDeed cX4_readDeed 5 none rm_X4_readDeed [.ref 60, .ref 55] S M (Qn [55, 60, 61] S M (fun M1 => EndR b n T x0 t nc S M1 ∧ M1 55 4 = M 55 4)) := by
  obtain ⟨hT, h6, h9, hSC, hLQ⟩ := id hRT
  refine Ct.mk [.ref 60, .ref 55, mkV, mkV, mkV] (by decide) rfl (Nat.le_of_ble_eq_true rfl) (fun X K => ?_)
  -- the end, with a FAULT
  have kF : ∀ (M1 : MT) (t' f : Nat) (l2 l3 l4 : Value), f ≠ 0 → f ≤ 6 → Rch (KT b n) (VT b n) x0 (flt t' f (fun _ => 0) 0 0) → (∀ a, a ∉ [55, 60, 61] → M1 a = M a) → M1 60 9 = (f : Int) → M1 60 10 = (BT b n t' : Int) → M1 55 4 = M 55 4 → Wp E1 X 51 [.ref 60, .ref 55, l2, l3, l4] [] S M1 := by
    intro M1 t' f l2 l3 l4 f1 f2 f3 f4 f5 f6 f7
    refine wp_aload_n (n := 52) K dX4_readDeed_51 rfl rfl ?_
    refine wp_aload_n (n := 53) K dX4_readDeed_52 rfl rfl ?_
    refine wp_bipush (n := 55) K dX4_readDeed_53 rfl rfl ?_
    refine wp_invV_n (n := 58) K dX4_readDeed_55 rfl cf_X4_116 (c_passF (b := b) (n := n) (T := T) (t := t) 30 f _ _ f5 f1 f2) rfl rfl rfl (liS rfl) rfl (by decide) ⟨Nat.le_refl _, Nat.le_refl _⟩ (Nat.le_of_ble_eq_true rfl) ?_
    refine wp_aload_n (n := 59) K dX4_readDeed_58 rfl rfl ?_
    refine wp_getI (n := 62) K dX4_readDeed_59 rfl fl_X4_45 rfl (liS rfl) rfl ?_
    try simp only [up_same, up_up, up_ne, ne_eq, Nat.reduceEqDiff, not_false_eq_true, Int.reduceToNat, Int.toNat_natCast]
    refine wp_if_ne (n := 65) K dX4_readDeed_62 rfl (tgt := 72) (by decide) ⟨by omega, by omega⟩ (fun c62 => ?_) (fun c62 => ?_)
    · refine ret_qn K dX4_readDeed_72 rfl ?_ ?_ ⟨Nat.le_refl _, Nat.le_refl _⟩
      · exact f4
      · exact ⟨Or.inl ⟨t', f, f1, f2, f3, f5, f6⟩, f7⟩
    · omega
  -- the end, with ';' wanted
  have kE : ∀ (M1 : MT) (t' : Nat) (v w : Int) (l2 : Value) (cR' : Nat → Int), InR v → InR w → cR' = up (up cR (3 * nc) (s : Int)) (3 * nc + 1) v ∨ cR' = up (up (up cR (3 * nc) (s : Int)) (3 * nc + 1) v) (3 * nc + 2) w → (s = 5 → cR' (3 * nc + 2) = w) → Rch (KT b n) (VT b n) x0 (cf 6 t' 0 s [] c 0 0 false false c.length cR' nc on) → TSA M1 b n T t' → (∀ a, a ∉ [55] → M1 a = M a) → M1 55 4 = M 55 4 → Wp E1 X 51 [.ref 60, .ref 55, l2, .int (z v), .int (z w)] [] S M1 := by
    intro M1 t' v w l2 cR' hv hw hcR h5 e1 e2 e3 e4
    have e60 : M1 60 = M 60 := e3 60 (by decide)
    have e9 : M1 60 9 = 0 := by rw [e60]; exact h9
    by_cases q : KT b n t' = 30
    · refine wp_aload_n (n := 52) K dX4_readDeed_51 rfl rfl ?_
      refine wp_aload_n (n := 53) K dX4_readDeed_52 rfl rfl ?_
      refine wp_bipush (n := 55) K dX4_readDeed_53 rfl rfl ?_
      refine wp_invV_qn (n := 58) K dX4_readDeed_55 rfl cf_X4_116 (c_passY 30 (by decide) _ _ e2 e9 q) rfl rfl rfl (liS rfl) rfl (by decide) ⟨Nat.le_refl _, Nat.le_refl _⟩ (Nat.le_of_ble_eq_true rfl) (fun A hA gA => ?_)
      refine wp_aload_n (n := 59) K dX4_readDeed_58 rfl rfl ?_
      refine wp_getI (n := 62) K dX4_readDeed_59 rfl fl_X4_45 rfl (liS rfl) rfl ?_
      try simp only [up_same, up_up, up_ne, ne_eq, Nat.reduceEqDiff, not_false_eq_true, Int.reduceToNat, Int.toNat_natCast]
      have a60 : A 60 = M 60 := by rw [hA 60 (by decide), e60]
      rw [a60, h9]
      refine wp_if_ne (n := 65) K dX4_readDeed_62 rfl (tgt := 72) (by decide) ⟨by omega, by omega⟩ (fun c62 => ?_) (fun c62 => ?_)
      · exact absurd rfl c62
      · refine wp_aload_n (n := 66) K dX4_readDeed_65 rfl rfl ?_
        refine wp_iload_n (n := 67) K dX4_readDeed_66 rfl rfl ?_
        refine wp_iload (n := 69) K dX4_readDeed_67 rfl rfl ?_
        refine wp_invV_qn (n := 72) K dX4_readDeed_69 rfl cf_X4_119 (c_addClause v w nc hnc _ _ (by rw [a60]; exact h6)) rfl rfl rfl (liS rfl) rfl (by decide) ⟨Nat.le_refl _, Nat.le_refl _⟩ (Nat.le_of_ble_eq_true rfl) (fun B hB gB => ?_)
        refine ret_qn K dX4_readDeed_72 rfl ?_ ?_ ⟨Nat.le_refl _, Nat.le_refl _⟩
        · intro a ha
          simp only [List.mem_cons, List.not_mem_nil, or_false, not_or] at ha
          rw [hB a (by simp [ha]), hA a (by simp [ha]), e3 a (by simp [ha])]
        · obtain ⟨g1, g2⟩ := gB
          have hr2 := e1.trans (Rch.one (s6_y q))
          rw [if_neg (show ¬ s < 3 by omega)] at hr2
          have hq : ∀ k, k < nc → cR' (3 * k) = cR (3 * k) ∧ cR' (3 * k + 1) = cR (3 * k + 1) ∧ cR' (3 * k + 2) = cR (3 * k + 2) := fun k hk => by
            rcases hcR with rfl | rfl
            · refine ⟨?_, ?_, ?_⟩ <;> rw [up_ne _ _ (by omega), up_ne _ _ (by omega)]
            · refine ⟨?_, ?_, ?_⟩ <;> rw [up_ne _ _ (by omega), up_ne _ _ (by omega), up_ne _ _ (by omega)]
          have hq0 : cR' (3 * nc) = (s : Int) := by
            rcases hcR with rfl | rfl
            · rw [up_ne _ _ (by omega), up_same]
            · rw [up_ne _ _ (by omega), up_ne _ _ (by omega), up_same]
          have hq1 : cR' (3 * nc + 1) = v := by
            rcases hcR with rfl | rfl
            · rw [up_same]
            · rw [up_ne _ _ (by omega), up_same]
          have hT' : TSA B b n T (t' + 1) := gA.1.mem (fun a u1 u2 => hB a (by simp; omega))
          refine ⟨Or.inr ⟨t' + 1, c, cR', on, by omega, hnc, hon, hr2, ⟨hT', by rw [g2, up_same]; omega, by rw [g2, up_ne _ _ (by decide), a60]; exact h9, ?_, ?_⟩, ?_⟩, ?_⟩
          · intro k hk
            rw [g1, hA 61 (by decide), e3 61 (by decide), a60, h11]
            rcases Nat.lt_or_ge k nc with u | u
            · rw [up_ne _ _ (by omega), up_ne _ _ (by omega), up_ne _ _ (by omega), up_ne _ _ (by omega), up_ne _ _ (by omega), up_ne _ _ (by omega), up_ne _ _ (by omega), up_ne _ _ (by omega), up_ne _ _ (by omega), (hq k u).1, (hq k u).2.1, (hq k u).2.2]
              exact hSC k u
            · rw [show k = nc by omega, up_ne _ _ (show 3 * nc ≠ 3 * nc + 2 by omega), up_ne _ _ (show 3 * nc ≠ 3 * nc + 1 by omega), up_same, up_ne _ _ (show 3 * nc + 1 ≠ 3 * nc + 2 by omega), up_same, up_same, hq0, hq1]
              exact ⟨rfl, fun _ => rfl, fun u => (h5 (by omega)).symm⟩
          · intro s' hs'
            have h1 := (hLQ s' hs').gr (S' := S) (M' := B) (c' := c) (cR' := cR') h91 (Nat.le_refl _) (fun _ _ => rfl) (fun a u _ => by rw [hB a (by simp; omega), hA a (by simp; omega), e3 a (by simp; omega)]) (by rw [g2, up_ne _ _ (by omega), a60]) (List.suffix_refl _) hq
            rcases h1 with ⟨u1, u2, u3⟩ | ⟨u1, k, fN, eN, a, u2, u3, u4, u5, u6, u7⟩
            · refine Or.inl ⟨u1, u2, fun k hk => ?_⟩
              rcases Nat.lt_or_ge k nc with v | v
              · exact u3 k v
              · rw [show k = nc by omega, hq0]; omega
            · refine Or.inr ⟨u1, k, fN, eN, a, by omega, u3, u4, u5, fun k' hk' he => ?_, u7⟩
              rcases Nat.lt_or_ge k' nc with v | v
              · exact u6 k' v he
              · rw [show k' = nc by omega, hq0] at he; omega
          · rw [g2, up_ne _ _ (by decide), a60]; exact h10
          · rw [hB 55 (by decide), gA.2, e4]
    · have hT' : TSA (up M1 60 (up (up (M1 60) 9 1) 10 (BT b n t' : Int))) b n T t' := e2.mem (fun a _ _ => up_ne _ _ (by omega))
      refine wp_aload_n (n := 52) K dX4_readDeed_51 rfl rfl ?_
      refine wp_aload_n (n := 53) K dX4_readDeed_52 rfl rfl ?_
      refine wp_bipush (n := 55) K dX4_readDeed_53 rfl rfl ?_
      refine wp_invV_n (n := 58) K dX4_readDeed_55 rfl cf_X4_116 (c_passN 30 (by decide) hok _ _ e2 e9 q) rfl rfl rfl (liS rfl) rfl (by decide) ⟨Nat.le_refl _, Nat.le_refl _⟩ (Nat.le_of_ble_eq_true rfl) ?_
      refine wp_aload_n (n := 59) K dX4_readDeed_58 rfl rfl ?_
      refine wp_getI (n := 62) K dX4_readDeed_59 rfl fl_X4_45 rfl (liS rfl) rfl ?_
      try simp only [up_same, up_up, up_ne, ne_eq, Nat.reduceEqDiff, not_false_eq_true, Int.reduceToNat, Int.toNat_natCast]
      refine wp_if_ne (n := 65) K dX4_readDeed_62 rfl (tgt := 72) (by decide) ⟨by omega, by omega⟩ (fun c62 => ?_) (fun c62 => ?_)
      · refine ret_qn K dX4_readDeed_72 rfl ?_ ?_ ⟨Nat.le_refl _, Nat.le_refl _⟩
        · intro a ha
          simp only [List.mem_cons, List.not_mem_nil, or_false, not_or] at ha
          rw [up_ne _ _ (by simp [ha]), e3 a (by simp [ha])]
        · refine ⟨Or.inl ⟨t', 1, by decide, by decide, e1.trans (Rch.one (s6_n q)), by simp [up], by simp [up]⟩, by rw [up_ne _ _ (by decide)]; exact e4⟩
      · omega
  have hV := VT_r (t := t) hok
  have hVI : ∀ j, InR (VT b n j) := fun j => by have := VT_r (t := j) hok; exact ⟨by omega, by omega⟩
  by_cases q5 : s = 5
  · subst q5
    refine wp_aload_n (n := 1) K dX4_readDeed_0 rfl rfl ?_
    refine wp_getI (n := 4) K dX4_readDeed_1 rfl fl_X4_51 rfl (liS rfl) rfl ?_
    try simp only [up_same, up_up, up_ne, ne_eq, Nat.reduceEqDiff, not_false_eq_true, Int.reduceToNat, Int.toNat_natCast]
    refine wp_bipush (n := 6) K dX4_readDeed_4 rfl rfl ?_
    refine wp_icmp_ne (n := 9) K dX4_readDeed_6 rfl (tgt := 14) (by decide) ⟨by omega, by omega⟩ ⟨by omega, by omega⟩ (fun c6 => ?_) (fun c6 => ?_)
    · omega
    · by_cases qf : figF (KT b n t) (VT b n t) ((9 : Nat) : Int) = 0
      · have h40 := figF_40 qf
        refine wp_bipush (n := 11) K dX4_readDeed_9 rfl rfl ?_
        refine wp_goto K dX4_readDeed_11 (tgt := 16) (by decide) ?_
        refine wp_istore_n (n := 17) K dX4_readDeed_16 rfl (by decide) ?_
        refine wp_aload_n (n := 18) K dX4_readDeed_17 rfl rfl ?_
        refine wp_aload_n (n := 19) K dX4_readDeed_18 rfl rfl ?_
        refine wp_iload_n (n := 20) K dX4_readDeed_19 rfl rfl ?_
        refine wp_invV_qi (n := 23) K dX4_readDeed_20 rfl cf_X4_112 (c_numY 9 (by decide) hok _ _ hT h9 qf) rfl rfl rfl (liS rfl) rfl (by decide) ⟨Nat.le_refl _, Nat.le_refl _⟩ (Nat.le_of_ble_eq_true rfl) (fun A hA gA => ?_)
        refine wp_istore_n (n := 24) K dX4_readDeed_23 rfl (by decide) ?_
        refine wp_iconst (n := 25) K dX4_readDeed_24 rfl ?_
        refine wp_istore (n := 27) K dX4_readDeed_25 rfl (by decide) ?_
        refine wp_aload_n (n := 28) K dX4_readDeed_27 rfl rfl ?_
        refine wp_getI (n := 31) K dX4_readDeed_28 rfl fl_X4_51 rfl (liS rfl) rfl ?_
        try simp only [up_same, up_up, up_ne, ne_eq, Nat.reduceEqDiff, not_false_eq_true, Int.reduceToNat, Int.toNat_natCast]
        rw [hA 60 (by decide), h11]
        have r1 := hr.trans (Rch.one (s7_y (so := 5) qf))
        have a9 : A 60 9 = 0 := by rw [hA 60 (by decide)]; exact h9
        refine wp_bipush (n := 33) K dX4_readDeed_31 rfl rfl ?_
        refine wp_icmp_ne (n := 36) K dX4_readDeed_33 rfl (tgt := 51) (by decide) ⟨by omega, by omega⟩ ⟨by omega, by omega⟩ (fun c33 => ?_) (fun c33 => ?_)
        · omega
        · by_cases q14 : KT b n (t + 1) = 14
          · refine wp_aload_n (n := 37) K dX4_readDeed_36 rfl rfl ?_
            refine wp_aload_n (n := 38) K dX4_readDeed_37 rfl rfl ?_
            refine wp_bipush (n := 40) K dX4_readDeed_38 rfl rfl ?_
            refine wp_invV_qn (n := 43) K dX4_readDeed_40 rfl cf_X4_116 (c_passY 14 (by decide) _ _ gA.1 a9 q14) rfl rfl rfl (liS rfl) rfl (by decide) ⟨Nat.le_refl _, Nat.le_refl _⟩ (Nat.le_of_ble_eq_true rfl) (fun B hB gB => ?_)
            have r2 := r1.trans (Rch.one (s10_y q14))
            have b9 : B 60 9 = 0 := by rw [hB 60 (by decide)]; exact a9
            by_cases qg : figF (KT b n (t + 1 + 1)) (VT b n (t + 1 + 1)) ((9 : Nat) : Int) = 0
            · refine wp_aload_n (n := 44) K dX4_readDeed_43 rfl rfl ?_
              refine wp_aload_n (n := 45) K dX4_readDeed_44 rfl rfl ?_
              refine wp_iload_n (n := 46) K dX4_readDeed_45 rfl rfl ?_
              refine wp_invV_qi (n := 49) K dX4_readDeed_46 rfl cf_X4_112 (c_numY 9 (by decide) hok _ _ gB.1 b9 qg) rfl rfl rfl (liS rfl) rfl (by decide) ⟨Nat.le_refl _, Nat.le_refl _⟩ (Nat.le_of_ble_eq_true rfl) (fun C hC gC => ?_)
              refine wp_istore (n := 51) K dX4_readDeed_49 rfl (by decide) ?_
              refine kE C (t + 1 + 1 + 1) (VT b n t) (VT b n (t + 1 + 1)) _ _ (hVI _) (hVI _) (Or.inr rfl) (fun _ => up_same _ _ _) (r2.trans (Rch.one (s11_y qg))) gC.1 (fun a ha => by rw [hC a ha, hB a ha, hA a ha]) (by rw [gC.2, gB.2, gA.2])
            · refine wp_aload_n (n := 44) K dX4_readDeed_43 rfl rfl ?_
              refine wp_aload_n (n := 45) K dX4_readDeed_44 rfl rfl ?_
              refine wp_iload_n (n := 46) K dX4_readDeed_45 rfl rfl ?_
              refine wp_invV_i (n := 49) K dX4_readDeed_46 rfl cf_X4_112 (c_numN 9 (by decide) hok _ _ gB.1 b9 qg) rfl rfl rfl (liS rfl) rfl (by decide) ⟨Nat.le_refl _, Nat.le_refl _⟩ (Nat.le_of_ble_eq_true rfl) ?_
              refine wp_istore (n := 51) K dX4_readDeed_49 rfl (by decide) ?_
              refine kF _ (t + 1 + 1) _ _ _ _ qg (by unfold figF; split <;> (try split) <;> omega) (r2.trans (Rch.one (s11_n qg))) (fun a ha => ?_) (by simp [up]) (by simp [up]) (by rw [up_ne _ _ (by decide), gB.2, gA.2])
              simp only [List.mem_cons, List.not_mem_nil, or_false, not_or] at ha
              rw [up_ne _ _ (by simp [ha]), hB a (by simp [ha]), hA a (by simp [ha])]
          · have hT2 : TSA (up A 60 (up (up (A 60) 9 1) 10 (BT b n (t + 1) : Int))) b n T (t + 1) := gA.1.mem (fun a _ _ => up_ne _ _ (by omega))
            refine wp_aload_n (n := 37) K dX4_readDeed_36 rfl rfl ?_
            refine wp_aload_n (n := 38) K dX4_readDeed_37 rfl rfl ?_
            refine wp_bipush (n := 40) K dX4_readDeed_38 rfl rfl ?_
            refine wp_invV_n (n := 43) K dX4_readDeed_40 rfl cf_X4_116 (c_passN 14 (by decide) hok _ _ gA.1 a9 q14) rfl rfl rfl (liS rfl) rfl (by decide) ⟨Nat.le_refl _, Nat.le_refl _⟩ (Nat.le_of_ble_eq_true rfl) ?_
            refine wp_aload_n (n := 44) K dX4_readDeed_43 rfl rfl ?_
            refine wp_aload_n (n := 45) K dX4_readDeed_44 rfl rfl ?_
            refine wp_iload_n (n := 46) K dX4_readDeed_45 rfl rfl ?_
            refine wp_invV_i (n := 49) K dX4_readDeed_46 rfl cf_X4_112 (c_numF 9 1 (by decide) hok _ _ hT2 (by simp [up]) (by decide) (by decide)) rfl rfl rfl (liS rfl) rfl (by decide) ⟨Nat.le_refl _, Nat.le_refl _⟩ (Nat.le_of_ble_eq_true rfl) ?_
            refine wp_istore (n := 51) K dX4_readDeed_49 rfl (by decide) ?_
            refine kF _ (t + 1) 1 _ _ _ (by decide) (by decide) (r1.trans (Rch.one (s10_n q14))) (fun a ha => ?_) (by simp [up]) (by simp [up]) (by rw [up_ne _ _ (by decide), gA.2])
            simp only [List.mem_cons, List.not_mem_nil, or_false, not_or] at ha
            rw [up_ne _ _ (by simp [ha]), hA a (by simp [ha])]
      · have hf1 := figF_r (KT b n t) (VT b n t) ((9 : Nat) : Int)
        have hT2 : TSA (up M 60 (up (up (M 60) 9 (figF (KT b n t) (VT b n t) ((9 : Nat) : Int) : Int)) 10 (BT b n t : Int))) b n T t := hT.mem (fun a _ _ => up_ne _ _ (by omega))
        refine wp_bipush (n := 11) K dX4_readDeed_9 rfl rfl ?_
        refine wp_goto K dX4_readDeed_11 (tgt := 16) (by decide) ?_
        refine wp_istore_n (n := 17) K dX4_readDeed_16 rfl (by decide) ?_
        refine wp_aload_n (n := 18) K dX4_readDeed_17 rfl rfl ?_
        refine wp_aload_n (n := 19) K dX4_readDeed_18 rfl rfl ?_
        refine wp_iload_n (n := 20) K dX4_readDeed_19 rfl rfl ?_
        refine wp_invV_i (n := 23) K dX4_readDeed_20 rfl cf_X4_112 (c_numN 9 (by decide) hok _ _ hT h9 qf) rfl rfl rfl (liS rfl) rfl (by decide) ⟨Nat.le_refl _, Nat.le_refl _⟩ (Nat.le_of_ble_eq_true rfl) ?_
        refine wp_istore_n (n := 24) K dX4_readDeed_23 rfl (by decide) ?_
        refine wp_iconst (n := 25) K dX4_readDeed_24 rfl ?_
        refine wp_istore (n := 27) K dX4_readDeed_25 rfl (by decide) ?_
        refine wp_aload_n (n := 28) K dX4_readDeed_27 rfl rfl ?_
        refine wp_getI (n := 31) K dX4_readDeed_28 rfl fl_X4_51 rfl (liS rfl) rfl ?_
        try simp only [up_same, up_up, up_ne, ne_eq, Nat.reduceEqDiff, not_false_eq_true, Int.reduceToNat, Int.toNat_natCast]
        refine wp_bipush (n := 33) K dX4_readDeed_31 rfl rfl ?_
        refine wp_icmp_ne (n := 36) K dX4_readDeed_33 rfl (tgt := 51) (by decide) ⟨by omega, by omega⟩ ⟨by omega, by omega⟩ (fun c33 => ?_) (fun c33 => ?_)
        · omega
        · refine wp_aload_n (n := 37) K dX4_readDeed_36 rfl rfl ?_
          refine wp_aload_n (n := 38) K dX4_readDeed_37 rfl rfl ?_
          refine wp_bipush (n := 40) K dX4_readDeed_38 rfl rfl ?_
          refine wp_invV_n (n := 43) K dX4_readDeed_40 rfl cf_X4_116 (c_passF (b := b) (n := n) (T := T) (t := t) 14 _ _ _ (by simp [up]) qf hf1) rfl rfl rfl (liS rfl) rfl (by decide) ⟨Nat.le_refl _, Nat.le_refl _⟩ (Nat.le_of_ble_eq_true rfl) ?_
          refine wp_aload_n (n := 44) K dX4_readDeed_43 rfl rfl ?_
          refine wp_aload_n (n := 45) K dX4_readDeed_44 rfl rfl ?_
          refine wp_iload_n (n := 46) K dX4_readDeed_45 rfl rfl ?_
          refine wp_invV_i (n := 49) K dX4_readDeed_46 rfl cf_X4_112 (c_numF 9 _ (by decide) hok _ _ hT2 (by simp [up]) qf hf1) rfl rfl rfl (liS rfl) rfl (by decide) ⟨Nat.le_refl _, Nat.le_refl _⟩ (Nat.le_of_ble_eq_true rfl) ?_
          refine wp_istore (n := 51) K dX4_readDeed_49 rfl (by decide) ?_
          refine kF _ t _ _ _ _ qf hf1 (hr.trans (Rch.one (s7_n (so := 5) qf))) (fun a ha => ?_) (by simp [up]) (by simp [up]) (by rw [up_ne _ _ (by decide)])
          simp only [List.mem_cons, List.not_mem_nil, or_false, not_or] at ha
          rw [up_ne _ _ (by simp [ha])]
  · have htop : topF s = ((11 : Nat) : Int) := by unfold topF; rw [if_neg q5]; rfl
    refine wp_aload_n (n := 1) K dX4_readDeed_0 rfl rfl ?_
    refine wp_getI (n := 4) K dX4_readDeed_1 rfl fl_X4_51 rfl (liS rfl) rfl ?_
    try simp only [up_same, up_up, up_ne, ne_eq, Nat.reduceEqDiff, not_false_eq_true, Int.reduceToNat, Int.toNat_natCast]
    refine wp_bipush (n := 6) K dX4_readDeed_4 rfl rfl ?_
    refine wp_icmp_ne (n := 9) K dX4_readDeed_6 rfl (tgt := 14) (by decide) ⟨by omega, by omega⟩ ⟨by omega, by omega⟩ (fun c6 => ?_) (fun c6 => ?_)
    · by_cases qf : figF (KT b n t) (VT b n t) ((11 : Nat) : Int) = 0
      · refine wp_bipush (n := 16) K dX4_readDeed_14 rfl rfl ?_
        refine wp_istore_n (n := 17) K dX4_readDeed_16 rfl (by decide) ?_
        refine wp_aload_n (n := 18) K dX4_readDeed_17 rfl rfl ?_
        refine wp_aload_n (n := 19) K dX4_readDeed_18 rfl rfl ?_
        refine wp_iload_n (n := 20) K dX4_readDeed_19 rfl rfl ?_
        refine wp_invV_qi (n := 23) K dX4_readDeed_20 rfl cf_X4_112 (c_numY 11 (by decide) hok _ _ hT h9 qf) rfl rfl rfl (liS rfl) rfl (by decide) ⟨Nat.le_refl _, Nat.le_refl _⟩ (Nat.le_of_ble_eq_true rfl) (fun A hA gA => ?_)
        refine wp_istore_n (n := 24) K dX4_readDeed_23 rfl (by decide) ?_
        refine wp_iconst (n := 25) K dX4_readDeed_24 rfl ?_
        refine wp_istore (n := 27) K dX4_readDeed_25 rfl (by decide) ?_
        refine wp_aload_n (n := 28) K dX4_readDeed_27 rfl rfl ?_
        refine wp_getI (n := 31) K dX4_readDeed_28 rfl fl_X4_51 rfl (liS rfl) rfl ?_
        try simp only [up_same, up_up, up_ne, ne_eq, Nat.reduceEqDiff, not_false_eq_true, Int.reduceToNat, Int.toNat_natCast]
        rw [hA 60 (by decide), h11]
        refine wp_bipush (n := 33) K dX4_readDeed_31 rfl rfl ?_
        refine wp_icmp_ne (n := 36) K dX4_readDeed_33 rfl (tgt := 51) (by decide) ⟨by omega, by omega⟩ ⟨by omega, by omega⟩ (fun c33 => ?_) (fun c33 => ?_)
        · have r1 := hr.trans (Rch.one (s7_y (by rw [htop]; exact qf)))
          rw [if_neg q5] at r1
          refine kE A (t + 1) (VT b n t) (-1) _ _ (hVI _) ⟨by decide, by decide⟩ (Or.inl rfl) (fun u => absurd u q5) r1 gA.1 (fun a ha => hA a ha) gA.2
        · omega
      · have hf1 := figF_r (KT b n t) (VT b n t) ((11 : Nat) : Int)
        refine wp_bipush (n := 16) K dX4_readDeed_14 rfl rfl ?_
        refine wp_istore_n (n := 17) K dX4_readDeed_16 rfl (by decide) ?_
        refine wp_aload_n (n := 18) K dX4_readDeed_17 rfl rfl ?_
        refine wp_aload_n (n := 19) K dX4_readDeed_18 rfl rfl ?_
        refine wp_iload_n (n := 20) K dX4_readDeed_19 rfl rfl ?_
        refine wp_invV_i (n := 23) K dX4_readDeed_20 rfl cf_X4_112 (c_numN 11 (by decide) hok _ _ hT h9 qf) rfl rfl rfl (liS rfl) rfl (by decide) ⟨Nat.le_refl _, Nat.le_refl _⟩ (Nat.le_of_ble_eq_true rfl) ?_
        refine wp_istore_n (n := 24) K dX4_readDeed_23 rfl (by decide) ?_
        refine wp_iconst (n := 25) K dX4_readDeed_24 rfl ?_
        refine wp_istore (n := 27) K dX4_readDeed_25 rfl (by decide) ?_
        refine wp_aload_n (n := 28) K dX4_readDeed_27 rfl rfl ?_
        refine wp_getI (n := 31) K dX4_readDeed_28 rfl fl_X4_51 rfl (liS rfl) rfl ?_
        try simp only [up_same, up_up, up_ne, ne_eq, Nat.reduceEqDiff, not_false_eq_true, Int.reduceToNat, Int.toNat_natCast]
        rw [h11]
        refine wp_bipush (n := 33) K dX4_readDeed_31 rfl rfl ?_
        refine wp_icmp_ne (n := 36) K dX4_readDeed_33 rfl (tgt := 51) (by decide) ⟨by omega, by omega⟩ ⟨by omega, by omega⟩ (fun c33 => ?_) (fun c33 => ?_)
        · have r1 := hr.trans (Rch.one (s7_n (by rw [htop]; exact qf)))
          rw [htop] at r1
          refine kF _ t _ _ _ _ qf hf1 r1 (fun a ha => ?_) (by simp [up]) (by simp [up]) (by rw [up_ne _ _ (by decide)])
          simp only [List.mem_cons, List.not_mem_nil, or_false, not_or] at ha
          rw [up_ne _ _ (by simp [ha])]
        · omega
    · omega
