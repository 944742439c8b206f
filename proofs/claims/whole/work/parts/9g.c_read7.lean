theorem EndR.bud {b : Nat → Int} {n T : Nat} {x0 : Cf} {t nc : Nat} {S S' : ST} {M : MT} (h : EndR b n T x0 t nc S M) (h1 : S'.1 = S.1) (h2 : S'.2.1 = S.2.1) (h91 : 91 ≤ S.2.1) : EndR b n T x0 t nc S' M := by
  rcases h with q | ⟨t', c', cR', on', q1, q2, q3, q4, ⟨q5, q6, q7, q8, q9⟩, q10⟩
  · exact Or.inl q
  · exact Or.inr ⟨t', c', cR', on', q1, q2, q3, q4, ⟨q5, q6, q7, q8, fun s hs => (q9 s hs).gr h91 (by omega) (fun a _ => by rw [h1]) (fun _ _ _ => rfl) rfl (List.suffix_refl _) (fun _ _ => ⟨rfl, rfl, rfl⟩)⟩, q10⟩

theorem c_readClause {b : Nat → Int} {n T t : Nat} (hok : okTp b n) {x0 : Cf} (hx0 : INV (KT b n) x0) (c : List (Int × Int)) (cR : Nat → Int) (nc on : Nat) (hnc : nc ≤ 24) (hon : on < 8) (S : ST) (M : MT) (h91 : 91 ≤ S.2.1)
    (hr : Rch (KT b n) (VT b n) x0 (cf 0 t 0 0 [] c 0 0 false false 0 cR nc on)) (h10 : M 60 10 = -1) (hRT : RT S M b n T t c cR nc on) (hk : KT b n t ≠ 41) : Ct E1 yX4_readClause cX4_readClause 2 none rm_X4_readClause [.ref 60, .ref 55] S M (Qs [55, 60, 61, 62, 63] S M (fun S1 M1 => EndR b n T x0 t nc S1 M1 ∧ M1 55 4 = M 55 4)) := by
  obtain ⟨hT, h6, h9, hSC, hLQ⟩ := id hRT
  have hK := KT_r (t := t) hok
  refine Ct.mk [.ref 60, .ref 55] (by decide) rfl (Nat.le_of_ble_eq_true rfl) (fun X K => ?_)
  refine wp_aload_n (n := 1) K dX4_readClause_0 rfl rfl ?_
  refine wp_aload_n (n := 2) K dX4_readClause_1 rfl rfl ?_
  refine wp_invV_i (n := 5) K dX4_readClause_2 rfl cf_X4_75 (c_kind n T t _ _ b hT) rfl rfl rfl (liS rfl) rfl (by decide) ⟨Nat.add_le_add_left (by decide) _, Nat.add_le_add_left (by decide) _⟩ (Nat.le_of_ble_eq_true rfl) ?_
  refine wp_putI (n := 8) K dX4_readClause_5 rfl fl_X4_51 rfl (liS rfl) (Or.inl rfl) rfl rfl ?_
  try simp only [up_same, up_up, up_ne, ne_eq, Nat.reduceEqDiff, not_false_eq_true, Int.reduceToNat, Int.toNat_natCast]
  generalize hM0 : up M 60 (up (M 60) 11 (KT b n t : Int)) = M0
  have e60 : M0 60 = up (M 60) 11 (KT b n t : Int) := by rw [← hM0, up_same]
  have he : ∀ a, a ≠ 60 → M0 a = M a := fun a ha => by rw [← hM0, up_ne _ _ ha]
  have hT0 : TSA M0 b n T t := hT.mem (fun a _ _ => he a (by omega))
  have hRT0 : RT S M0 b n T t c cR nc on := hRT.mem h91 hT0 (fun j hj => by rw [e60, up_ne _ _ (by omega)]) (he 61 (by decide)) (fun a ha => he a (by omega))
  have h11 : M0 60 11 = (KT b n t : Int) := by rw [e60, up_same]
  have h60' : M0 60 6 = (nc : Int) := hRT0.2.1
  have kF : ∀ f : Nat, f ≠ 0 → f ≤ 6 → Rch (KT b n) (VT b n) x0 (flt t f (fun _ => 0) 0 0) → Wp E1 X 100 [.ref 60, .ref 55] [] S (up M0 60 (up (up (M0 60) 9 (f : Int)) 10 (BT b n t : Int))) := by
    intro f f1 f2 f3
    refine ret_sn K dX4_readClause_100 ?_ ?_ ?_ ?_ ⟨Nat.le_add_right _ _, Nat.le_add_right _ _⟩
    · exact Nat.le_refl _
    · intro a _; rfl
    · intro a _ ha
      simp only [List.mem_cons, List.not_mem_nil, or_false, not_or] at ha
      rw [up_ne _ _ (by simp [ha]), he a (by simp [ha])]
    · exact ⟨Or.inl ⟨t, f, f1, f2, f3, by simp [up], by simp [up]⟩, by rw [up_ne _ _ (by decide), he 55 (by decide)]⟩
  have k26 : ¬ (8 ≤ KT b n t ∧ KT b n t ≤ 13) → Wp E1 X 26 [.ref 60, .ref 55] [] S M0 := fun q => by
    refine wp_aload_n (n := 27) K dX4_readClause_26 rfl rfl ?_
    refine wp_aload_n (n := 28) K dX4_readClause_27 rfl rfl ?_
    refine wp_iconst (n := 29) K dX4_readClause_28 rfl ?_
    refine wp_invV_n (n := 32) K dX4_readClause_29 rfl cf_X4_95 (c_fail 1 _ _ hT0) rfl rfl rfl (liS rfl) rfl (by decide) ⟨Nat.add_le_add_left (by decide) _, Nat.add_le_add_left (by decide) _⟩ (Nat.le_of_ble_eq_true rfl) ?_
    refine wp_goto K dX4_readClause_32 (tgt := 100) (by decide) ?_
    exact kF 1 (by decide) (by decide) (hr.trans (Rch.one (s0_1 hk q)))
  refine wp_aload_n (n := 9) K dX4_readClause_8 rfl rfl ?_
  refine wp_getI (n := 12) K dX4_readClause_9 rfl fl_X4_51 rfl (liS rfl) rfl ?_
  try simp only [up_same, up_up, up_ne, ne_eq, Nat.reduceEqDiff, not_false_eq_true, Int.reduceToNat, Int.toNat_natCast]
  rw [h11]
  refine wp_bipush (n := 14) K dX4_readClause_12 rfl rfl ?_
  refine wp_icmp_lt (n := 17) K dX4_readClause_14 rfl (tgt := 26) (by decide) ⟨by omega, by omega⟩ ⟨by omega, by omega⟩ (fun c14 => ?_) (fun c14 => ?_)
  · exact k26 (by omega)
  · refine wp_aload_n (n := 18) K dX4_readClause_17 rfl rfl ?_
    refine wp_getI (n := 21) K dX4_readClause_18 rfl fl_X4_51 rfl (liS rfl) rfl ?_
    try simp only [up_same, up_up, up_ne, ne_eq, Nat.reduceEqDiff, not_false_eq_true, Int.reduceToNat, Int.toNat_natCast]
    rw [h11]
    refine wp_bipush (n := 23) K dX4_readClause_21 rfl rfl ?_
    refine wp_icmp_le (n := 26) K dX4_readClause_23 rfl (tgt := 35) (by decide) ⟨by omega, by omega⟩ ⟨by omega, by omega⟩ (fun c23 => ?_) (fun c23 => ?_)
    · obtain ⟨s, hs⟩ : ∃ s, KT b n t = s + 8 := ⟨KT b n t - 8, by omega⟩
      have hs5 : s ≤ 5 := by omega
      have h11' : M0 60 11 = (s : Int) + 8 := by rw [h11, hs]; omega
      refine wp_aload_n (n := 36) K dX4_readClause_35 rfl rfl ?_
      refine wp_aload_n (n := 37) K dX4_readClause_36 rfl rfl ?_
      refine wp_getI (n := 40) K dX4_readClause_37 rfl fl_X4_51 rfl (liS rfl) rfl ?_
      try simp only [up_same, up_up, up_ne, ne_eq, Nat.reduceEqDiff, not_false_eq_true, Int.reduceToNat, Int.toNat_natCast]
      rw [h11']
      refine wp_invV_i (n := 43) K dX4_readClause_40 rfl cf_X4_99 (c_isTold s on nc hs5 _ _ c cR hRT0.2.2.2.2) rfl rfl rfl (liS rfl) rfl (by decide) ⟨Nat.add_le_add_left (by decide) _, Nat.add_le_add_left (by decide) _⟩ (Nat.le_of_ble_eq_true rfl) ?_
      refine wp_if_eq_b (n := 46) K dX4_readClause_43 rfl (tgt := 55) (by decide) (fun c43 => ?_) (fun c43 => ?_)
      · have qt : ¬ (s ≤ 2 ∧ on / 2 ^ s % 2 = 1) := of_decide_eq_false c43
        refine wp_aload_n (n := 56) K dX4_readClause_55 rfl rfl ?_
        refine wp_getI (n := 59) K dX4_readClause_56 rfl fl_X4_35 rfl (liS rfl) rfl ?_
        try simp only [up_same, up_up, up_ne, ne_eq, Nat.reduceEqDiff, not_false_eq_true, Int.reduceToNat, Int.toNat_natCast]
        rw [h60']
        refine wp_bipush (n := 61) K dX4_readClause_59 rfl rfl ?_
        refine wp_icmp_lt (n := 64) K dX4_readClause_61 rfl (tgt := 74) (by decide) ⟨by omega, by omega⟩ ⟨by omega, by omega⟩ (fun c61 => ?_) (fun c61 => ?_)
        · have hr1 := hr.trans (Rch.one (s0_y hs5 hs qt (by omega)))
          refine wp_aload_n (n := 75) K dX4_readClause_74 rfl rfl ?_
          refine wp_invV_qn (n := 78) K dX4_readClause_75 rfl cf_X4_103 (c_advance n T t _ _ b hT0 hk) rfl rfl rfl (liS rfl) rfl (by decide) ⟨Nat.add_le_add_left (by decide) _, Nat.add_le_add_left (by decide) _⟩ (Nat.le_of_ble_eq_true rfl) (fun A hA gA => ?_)
          refine wp_aload_n (n := 79) K dX4_readClause_78 rfl rfl ?_
          refine wp_getI (n := 82) K dX4_readClause_79 rfl fl_X4_51 rfl (liS rfl) rfl ?_
          try simp only [up_same, up_up, up_ne, ne_eq, Nat.reduceEqDiff, not_false_eq_true, Int.reduceToNat, Int.toNat_natCast]
          have a60 : A 60 = M0 60 := hA 60 (by decide)
          have hRA : RT S A b n T (t + 1) c cR nc on := hRT0.mem h91 gA.1 (fun j _ => by rw [a60]) (hA 61 (by decide)) (fun a ha => hA a (by simp; omega))
          have aout : ∀ a, a ∉ [55, 60] → A a = M a := fun a ha => by
            simp only [List.mem_cons, List.not_mem_nil, or_false, not_or] at ha
            rw [hA a (by simp [ha]), he a (by simp [ha])]
          have a11 : A 60 11 = (s : Int) + 8 := by rw [a60]; exact h11'
          have a10 : A 60 10 = -1 := by rw [a60, e60, up_ne _ _ (by decide)]; exact h10
          have a4 : A 55 4 = M 55 4 := by rw [gA.2, he 55 (by decide)]
          rw [a11]
          refine wp_bipush (n := 84) K dX4_readClause_82 rfl rfl ?_
          refine wp_icmp_gt (n := 87) K dX4_readClause_84 rfl (tgt := 95) (by decide) ⟨by omega, by omega⟩ ⟨by omega, by omega⟩ (fun c84 => ?_) (fun c84 => ?_)
          · rw [show bgM s = 7 by unfold bgM; rw [if_neg (by omega), if_neg (by omega)], show onF on s = on by unfold onF; rw [if_neg (by omega)]] at hr1
            refine wp_aload_n (n := 96) K dX4_readClause_95 rfl rfl ?_
            refine wp_aload_n (n := 97) K dX4_readClause_96 rfl rfl ?_
            refine wp_invV_qn (n := 100) K dX4_readClause_97 rfl cf_X4_109 (c_readDeed hok s (by omega) hs5 c cR nc on (by omega) hon _ _ h91 a11 hr1 a10 hRA) rfl rfl rfl (liS rfl) rfl (by decide) ⟨Nat.add_le_add_left (by decide) _, Nat.add_le_add_left (by decide) _⟩ (Nat.le_of_ble_eq_true rfl) (fun C hC gC => ?_)
            refine ret_sn K dX4_readClause_100 ?_ ?_ ?_ ?_ ⟨Nat.le_add_right _ _, Nat.le_add_right _ _⟩
            · exact Nat.le_refl _
            · intro a _; rfl
            · intro a _ ha
              simp only [List.mem_cons, List.not_mem_nil, or_false, not_or] at ha
              rw [hC a (by simp [ha]), aout a (by simp [ha])]
            · refine ⟨gC.1.bud rfl rfl h91, gC.2.trans a4⟩
          · refine wp_aload_n (n := 88) K dX4_readClause_87 rfl rfl ?_
            refine wp_aload_n (n := 89) K dX4_readClause_88 rfl rfl ?_
            refine wp_invV (n := 92) K dX4_readClause_89 rfl cf_X4_106 rfl (liS rfl) rfl (c_readLaw hok hx0 s (by omega) c cR nc on (by omega) hon (by omega) (by omega) _ _ h91 a11 hr1 a10 hRA) rfl rfl (by decide) ⟨Nat.le_refl _, Nat.le_refl _⟩ (Nat.le_of_ble_eq_true rfl) (fun rB SB B hB hcB hsB => ?_)
            obtain ⟨rfl, e1, e2, e3, e4, e5⟩ := hB
            refine wp_goto K dX4_readClause_92 (tgt := 100) (by decide) ?_
            refine ret_sn K dX4_readClause_100 ?_ ?_ ?_ ?_ ⟨by rw [hcB]; exact Nat.le_refl _, by rw [hsB]; exact Nat.le_refl _⟩
            · exact e1
            · exact e2
            · intro a h1 ha
              rw [e3 a h1 ha]
              simp only [List.mem_cons, List.not_mem_nil, or_false, not_or] at ha
              exact aout a (by simp [ha])
            · refine ⟨e4.bud rfl rfl (by omega), e5.trans a4⟩
        · refine wp_aload_n (n := 65) K dX4_readClause_64 rfl rfl ?_
          refine wp_aload_n (n := 66) K dX4_readClause_65 rfl rfl ?_
          refine wp_bipush (n := 68) K dX4_readClause_66 rfl rfl ?_
          refine wp_invV_n (n := 71) K dX4_readClause_68 rfl cf_X4_95 (c_fail 6 _ _ hT0) rfl rfl rfl (liS rfl) rfl (by decide) ⟨Nat.add_le_add_left (by decide) _, Nat.add_le_add_left (by decide) _⟩ (Nat.le_of_ble_eq_true rfl) ?_
          refine wp_goto K dX4_readClause_71 (tgt := 100) (by decide) ?_
          exact kF 6 (by decide) (by decide) (hr.trans (Rch.one (s0_6 (by omega) (by rw [hs]; exact fun u => qt ⟨by omega, by have := u.2; rw [show s + 8 - 8 = s by omega] at this; exact this⟩) (by omega))))
      · have qt : s ≤ 2 ∧ on / 2 ^ s % 2 = 1 := of_decide_eq_true c43
        refine wp_aload_n (n := 47) K dX4_readClause_46 rfl rfl ?_
        refine wp_aload_n (n := 48) K dX4_readClause_47 rfl rfl ?_
        refine wp_iconst (n := 49) K dX4_readClause_48 rfl ?_
        refine wp_invV_n (n := 52) K dX4_readClause_49 rfl cf_X4_95 (c_fail 4 _ _ hT0) rfl rfl rfl (liS rfl) rfl (by decide) ⟨Nat.add_le_add_left (by decide) _, Nat.add_le_add_left (by decide) _⟩ (Nat.le_of_ble_eq_true rfl) ?_
        refine wp_goto K dX4_readClause_52 (tgt := 100) (by decide) ?_
        exact kF 4 (by decide) (by decide) (hr.trans (Rch.one (s0_4 (by omega) ⟨by omega, by rw [hs, show s + 8 - 8 = s by omega]; exact qt.2⟩)))
    · exact k26 (by omega)
/-- where reading begins -/
def X00 : Cf := cf 0 0 0 0 [] [] 0 0 false false 0 (fun _ => 0) 0 0
def RdEnd (b : Nat → Int) (n : Nat) (S' : ST) (M' : MT) : Prop := (∃ t' f : Nat, f ≠ 0 ∧ f ≤ 6 ∧ Rch (KT b n) (VT b n) X00 (flt t' f (fun _ => 0) 0 0) ∧ M' 60 9 = (f : Int) ∧ M' 60 10 = (BT b n t' : Int)) ∨ (∃ (T t' : Nat) (c' : List (Int × Int)) (cR' : Nat → Int) (nc' on' : Nat), nc' ≤ 24 ∧ Rch (KT b n) (VT b n) X00 (cf 9 t' 0 0 [] c' 0 0 false false 0 cR' nc' on') ∧ RT S' M' b n T t' c' cR' nc' on' ∧ M' 60 10 = -1)

theorem c_read {b : Nat → Int} {n : Nat} (hn : n ≤ 300) (hok : okTp b n) (S : ST) (M : MT) (h91 : 91 ≤ S.2.1) (hTB : TB M b n) : Ct E1 yX4_read cX4_read 3 none rm_X4_read [.ref 60, .ref 55] S M (Qs [55, 57, 58, 59, 60, 61, 62, 63] S M (fun S1 M1 => RdEnd b n S1 M1 ∧ M1 55 4 = M 55 4)) := by
  refine Ct.mk [.ref 60, .ref 55, mkV] (by decide) rfl (Nat.le_of_ble_eq_true rfl) (fun X K => ?_)
  refine wp_aload_n (n := 1) K dX4_read_0 rfl rfl ?_
  refine wp_getNC (n := 4) K dX4_read_1 rfl nc_X4_23 ?_
  refine wp_putR (n := 7) K dX4_read_4 rfl fl_X4_26 rfl (liS rfl) (Or.inl rfl) rfl rfl ?_
  try simp only [up_same, up_up, up_ne, ne_eq, Nat.reduceEqDiff, not_false_eq_true, Int.reduceToNat, Int.toNat_natCast]
  refine wp_aload_n (n := 8) K dX4_read_7 rfl rfl ?_
  refine wp_getNC (n := 11) K dX4_read_8 rfl nc_X4_23 ?_
  refine wp_putR (n := 14) K dX4_read_11 rfl fl_X4_29 rfl (liS rfl) (Or.inl rfl) rfl rfl ?_
  try simp only [up_same, up_up, up_ne, ne_eq, Nat.reduceEqDiff, not_false_eq_true, Int.reduceToNat, Int.toNat_natCast]
  refine wp_aload_n (n := 15) K dX4_read_14 rfl rfl ?_
  refine wp_getNC (n := 18) K dX4_read_15 rfl nc_X4_23 ?_
  refine wp_putR (n := 21) K dX4_read_18 rfl fl_X4_32 rfl (liS rfl) (Or.inl rfl) rfl rfl ?_
  try simp only [up_same, up_up, up_ne, ne_eq, Nat.reduceEqDiff, not_false_eq_true, Int.reduceToNat, Int.toNat_natCast]
  refine wp_aload_n (n := 22) K dX4_read_21 rfl rfl ?_
  refine wp_iconst (n := 23) K dX4_read_22 rfl ?_
  refine wp_putI (n := 26) K dX4_read_23 rfl fl_X4_35 rfl (liS rfl) (Or.inl rfl) rfl rfl ?_
  try simp only [up_same, up_up, up_ne, ne_eq, Nat.reduceEqDiff, not_false_eq_true, Int.reduceToNat, Int.toNat_natCast]
  refine wp_aload_n (n := 27) K dX4_read_26 rfl rfl ?_
  refine wp_iconst (n := 28) K dX4_read_27 rfl ?_
  refine wp_putI (n := 31) K dX4_read_28 rfl fl_X4_45 rfl (liS rfl) (Or.inl rfl) rfl rfl ?_
  try simp only [up_same, up_up, up_ne, ne_eq, Nat.reduceEqDiff, not_false_eq_true, Int.reduceToNat, Int.toNat_natCast]
  refine wp_aload_n (n := 32) K dX4_read_31 rfl rfl ?_
  refine wp_iconst (n := 33) K dX4_read_32 rfl ?_
  refine wp_putI (n := 36) K dX4_read_33 rfl fl_X4_48 rfl (liS rfl) (Or.inl rfl) rfl rfl ?_
  try simp only [up_same, up_up, up_ne, ne_eq, Nat.reduceEqDiff, not_false_eq_true, Int.reduceToNat, Int.toNat_natCast]
  generalize hM0 : up M 60 _ = M0
  have he : ∀ a, a ≠ 60 → M0 a = M a := fun a ha => by rw [← hM0, up_ne _ _ ha]
  have g3 : M0 60 3 = 1 ∧ M0 60 4 = 1 ∧ M0 60 5 = 1 ∧ M0 60 6 = 0 ∧ M0 60 9 = 0 ∧ M0 60 10 = -1 := by rw [← hM0]; simp [up]
  obtain ⟨m3, m4, m5, m6, m9, m10⟩ := g3
  have hTB0 : TB M0 b n := hTB.mem (by rw [he 55 (by decide)]) (he 56 (by decide))
  refine wp_aload_n (n := 37) K dX4_read_36 rfl rfl ?_
  refine wp_invV_qn (n := 40) K dX4_read_37 rfl cf_X4_70 (c_split n hn _ _ b hTB0 hok) rfl rfl rfl (liS rfl) rfl (by decide) ⟨Nat.add_le_add_left (by decide) _, Nat.add_le_add_left (by decide) _⟩ (Nat.le_of_ble_eq_true rfl) (fun A hA gA => ?_)
  refine wp_iconst (n := 41) K dX4_read_40 rfl ?_
  refine wp_istore_n (n := 42) K dX4_read_41 rfl (by decide) ?_
  obtain ⟨gTB, g7, T, gSPL⟩ := gA
  have a60 : A 60 = M0 60 := hA 60 (by decide)
  have hx0 : INV (KT b n) X00 := INV.top
  have key : ∀ (d i t : Nat) (c : List (Int × Int)) (cR : Nat → Int) (on : Nat) (S1 : ST) (M1 : MT), i + d = 25 → i ≤ 24 → on < 8 → S.2.1 ≤ S1.2.1 → (∀ a, a < S.2.1 → S1.1 a = S.1 a) → (∀ a, a < S.2.1 → a ∉ [55, 57, 58, 59, 60, 61, 62, 63] → M1 a = M a) → M1 55 4 = M 55 4 → S1.2.2.1 = S.2.2.1 + i → S1.2.2.2 = S.2.2.2 + 300 * i → Rch (KT b n) (VT b n) X00 (cf 0 t 0 0 [] c 0 0 false false 0 cR i on) → RT S1 M1 b n T t c cR i on → M1 60 10 = -1 → Wp E1 X 42 [.ref 60, .ref 55, .int (z (i : Int))] [] S1 M1 := by
    intro d
    induction d with
    | zero => intro i; intros; omega
    | succ d ih =>
      intro i t c cR on S1 M1 hd hi hon h1 h2 h3 h4 h5 h6 hr hRT h10
      have hT := hRT.1
      have h9 := hRT.2.2.1
      have hK := KT_r (t := t) hok
      refine wp_iload_n (n := 43) K dX4_read_42 rfl rfl ?_
      refine wp_bipush (n := 45) K dX4_read_43 rfl rfl ?_
      refine wp_icmp_gt (n := 48) K dX4_read_45 rfl (tgt := 75) (by decide) ⟨by omega, by omega⟩ ⟨by omega, by omega⟩ (fun c45 => ?_) (fun c45 => ?_)
      · omega
      · refine wp_aload_n (n := 49) K dX4_read_48 rfl rfl ?_
        refine wp_getI (n := 52) K dX4_read_49 rfl fl_X4_45 rfl (liS rfl) rfl ?_
        try simp only [up_same, up_up, up_ne, ne_eq, Nat.reduceEqDiff, not_false_eq_true, Int.reduceToNat, Int.toNat_natCast]
        rw [h9]
        refine wp_if_ne (n := 55) K dX4_read_52 rfl (tgt := 75) (by decide) ⟨by omega, by omega⟩ (fun c52 => ?_) (fun c52 => ?_)
        · exact absurd rfl c52
        · refine wp_aload_n (n := 56) K dX4_read_55 rfl rfl ?_
          refine wp_invV_i (n := 59) K dX4_read_56 rfl cf_X4_75 (c_kind n T t _ _ b hT) rfl rfl rfl (liS rfl) rfl (by decide) ⟨by show S1.2.2.1 + 0 ≤ _ + 25; omega, by show S1.2.2.2 + 0 ≤ _ + 7500; omega⟩ (Nat.le_of_ble_eq_true rfl) ?_
          refine wp_bipush (n := 61) K dX4_read_59 rfl rfl ?_
          refine wp_icmp_eq (n := 64) K dX4_read_61 rfl (tgt := 75) (by decide) ⟨by omega, by omega⟩ ⟨by omega, by omega⟩ (fun c61 => ?_) (fun c61 => ?_)
          · refine ret_sn K dX4_read_75 ?_ ?_ ?_ ?_ ⟨by show S1.2.2.1 ≤ _ + 25; omega, by show S1.2.2.2 ≤ _ + 7500; omega⟩
            · exact h1
            · exact h2
            · exact h3
            · refine ⟨Or.inr ⟨T, t, c, cR, i, on, hi, hr.trans (Rch.one (s0_e (by omega))), ?_, h10⟩, h4⟩
              obtain ⟨q5, q6, q7, q8, q9⟩ := hRT
              exact ⟨q5, q6, q7, q8, fun s hs => (q9 s hs).gr (by omega) (Nat.le_refl _) (fun _ _ => rfl) (fun _ _ _ => rfl) rfl (List.suffix_refl _) (fun _ _ => ⟨rfl, rfl, rfl⟩)⟩
          · refine wp_aload_n (n := 65) K dX4_read_64 rfl rfl ?_
            refine wp_aload_n (n := 66) K dX4_read_65 rfl rfl ?_
            refine wp_invV (n := 69) K dX4_read_66 rfl cf_X4_79 rfl (liS rfl) rfl (c_readClause hok hx0 c cR i on hi hon _ _ (by omega) hr h10 hRT (by omega)) rfl rfl (by decide) ⟨by show S1.2.2.1 + 1 ≤ _ + 25; omega, by show S1.2.2.2 + 300 ≤ _ + 7500; omega⟩ (Nat.le_of_ble_eq_true rfl) (fun rB SB B hB hcB hsB => ?_)
            obtain ⟨rfl, e1, e2, e3, e4, e5⟩ := hB
            have hcB' : SB.2.2.1 = S1.2.2.1 + 1 := hcB
            have hsB' : SB.2.2.2 = S1.2.2.2 + 300 := hsB
            show Wp E1 X 69 _ [] SB B
            refine wp_iinc (n := 72) K dX4_read_69 rfl rfl (by decide) ?_
            refine wp_goto K dX4_read_72 (tgt := 42) (by decide) ?_
            rw [show (i : Int) + 1 = ((i + 1 : Nat) : Int) by omega]
            have e3' : ∀ a, a < S.2.1 → a ∉ [55, 57, 58, 59, 60, 61, 62, 63] → B a = M a := fun a u1 u2 => by
              rw [← h3 a u1 u2]
              refine e3 a (by omega) (fun q => u2 ?_)
              simp only [List.mem_cons, List.not_mem_nil, or_false] at q ⊢
              omega
            rcases e4 with ⟨t', f, f1, f2, f3, f4, f5⟩ | ⟨t', c', cR', on', q1, q2, q3, q4, q5, q6⟩
            · have k75 : Wp E1 X 75 [.ref 60, .ref 55, .int (z ((i + 1 : Nat) : Int))] [] SB B := by
                refine ret_sn K dX4_read_75 ?_ ?_ ?_ ?_ ⟨by show SB.2.2.1 ≤ _ + 25; omega, by show SB.2.2.2 ≤ _ + 7500; omega⟩
                · omega
                · intro a ha; rw [e2 a (by omega), h2 a ha]
                · exact e3'
                · exact ⟨Or.inl ⟨t', f, f1, f2, f3, f4, f5⟩, e5.trans h4⟩
              refine wp_iload_n (n := 43) K dX4_read_42 rfl rfl ?_
              refine wp_bipush (n := 45) K dX4_read_43 rfl rfl ?_
              refine wp_icmp_gt (n := 48) K dX4_read_45 rfl (tgt := 75) (by decide) ⟨by omega, by omega⟩ ⟨by omega, by omega⟩ (fun c45 => ?_) (fun c45 => ?_)
              · exact k75
              · refine wp_aload_n (n := 49) K dX4_read_48 rfl rfl ?_
                refine wp_getI (n := 52) K dX4_read_49 rfl fl_X4_45 rfl (liS rfl) rfl ?_
                try simp only [up_same, up_up, up_ne, ne_eq, Nat.reduceEqDiff, not_false_eq_true, Int.reduceToNat, Int.toNat_natCast]
                rw [f4]
                refine wp_if_ne (n := 55) K dX4_read_52 rfl (tgt := 75) (by decide) ⟨by omega, by omega⟩ (fun c52 => ?_) (fun c52 => ?_)
                · exact k75
                · omega
            · exact ih (i + 1) t' c' cR' on' SB B (by omega) (by omega) q3 (by omega) (fun a ha => by rw [e2 a (by omega), h2 a ha]) e3' (e5.trans h4) (by rw [hcB', h5, Nat.add_assoc]) (by rw [hsB', h6, Nat.mul_succ, Nat.add_assoc]) q4 q5 q6
  refine key 25 0 0 [] (fun _ => 0) 0 S A (by omega) (by omega) (by omega) (Nat.le_refl _) (fun _ _ => rfl) (fun a _ ha => ?_) ?_ (by omega) (by omega) (Rch.refl _) ⟨⟨gSPL, Nat.zero_le _, g7⟩, by rw [a60]; exact m6, by rw [a60]; exact m9, fun k hk => by omega, fun s hs => Or.inl ⟨by rw [Nat.zero_div], ?_, fun k hk => by omega⟩⟩ (by rw [a60]; exact m10)
  · simp only [List.mem_cons, List.not_mem_nil, or_false, not_or] at ha
    rw [hA a (by simp [ha]), he a (by simp [ha])]
  · rw [gTB.1, hTB.1]
  · rw [a60]
    rcases (show s = 0 ∨ s = 1 ∨ s = 2 by omega) with rfl | rfl | rfl
    · exact m3
    · exact m4
    · exact m5
