theorem cmp_enc {k : Nat} (h : 0 ≤ cmpF k) : encK (cmpF k) = (k : Int) ∧ 10 ≤ cmpF k ∧ cmpF k ≤ 15 ∧ clo (k : Int) = 4 ∧ (k ≤ 23 ∨ k = 31 ∨ k = 32) ∧ 20 ≤ k := by
  have hk : k = 20 ∨ k = 21 ∨ k = 22 ∨ k = 23 ∨ k = 31 ∨ k = 32 := by
    unfold cmpF at h
    (repeat' split at h) <;> omega
  rcases hk with rfl | rfl | rfl | rfl | rfl | rfl <;> decide

/-- a comparison -/
theorem c_signB (k : Nat) (hk : 0 ≤ cmpF k) (S : ST) (M : MT) (so : Nat) (pl : List Int) (c : List (Int × Int)) (no : Nat) (an od : Bool) (fr j : Nat) (hL : LRc M so pl c 0 no an od fr j) (hd : pl.head? ≠ some 2) (hln : lnW pl c 0 no an od ≤ 300) (hm : 40 ∉ pl) (hso : so ≠ 0) : Ct E1 yX4_takeSign cX4_takeSign 3 (some .int) rm_X4_takeSign [.ref 60, .int (z (k : Int))] S M (Qi 0 [60, 62, 63] S M (fun M1 => RK2 M M1 ∧ M1 60 15 = M 60 15 ∧ M1 60 14 = 1 ∧ LRc M1 so [] (stl 3 pl c).2 (cmpF k) no an od fr 0)) := by
  obtain ⟨l1, l2, l3, l4, l5, l6, l7, l8, l9, l10, cc, l11, l12⟩ := id hL
  obtain ⟨q1, q2, q3, q4, q5, q6⟩ := cmp_enc hk
  have hwl := w_len l5 l6 0 an od
  have hI := okI_w l5 j 0 no an od l4
  have ho := opW_w l5 j no 0 an od l4
  have hc0 : pl.count 40 = 0 := (cnt40 pl).mpr hm
  have hlen : (List.replicate j (33 : Int) ++ (pl.map eW ++ tlW 0 no an od)).length + cc.length ≤ 300 := by
    have h1 := cE_len c l3
    rw [l11] at h1
    simp only [List.length_append, List.length_replicate, List.length_map, tlW_len] at h1 ⊢
    unfold lnW at hln
    omega
  have hst := stC_all 4 3 (by omega) (M := M) (so := so) (cm := 0) (no := no) (an := an) (od := od) l5 hd l3 l11 (j + no + opn pl) (by omega)
  have hsr := stl_r 3 pl c (by omega) l5
  have hn := stl_nil pl c l5 hd hm
  have hop0 : opn pl = 0 := by rw [← hsr.2.1, hn]; rfl
  have e1 : stC (clo (k : Int)) (List.replicate j 33 ++ (pl.map eW ++ tlW 0 no an od)) cc (j + no + opn pl) = (tlW 0 no an od, cE (stl 3 pl c).2 fr, no) := by
    rw [q4, hst.1, if_pos hn, stC_tl4 0 no an od rfl, show j + no + opn pl - j = no by omega]
  have d16 : decide ((0 : Int) ≠ 0) = false := rfl
  rw [d16] at l9
  refine Ct.mk [.ref 60, .int (z (k : Int)), mkV] (by decide) rfl (Nat.le_of_ble_eq_true rfl) (fun X K => ?_)
  refine sign_pre K M k so (pl.count 40) (by omega) l8 l1 l2 ?_
  rw [hc0, decide_eq_true (p := so ≠ 0) hso]
  have l13 := l12.set 16 1 (by decide) (by decide) (by decide)
  have k76 : Wp E1 X 76 [.ref 60, .int (z (k : Int)), .int (z (bI true))] [] S M := by
    refine wp_aload_n (n := 77) K dX4_takeSign_76 rfl rfl ?_
    refine wp_iload_n (n := 78) K dX4_takeSign_77 rfl rfl ?_
    refine wp_invV_i (n := 81) K dX4_takeSign_78 rfl cf_X4_162 (c_isComparison k (by omega) _ _) rfl rfl rfl (liS rfl) rfl (by decide) ⟨Nat.le_refl _, Nat.le_refl _⟩ (Nat.le_of_ble_eq_true rfl) ?_
    refine wp_if_eq_b (n := 84) K dX4_takeSign_81 rfl (tgt := 107) (by decide) (fun c81 => ?_) (fun c81 => ?_)
    · have := of_decide_eq_false c81; omega
    · refine wp_iload_n (n := 85) K dX4_takeSign_84 rfl rfl ?_
      refine wp_if_eq_b (n := 88) K dX4_takeSign_85 rfl (tgt := 107) (by decide) (fun c85 => ?_) (fun c85 => ?_)
      · cases c85
      · refine wp_aload_n (n := 89) K dX4_takeSign_88 rfl rfl ?_
        refine wp_getI (n := 92) K dX4_takeSign_89 rfl fl_X4_67 rfl (liS rfl) rfl ?_
        try simp only [up_same, up_up, up_ne, ne_eq, Nat.reduceEqDiff, not_false_eq_true, Int.reduceToNat, Int.toNat_natCast]
        rw [l9]
        refine wp_if_ne_b (n := 95) K dX4_takeSign_92 rfl (tgt := 107) (by decide) (fun c92 => ?_) (fun c92 => ?_)
        · cases c92
        · refine wp_aload_n (n := 96) K dX4_takeSign_95 rfl rfl ?_
          refine wp_iconst (n := 97) K dX4_takeSign_96 rfl ?_
          refine wp_putZ (n := 100) K dX4_takeSign_97 rfl fl_X4_67 rfl (liS rfl) (Or.inl rfl) rfl rfl (by first | exact Or.inl rfl | exact Or.inr rfl) ?_
          try simp only [up_same, up_up, up_ne, ne_eq, Nat.reduceEqDiff, not_false_eq_true, Int.reduceToNat, Int.toNat_natCast]
          refine wp_aload_n (n := 101) K dX4_takeSign_100 rfl rfl ?_
          refine wp_iload_n (n := 102) K dX4_takeSign_101 rfl rfl ?_
          refine wp_invV_qn (n := 105) K dX4_takeSign_102 rfl cf_X4_156 (c_join (k : Int) ⟨by omega, by omega⟩ _ cc _ (by omega) hlen hI (by omega) (by omega) _ _ l13) rfl rfl rfl (liS rfl) rfl (by decide) ⟨Nat.le_refl _, Nat.le_refl _⟩ (Nat.le_of_ble_eq_true rfl) (fun A1 hA1 gA1 => ?_)
          refine wp_iconst (n := 106) K dX4_takeSign_105 rfl ?_
          refine ret_qi K dX4_takeSign_106 ?_ rfl ?_ ?_ ⟨Nat.le_refl _, Nat.le_refl _⟩
          · rfl
          · intro a ha
            simp only [List.mem_cons, List.not_mem_nil, or_false, not_or] at ha
            rw [hA1 a (by simp [ha]), up_ne _ _ (by simp [ha])]
          · obtain ⟨g1, g2, g3⟩ := gA1
            rw [e1] at g1
            have hr : ∀ i, i ≠ 7 → i ≠ 8 → i ≠ 12 → i ≠ 14 → i ≠ 16 → A1 60 i = M 60 i := fun i a b c d e => by rw [g3 i a b c d, up_same, up_ne _ _ e]
            refine ⟨fun i hi => hr i (by omega) (by omega) (by omega) (by omega) (by omega), hr 15 (by decide) (by decide) (by decide) (by decide) (by decide), g2, ?_⟩
            refine ⟨by rw [hr 11 (by decide) (by decide) (by decide) (by decide) (by decide)]; exact l1, l2, hst.2, Or.inr ⟨q2, q3⟩, trivial, by show 0 + no + 0 ≤ 8; omega, fun u => absurd u hso, by rw [hr 13 (by decide) (by decide) (by decide) (by decide) (by decide), l8, hc0]; rfl, by rw [g3 16 (by decide) (by decide) (by decide) (by decide), up_same, up_same, decide_eq_true (by omega)]; rfl, by rw [hr 9 (by decide) (by decide) (by decide) (by decide) (by decide)]; exact l10, cE (stl 3 pl c).2 fr, rfl, ?_⟩
            have ew : (List.replicate 0 (33 : Int) ++ (([] : List Int).map eW ++ tlW (cmpF k) no an od)) = (k : Int) :: tlW 0 no an od := by
              show cmL (cmpF k) ++ _ = _
              unfold cmL tlW
              rw [if_neg (by omega), q1]; rfl
            rw [ew, show 0 + no + opn [] = no by show 0 + no + 0 = no; omega]
            exact g1
  have k41 : Wp E1 X 41 [.ref 60, .int (z (k : Int)), .int (z (bI true))] [] S M := by
    refine wp_iload_n (n := 42) K dX4_takeSign_41 rfl rfl ?_
    refine wp_bipush (n := 44) K dX4_takeSign_42 rfl rfl ?_
    refine wp_icmp_ne (n := 47) K dX4_takeSign_44 rfl (tgt := 76) (by decide) ⟨by omega, by omega⟩ ⟨by omega, by omega⟩ (fun c44 => ?_) (fun c44 => ?_)
    · exact k76
    · omega
  refine wp_iload_n (n := 23) K dX4_takeSign_22 rfl rfl ?_
  refine wp_bipush (n := 25) K dX4_takeSign_23 rfl rfl ?_
  refine wp_icmp_lt (n := 28) K dX4_takeSign_25 rfl (tgt := 41) (by decide) ⟨by omega, by omega⟩ ⟨by omega, by omega⟩ (fun c25 => ?_) (fun c25 => ?_)
  · exact k41
  · refine wp_iload_n (n := 29) K dX4_takeSign_28 rfl rfl ?_
    refine wp_bipush (n := 31) K dX4_takeSign_29 rfl rfl ?_
    refine wp_icmp_gt (n := 34) K dX4_takeSign_31 rfl (tgt := 41) (by decide) ⟨by omega, by omega⟩ ⟨by omega, by omega⟩ (fun c31 => ?_) (fun c31 => ?_)
    · exact k41
    · omega
/-- and, or -/
theorem c_signD (k : Nat) (hk : k = 16 ∨ k = 15) (S : ST) (M : MT) (so : Nat) (pl : List Int) (c : List (Int × Int)) (cm : Int) (no : Nat) (an od : Bool) (fr j : Nat) (hL : LRc M so pl c cm no an od fr j) (hd : pl.head? ≠ some 2) (hln : lnW pl c cm no an od ≤ 300) (hm : 40 ∉ pl) (hso : so ≠ 0) (hcm : cm ≠ 0) : Ct E1 yX4_takeSign cX4_takeSign 3 (some .int) rm_X4_takeSign [.ref 60, .int (z (k : Int))] S M (Qi 0 [60, 62, 63] S M (fun M1 => RK2 M M1 ∧ M1 60 15 = 1 ∧ M1 60 14 = 1 ∧ LRc M1 so [] (if k = 16 then askE cm no an (stl 3 pl c).2 else askO cm no an od (stl 3 pl c).2) 0 0 (decide (k = 16)) (if k = 16 then od else true) fr 0)) := by
  obtain ⟨l1, l2, l3, l4, l5, l6, l7, l8, l9, l10, cc, l11, l12⟩ := id hL
  have hcm2 : 10 ≤ cm ∧ cm ≤ 15 := by omega
  have hwl := w_len l5 l6 cm an od
  have hI := okI_w l5 j cm no an od l4
  have ho := opW_w l5 j no cm an od l4
  have hc0 : pl.count 40 = 0 := (cnt40 pl).mpr hm
  have hlen : (List.replicate j (33 : Int) ++ (pl.map eW ++ tlW cm no an od)).length + cc.length ≤ 300 := by
    have h1 := cE_len c l3
    rw [l11] at h1
    simp only [List.length_append, List.length_replicate, List.length_map, tlW_len] at h1 ⊢
    unfold lnW at hln
    omega
  have hsr := stl_r 3 pl c (by omega) l5
  have hn := stl_nil pl c l5 hd hm
  have hop0 : opn pl = 0 := by rw [← hsr.2.1, hn]; rfl
  have hfr2 : fr ≤ (stl 3 pl c).2.length := (stC_all 1 3 (by omega) (M := M) (so := so) (cm := cm) (no := no) (an := an) (od := od) l5 hd l3 l11 (j + no + opn pl) (by omega)).2
  have hclo : clo (k : Int) = if k = 16 then 2 else 1 := by rcases hk with rfl | rfl <;> decide
  have e1 : stC (clo (k : Int)) (List.replicate j 33 ++ (pl.map eW ++ tlW cm no an od)) cc (j + no + opn pl) = (if k = 16 then boL od 15 else [], cE (if k = 16 then askE cm no an (stl 3 pl c).2 else askO cm no an od (stl 3 pl c).2) fr, 0) := by
    have hst := stC_all (clo (k : Int)) 3 (by rw [hclo]; split <;> omega) (M := M) (so := so) (cm := cm) (no := no) (an := an) (od := od) l5 hd l3 l11 (j + no + opn pl) (by omega)
    rw [hst.1, if_pos hn, stC_tl (clo (k : Int)) (by rw [hclo]; split <;> omega) cm hcm2 no an od _ _ fr hfr2 (by omega), hclo, show j + no + opn pl - j - no = 0 by omega]
    rcases hk with rfl | rfl
    · rw [if_pos rfl, if_pos rfl, if_pos rfl, stC_od2]
    · rw [if_neg (by decide), if_neg (by decide), if_neg (by decide), stC_od1 _ _ _ _ _ _ _ hfr2]
  have hfr3 : fr ≤ (if k = 16 then askE cm no an (stl 3 pl c).2 else askO cm no an od (stl 3 pl c).2).length := by
    have h1 : (stl 3 pl c).2.length ≤ (askE cm no an (stl 3 pl c).2).length := by
      unfold askE; split <;> simp [nts_ln] <;> omega
    have h2 : (askE cm no an (stl 3 pl c).2).length ≤ (askO cm no an od (stl 3 pl c).2).length := by
      unfold askO; split
      · simp
      · exact Nat.le_refl _
    split <;> omega
  have d16 : decide (cm ≠ 0) = true := decide_eq_true hcm
  rw [d16] at l9
  refine Ct.mk [.ref 60, .int (z (k : Int)), mkV] (by decide) rfl (Nat.le_of_ble_eq_true rfl) (fun X K => ?_)
  refine sign_pre K M k so (pl.count 40) (by omega) l8 l1 l2 ?_
  rw [hc0, decide_eq_true (p := so ≠ 0) hso]
  have l13 := (l12.set 16 0 (by decide) (by decide) (by decide)).set 15 1 (by decide) (by decide) (by decide)
  simp only [up_same, up_up] at l13
  have k119 : Wp E1 X 119 [.ref 60, .int (z (k : Int)), .int (z (bI true))] [] S M := by
    refine wp_iload_n (n := 120) K dX4_takeSign_119 rfl rfl ?_
    refine wp_if_eq_b (n := 123) K dX4_takeSign_120 rfl (tgt := 147) (by decide) (fun c120 => ?_) (fun c120 => ?_)
    · cases c120
    · refine wp_aload_n (n := 124) K dX4_takeSign_123 rfl rfl ?_
      refine wp_getI (n := 127) K dX4_takeSign_124 rfl fl_X4_67 rfl (liS rfl) rfl ?_
      try simp only [up_same, up_up, up_ne, ne_eq, Nat.reduceEqDiff, not_false_eq_true, Int.reduceToNat, Int.toNat_natCast]
      rw [l9]
      refine wp_if_eq_b (n := 130) K dX4_takeSign_127 rfl (tgt := 147) (by decide) (fun c127 => ?_) (fun c127 => ?_)
      · cases c127
      · refine wp_aload_n (n := 131) K dX4_takeSign_130 rfl rfl ?_
        refine wp_iconst (n := 132) K dX4_takeSign_131 rfl ?_
        refine wp_putZ (n := 135) K dX4_takeSign_132 rfl fl_X4_67 rfl (liS rfl) (Or.inl rfl) rfl rfl (by first | exact Or.inl rfl | exact Or.inr rfl) ?_
        try simp only [up_same, up_up, up_ne, ne_eq, Nat.reduceEqDiff, not_false_eq_true, Int.reduceToNat, Int.toNat_natCast]
        refine wp_aload_n (n := 136) K dX4_takeSign_135 rfl rfl ?_
        refine wp_iconst (n := 137) K dX4_takeSign_136 rfl ?_
        refine wp_putZ (n := 140) K dX4_takeSign_137 rfl fl_X4_64 rfl (liS rfl) (Or.inl rfl) rfl rfl (by first | exact Or.inl rfl | exact Or.inr rfl) ?_
        try simp only [up_same, up_up, up_ne, ne_eq, Nat.reduceEqDiff, not_false_eq_true, Int.reduceToNat, Int.toNat_natCast]
        refine wp_aload_n (n := 141) K dX4_takeSign_140 rfl rfl ?_
        refine wp_iload_n (n := 142) K dX4_takeSign_141 rfl rfl ?_
        refine wp_invV_qn (n := 145) K dX4_takeSign_142 rfl cf_X4_156 (c_join (k : Int) ⟨by omega, by omega⟩ _ cc _ (by omega) hlen hI (by omega) (by omega) _ _ l13) rfl rfl rfl (liS rfl) rfl (by decide) ⟨Nat.le_refl _, Nat.le_refl _⟩ (Nat.le_of_ble_eq_true rfl) (fun A1 hA1 gA1 => ?_)
        refine wp_iconst (n := 146) K dX4_takeSign_145 rfl ?_
        refine ret_qi K dX4_takeSign_146 ?_ rfl ?_ ?_ ⟨Nat.le_refl _, Nat.le_refl _⟩
        · rfl
        · intro a ha
          simp only [List.mem_cons, List.not_mem_nil, or_false, not_or] at ha
          rw [hA1 a (by simp [ha]), up_ne _ _ (by simp [ha])]
        · obtain ⟨g1, g2, g3⟩ := gA1
          rw [e1] at g1
          have hr : ∀ i, i ≠ 7 → i ≠ 8 → i ≠ 12 → i ≠ 14 → i ≠ 16 → i ≠ 15 → A1 60 i = M 60 i := fun i a b c d e f => by rw [g3 i a b c d, up_same, up_ne _ _ f, up_ne _ _ e]
          refine ⟨fun i hi => hr i (by omega) (by omega) (by omega) (by omega) (by omega) (by omega), by rw [g3 15 (by decide) (by decide) (by decide) (by decide), up_same, up_same], g2, ?_⟩
          refine ⟨by rw [hr 11 (by decide) (by decide) (by decide) (by decide) (by decide) (by decide)]; exact l1, l2, hfr3, Or.inl rfl, trivial, by show 0 + 0 + 0 ≤ 8; omega, fun u => absurd u hso, by rw [hr 13 (by decide) (by decide) (by decide) (by decide) (by decide) (by decide), l8, hc0]; rfl, by rw [g3 16 (by decide) (by decide) (by decide) (by decide), up_same, up_ne _ _ (by decide), up_same]; rfl, by rw [hr 9 (by decide) (by decide) (by decide) (by decide) (by decide) (by decide)]; exact l10, _, rfl, ?_⟩
          have ew : (List.replicate 0 (33 : Int) ++ (([] : List Int).map eW ++ tlW 0 0 (decide (k = 16)) (if k = 16 then od else true))) = (k : Int) :: (if k = 16 then boL od 15 else []) := by
            rcases hk with rfl | rfl
            · rfl
            · rfl
          rw [ew]
          exact g1
  have k76 : Wp E1 X 76 [.ref 60, .int (z (k : Int)), .int (z (bI true))] [] S M := by
    have hcf : ¬ 0 ≤ cmpF k := by rcases hk with rfl | rfl <;> decide
    refine wp_aload_n (n := 77) K dX4_takeSign_76 rfl rfl ?_
    refine wp_iload_n (n := 78) K dX4_takeSign_77 rfl rfl ?_
    refine wp_invV_i (n := 81) K dX4_takeSign_78 rfl cf_X4_162 (c_isComparison k (by omega) _ _) rfl rfl rfl (liS rfl) rfl (by decide) ⟨Nat.le_refl _, Nat.le_refl _⟩ (Nat.le_of_ble_eq_true rfl) ?_
    refine wp_if_eq_b (n := 84) K dX4_takeSign_81 rfl (tgt := 107) (by decide) (fun c81 => ?_) (fun c81 => ?_)
    · refine wp_iload_n (n := 108) K dX4_takeSign_107 rfl rfl ?_
      refine wp_bipush (n := 110) K dX4_takeSign_108 rfl rfl ?_
      refine wp_icmp_eq (n := 113) K dX4_takeSign_110 rfl (tgt := 119) (by decide) ⟨by omega, by omega⟩ ⟨by omega, by omega⟩ (fun c110 => ?_) (fun c110 => ?_)
      · exact k119
      · refine wp_iload_n (n := 114) K dX4_takeSign_113 rfl rfl ?_
        refine wp_bipush (n := 116) K dX4_takeSign_114 rfl rfl ?_
        refine wp_icmp_ne (n := 119) K dX4_takeSign_116 rfl (tgt := 147) (by decide) ⟨by omega, by omega⟩ ⟨by omega, by omega⟩ (fun c116 => ?_) (fun c116 => ?_)
        · omega
        · exact k119
    · have := of_decide_eq_true c81; omega
  have k41 : Wp E1 X 41 [.ref 60, .int (z (k : Int)), .int (z (bI true))] [] S M := by
    refine wp_iload_n (n := 42) K dX4_takeSign_41 rfl rfl ?_
    refine wp_bipush (n := 44) K dX4_takeSign_42 rfl rfl ?_
    refine wp_icmp_ne (n := 47) K dX4_takeSign_44 rfl (tgt := 76) (by decide) ⟨by omega, by omega⟩ ⟨by omega, by omega⟩ (fun c44 => ?_) (fun c44 => ?_)
    · exact k76
    · omega
  refine wp_iload_n (n := 23) K dX4_takeSign_22 rfl rfl ?_
  refine wp_bipush (n := 25) K dX4_takeSign_23 rfl rfl ?_
  refine wp_icmp_lt (n := 28) K dX4_takeSign_25 rfl (tgt := 41) (by decide) ⟨by omega, by omega⟩ ⟨by omega, by omega⟩ (fun c25 => ?_) (fun c25 => ?_)
  · exact k41
  · omega
/-- what can't stand there -/
theorem c_signN (k : Nat) (hk : k ≤ 42) (S : ST) (M : MT) (so : Nat) (pl : List Int) (c : List (Int × Int)) (cm : Int) (no : Nat) (an od : Bool) (fr j : Nat) (hL : LRc M so pl c cm no an od fr j) (hn1 : ¬ (24 ≤ k ∧ k ≤ 27)) (hn2 : ¬ (k = 29 ∧ 40 ∈ pl)) (hn3 : ¬ (0 ≤ cmpF k ∧ 40 ∉ pl ∧ so ≠ 0 ∧ cm = 0)) (hn4 : ¬ ((k = 16 ∨ k = 15) ∧ 40 ∉ pl ∧ so ≠ 0 ∧ cm ≠ 0)) : Ct E1 yX4_takeSign cX4_takeSign 3 (some .int) rm_X4_takeSign [.ref 60, .int (z (k : Int))] S M (Qi 1 [60, 62, 63] S M (fun M1 => M1 = M)) := by
  obtain ⟨l1, l2, l3, l4, l5, l6, l7, l8, l9, l10, cc, l11, l12⟩ := id hL
  have hcnt := okP_len8 l5
  have hcp : 0 < pl.count 40 ↔ 40 ∈ pl := List.count_pos_iff
  have hc0 := cnt40 pl
  refine Ct.mk [.ref 60, .int (z (k : Int)), mkV] (by decide) rfl (Nat.le_of_ble_eq_true rfl) (fun X K => ?_)
  refine sign_pre K M k so (pl.count 40) (by omega) l8 l1 l2 ?_
  generalize ho : (decide (pl.count 40 = 0) && decide (so ≠ 0)) = out
  have hout : out = true ↔ 40 ∉ pl ∧ so ≠ 0 := by
    rw [← ho, Bool.and_eq_true, decide_eq_true_eq, decide_eq_true_eq, hc0]
  generalize hcb : decide (cm ≠ 0) = cb at l9
  have hcmb : cb = true ↔ cm ≠ 0 := by rw [← hcb, decide_eq_true_eq]
  have k147 : Wp E1 X 147 [.ref 60, .int (z (k : Int)), .int (z (bI out))] [] S M := by
    refine wp_iconst (n := 148) K dX4_takeSign_147 rfl ?_
    refine ret_qi K dX4_takeSign_148 ?_ rfl ?_ ?_ ⟨Nat.le_refl _, Nat.le_refl _⟩
    · rfl
    · intro a _; rfl
    · rfl
  have k107 : Wp E1 X 107 [.ref 60, .int (z (k : Int)), .int (z (bI out))] [] S M := by
    have k119 : (k = 16 ∨ k = 15) → Wp E1 X 119 [.ref 60, .int (z (k : Int)), .int (z (bI out))] [] S M := fun hq => by
      refine wp_iload_n (n := 120) K dX4_takeSign_119 rfl rfl ?_
      refine wp_if_eq_b (n := 123) K dX4_takeSign_120 rfl (tgt := 147) (by decide) (fun c120 => ?_) (fun c120 => ?_)
      · exact k147
      · refine wp_aload_n (n := 124) K dX4_takeSign_123 rfl rfl ?_
        refine wp_getI (n := 127) K dX4_takeSign_124 rfl fl_X4_67 rfl (liS rfl) rfl ?_
        try simp only [up_same, up_up, up_ne, ne_eq, Nat.reduceEqDiff, not_false_eq_true, Int.reduceToNat, Int.toNat_natCast]
        rw [l9]
        refine wp_if_eq_b (n := 130) K dX4_takeSign_127 rfl (tgt := 147) (by decide) (fun c127 => ?_) (fun c127 => ?_)
        · exact k147
        · exact absurd ⟨hq, (hout.mp c120).1, (hout.mp c120).2, hcmb.mp c127⟩ hn4
    refine wp_iload_n (n := 108) K dX4_takeSign_107 rfl rfl ?_
    refine wp_bipush (n := 110) K dX4_takeSign_108 rfl rfl ?_
    refine wp_icmp_eq (n := 113) K dX4_takeSign_110 rfl (tgt := 119) (by decide) ⟨by omega, by omega⟩ ⟨by omega, by omega⟩ (fun c110 => ?_) (fun c110 => ?_)
    · exact k119 (Or.inl (by omega))
    · refine wp_iload_n (n := 114) K dX4_takeSign_113 rfl rfl ?_
      refine wp_bipush (n := 116) K dX4_takeSign_114 rfl rfl ?_
      refine wp_icmp_ne (n := 119) K dX4_takeSign_116 rfl (tgt := 147) (by decide) ⟨by omega, by omega⟩ ⟨by omega, by omega⟩ (fun c116 => ?_) (fun c116 => ?_)
      · exact k147
      · exact k119 (Or.inr (by omega))
  have k76 : Wp E1 X 76 [.ref 60, .int (z (k : Int)), .int (z (bI out))] [] S M := by
    refine wp_aload_n (n := 77) K dX4_takeSign_76 rfl rfl ?_
    refine wp_iload_n (n := 78) K dX4_takeSign_77 rfl rfl ?_
    refine wp_invV_i (n := 81) K dX4_takeSign_78 rfl cf_X4_162 (c_isComparison k hk _ _) rfl rfl rfl (liS rfl) rfl (by decide) ⟨Nat.le_refl _, Nat.le_refl _⟩ (Nat.le_of_ble_eq_true rfl) ?_
    refine wp_if_eq_b (n := 84) K dX4_takeSign_81 rfl (tgt := 107) (by decide) (fun c81 => ?_) (fun c81 => ?_)
    · exact k107
    · refine wp_iload_n (n := 85) K dX4_takeSign_84 rfl rfl ?_
      refine wp_if_eq_b (n := 88) K dX4_takeSign_85 rfl (tgt := 107) (by decide) (fun c85 => ?_) (fun c85 => ?_)
      · exact k107
      · refine wp_aload_n (n := 89) K dX4_takeSign_88 rfl rfl ?_
        refine wp_getI (n := 92) K dX4_takeSign_89 rfl fl_X4_67 rfl (liS rfl) rfl ?_
        try simp only [up_same, up_up, up_ne, ne_eq, Nat.reduceEqDiff, not_false_eq_true, Int.reduceToNat, Int.toNat_natCast]
        rw [l9]
        refine wp_if_ne_b (n := 95) K dX4_takeSign_92 rfl (tgt := 107) (by decide) (fun c92 => ?_) (fun c92 => ?_)
        · exact k107
        · have h1 := of_decide_eq_true c81
          have h2 := hout.mp c85
          have h3 : cm = 0 := by
            have : ¬ cm ≠ 0 := fun u => by rw [hcmb.mpr u] at c92; cases c92
            omega
          exact absurd ⟨h1, h2.1, h2.2, h3⟩ hn3
  have k41 : Wp E1 X 41 [.ref 60, .int (z (k : Int)), .int (z (bI out))] [] S M := by
    refine wp_iload_n (n := 42) K dX4_takeSign_41 rfl rfl ?_
    refine wp_bipush (n := 44) K dX4_takeSign_42 rfl rfl ?_
    refine wp_icmp_ne (n := 47) K dX4_takeSign_44 rfl (tgt := 76) (by decide) ⟨by omega, by omega⟩ ⟨by omega, by omega⟩ (fun c44 => ?_) (fun c44 => ?_)
    · exact k76
    · refine wp_aload_n (n := 48) K dX4_takeSign_47 rfl rfl ?_
      refine wp_getI (n := 51) K dX4_takeSign_48 rfl fl_X4_57 rfl (liS rfl) rfl ?_
      try simp only [up_same, up_up, up_ne, ne_eq, Nat.reduceEqDiff, not_false_eq_true, Int.reduceToNat, Int.toNat_natCast]
      refine wp_if_le (n := 54) K dX4_takeSign_51 rfl (tgt := 76) (by decide) ⟨by omega, by omega⟩ (fun c51 => ?_) (fun c51 => ?_)
      · exact k76
      · exact absurd ⟨by omega, hcp.mp (by omega)⟩ hn2
  refine wp_iload_n (n := 23) K dX4_takeSign_22 rfl rfl ?_
  refine wp_bipush (n := 25) K dX4_takeSign_23 rfl rfl ?_
  refine wp_icmp_lt (n := 28) K dX4_takeSign_25 rfl (tgt := 41) (by decide) ⟨by omega, by omega⟩ ⟨by omega, by omega⟩ (fun c25 => ?_) (fun c25 => ?_)
  · exact k41
  · refine wp_iload_n (n := 29) K dX4_takeSign_28 rfl rfl ?_
    refine wp_bipush (n := 31) K dX4_takeSign_29 rfl rfl ?_
    refine wp_icmp_gt (n := 34) K dX4_takeSign_31 rfl (tgt := 41) (by decide) ⟨by omega, by omega⟩ ⟨by omega, by omega⟩ (fun c31 => ?_) (fun c31 => ?_)
    · exact k41
    · omega
