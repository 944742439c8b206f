theorem head_nx {x : Int} {pl : List Int} (h : okP (x :: pl)) (h2 : x ≠ 2) (h40 : x ≠ 40) : pl.head? ≠ some 2 := by
  rcases h.2 with q | q | ⟨q, u⟩ | ⟨q, u⟩
  · exact absurd q h2
  · exact absurd q h40
  · rcases u with u | u <;> rw [u] <;> decide
  · rcases u with u | u | u | u <;> rw [u] <;> decide
theorem stl_nil : ∀ (pl : List Int) (c : List (Int × Int)), okP pl → pl.head? ≠ some 2 → 40 ∉ pl → (stl 3 pl c).1 = [] := by
  intro pl
  induction pl with
  | nil => intro c _ _ _; rfl
  | cons x pl ih =>
    intro c hok hh hm
    have hx2 : x ≠ 2 := fun e => hh (by rw [e]; rfl)
    have hx40 : x ≠ 40 := fun e => hm (by rw [e]; exact List.mem_cons_self)
    have hx := okP.x hok x List.mem_cons_self
    rw [stl, if_pos (by unfold okX at hx; omega)]
    exact ih _ hok.1 (head_nx hok hx2 hx40) (fun q => hm (List.mem_cons_of_mem _ q))
theorem stl_count (sl : Int) : ∀ (pl : List Int) (c : List (Int × Int)), (stl sl pl c).1.count 40 = pl.count 40 := by
  intro pl
  induction pl with
  | nil => intro c; rfl
  | cons x pl ih =>
    intro c
    rw [stl]
    split
    · rename_i h
      rw [ih, List.count_cons_of_ne (by omega)]
    · rfl
theorem cnt40 (pl : List Int) : pl.count 40 = 0 ↔ 40 ∉ pl := List.count_eq_zero
theorem okP_len8 {pl : List Int} (h : okP pl) : pl.count 40 ≤ opn pl := by
  induction pl with
  | nil => exact Nat.le_refl _
  | cons x pl ih =>
    have := ih h.1
    show _ ≤ opn pl + _
    by_cases hx : x = 40
    · subst hx; rw [List.count_cons_self, if_pos (Or.inl rfl)]; omega
    · rw [List.count_cons_of_ne hx]; omega

theorem sign_pre {X : XT} {S : ST} {P : Option Value → ST → MT → Prop} {S0 : ST} (K : Ok E1 X yX4_takeSign cX4_takeSign 3 (some .int) rm_X4_takeSign P S0) (M : MT) (k : Int) (so br : Nat) (hbr : br ≤ 100) (h13 : M 60 13 = (br : Int)) (h11 : M 60 11 = (so : Int) + 8) (hso : so ≤ 2) (kk : Wp E1 X 22 [.ref 60, .int (z k), .int (z (bI (decide (br = 0) && decide (so ≠ 0))))] [] S M) : Wp E1 X 0 [.ref 60, .int (z k), mkV] [] S M := by
  refine wp_aload_n (n := 1) K dX4_takeSign_0 rfl rfl ?_
  refine wp_getI (n := 4) K dX4_takeSign_1 rfl fl_X4_57 rfl (liS rfl) rfl ?_
  try simp only [up_same, up_up, up_ne, ne_eq, Nat.reduceEqDiff, not_false_eq_true, Int.reduceToNat, Int.toNat_natCast]
  refine wp_if_ne (n := 7) K dX4_takeSign_4 rfl (tgt := 20) (by decide) ⟨by omega, by omega⟩ (fun c4 => ?_) (fun c4 => ?_)
  · rw [decide_eq_false (by omega)] at kk
    refine wp_iconst (n := 21) K dX4_takeSign_20 rfl ?_
    refine wp_istore_n (n := 22) K dX4_takeSign_21 rfl (by decide) ?_
    exact kk
  · refine wp_aload_n (n := 8) K dX4_takeSign_7 rfl rfl ?_
    refine wp_getI (n := 11) K dX4_takeSign_8 rfl fl_X4_51 rfl (liS rfl) rfl ?_
    try simp only [up_same, up_up, up_ne, ne_eq, Nat.reduceEqDiff, not_false_eq_true, Int.reduceToNat, Int.toNat_natCast]
    refine wp_bipush (n := 13) K dX4_takeSign_11 rfl rfl ?_
    refine wp_icmp_eq (n := 16) K dX4_takeSign_13 rfl (tgt := 20) (by decide) ⟨by omega, by omega⟩ ⟨by omega, by omega⟩ (fun c13 => ?_) (fun c13 => ?_)
    · rw [decide_eq_false (p := so ≠ 0) (by omega), Bool.and_false] at kk
      refine wp_iconst (n := 21) K dX4_takeSign_20 rfl ?_
      refine wp_istore_n (n := 22) K dX4_takeSign_21 rfl (by decide) ?_
      exact kk
    · rw [decide_eq_true (by omega), decide_eq_true (p := so ≠ 0) (by omega)] at kk
      refine wp_iconst (n := 17) K dX4_takeSign_16 rfl ?_
      refine wp_goto K dX4_takeSign_17 (tgt := 21) (by decide) ?_
      refine wp_istore_n (n := 22) K dX4_takeSign_21 rfl (by decide) ?_
      exact kk
theorem clo_ar {k : Nat} (h : 24 ≤ k ∧ k ≤ 27) : clo (k : Int) = (if k ≤ 25 then 5 else 6) := by
  rcases (show k = 24 ∨ k = 25 ∨ k = 26 ∨ k = 27 by omega) with rfl | rfl | rfl | rfl <;> decide
/-- + - * / -/
theorem c_signA {b : Nat → Int} {n T t : Nat} (k : Nat) (hk : 24 ≤ k ∧ k ≤ 27) (S : ST) (M : MT) (so : Nat) (pl : List Int) (c : List (Int × Int)) (cm : Int) (no : Nat) (an od : Bool) (fr j : Nat) (hL : LRc M so pl c cm no an od fr j) (hd : pl.head? ≠ some 2) (hln : lnW pl c cm no an od ≤ 300) : Ct E1 yX4_takeSign cX4_takeSign 3 (some .int) rm_X4_takeSign [.ref 60, .int (z (k : Int))] S M (Qi 0 [60, 62, 63] S M (fun M1 => RK2 M M1 ∧ M1 60 15 = M 60 15 ∧ M1 60 14 = 1 ∧ LRc M1 so (behP k pl c).1 (behP k pl c).2 cm no an od fr 0)) := by
  obtain ⟨l1, l2, l3, l4, l5, l6, l7, l8, l9, l10, cc, l11, l12⟩ := id hL
  have hwl := w_len l5 l6 cm an od
  have hI := okI_w l5 j cm no an od l4
  have ho := opW_w l5 j no cm an od l4
  have hcnt := okP_len8 l5
  have hlen : (List.replicate j (33 : Int) ++ (pl.map eW ++ tlW cm no an od)).length + cc.length ≤ 300 := by
    have h1 := cE_len c l3
    rw [l11] at h1
    simp only [List.length_append, List.length_replicate, List.length_map, tlW_len] at h1 ⊢
    unfold lnW at hln
    omega
  refine Ct.mk [.ref 60, .int (z (k : Int)), mkV] (by decide) rfl (Nat.le_of_ble_eq_true rfl) (fun X K => ?_)
  refine sign_pre K M k so (pl.count 40) (by omega) l8 l1 l2 ?_
  refine wp_iload_n (n := 23) K dX4_takeSign_22 rfl rfl ?_
  refine wp_bipush (n := 25) K dX4_takeSign_23 rfl rfl ?_
  refine wp_icmp_lt (n := 28) K dX4_takeSign_25 rfl (tgt := 41) (by decide) ⟨by omega, by omega⟩ ⟨by omega, by omega⟩ (fun c25 => ?_) (fun c25 => ?_)
  · omega
  · refine wp_iload_n (n := 29) K dX4_takeSign_28 rfl rfl ?_
    refine wp_bipush (n := 31) K dX4_takeSign_29 rfl rfl ?_
    refine wp_icmp_gt (n := 34) K dX4_takeSign_31 rfl (tgt := 41) (by decide) ⟨by omega, by omega⟩ ⟨by omega, by omega⟩ (fun c31 => ?_) (fun c31 => ?_)
    · omega
    · refine wp_aload_n (n := 35) K dX4_takeSign_34 rfl rfl ?_
      refine wp_iload_n (n := 36) K dX4_takeSign_35 rfl rfl ?_
      refine wp_invV_qn (n := 39) K dX4_takeSign_36 rfl cf_X4_156 (c_join (k : Int) ⟨by omega, by omega⟩ _ cc _ (by omega) hlen hI (by omega) (by omega) _ _ l12) rfl rfl rfl (liS rfl) rfl (by decide) ⟨Nat.le_refl _, Nat.le_refl _⟩ (Nat.le_of_ble_eq_true rfl) (fun A1 hA1 gA1 => ?_)
      refine wp_iconst (n := 40) K dX4_takeSign_39 rfl ?_
      refine ret_qi K dX4_takeSign_40 ?_ rfl ?_ ?_ ⟨Nat.le_refl _, Nat.le_refl _⟩
      · rfl
      · exact hA1
      · obtain ⟨g1, g2, g3⟩ := gA1
        have hgo : goF k pl = true := by unfold goF; rw [decide_eq_true hk]; rfl
        have hbr := behP_r (c := c) l5 hd hgo
        have key : ∀ (sl x : Int), (sl = 3 ∧ (k = 24 ∧ x = 3 ∨ k = 25 ∧ x = 4) ∨ sl = 5 ∧ (k = 26 ∧ x = 5 ∨ k = 27 ∧ x = 6)) → behP k pl c = (x :: (stl sl pl c).1, (stl sl pl c).2) → LRc A1 so (behP k pl c).1 (behP k pl c).2 cm no an od fr 0 := by
          intro sl x hx hb
          have hst := stC_all (clo (k : Int)) sl (by rw [clo_ar hk]; split <;> omega) (M := M) (so := so) (cm := cm) (no := no) (an := an) (od := od) l5 hd l3 l11 (j + no + opn pl) (by omega)
          have h5 : 5 ≤ clo (k : Int) := by rw [clo_ar hk]; split <;> omega
          have e : stC (clo (k : Int)) (List.replicate j 33 ++ (pl.map eW ++ tlW cm no an od)) cc (j + no + opn pl) = ((stl sl pl c).1.map eW ++ tlW cm no an od, cE (stl sl pl c).2 fr, no + opn pl) := by
            rw [hst.1, show j + no + opn pl - j = no + opn pl by omega]
            split
            · rename_i hn
              rw [stC_tl5 _ h5 cm no an od l4, hn]; rfl
            · rfl
          rw [e] at g1
          have hsr := stl_r sl pl c (by omega) l5
          have hxe : eW x = (k : Int) := by rcases hx with ⟨-, ⟨rfl, rfl⟩ | ⟨rfl, rfl⟩⟩ | ⟨-, ⟨rfl, rfl⟩ | ⟨rfl, rfl⟩⟩ <;> decide
          have hox : opn (x :: (stl sl pl c).1) = opn pl := by
            show opn (stl sl pl c).1 + _ = _
            rw [if_neg (by omega), hsr.2.1]; rfl
          rw [hb]
          have hb2 := hbr.1
          rw [hb] at hb2
          refine ⟨by rw [g3 11 (by decide) (by decide) (by decide) (by decide)]; exact l1, l2, hst.2, l4, hb2, by rw [hox]; omega, l7, ?_, by rw [g3 16 (by decide) (by decide) (by decide) (by decide)]; exact l9, by rw [g3 9 (by decide) (by decide) (by decide) (by decide)]; exact l10, cE (stl sl pl c).2 fr, rfl, ?_⟩
          · rw [g3 13 (by decide) (by decide) (by decide) (by decide), l8]
            show _ = (((x :: (stl sl pl c).1).count 40 : Nat) : Int)
            rw [List.count_cons_of_ne (by omega), stl_count]
          · rw [hox, show 0 + no + opn pl = no + opn pl by omega]
            show LST A1 (eW x :: ((stl sl pl c).1.map eW ++ tlW cm no an od)) _ _
            rw [hxe]
            exact g1
        refine ⟨fun i hi => g3 i (by omega) (by omega) (by omega) (by omega), g3 15 (by decide) (by decide) (by decide) (by decide), g2, ?_⟩
        rcases (show k = 24 ∨ k = 25 ∨ k = 26 ∨ k = 27 by omega) with rfl | rfl | rfl | rfl
        · exact key 3 3 (by omega) rfl
        · exact key 3 4 (by omega) rfl
        · exact key 5 5 (by omega) rfl
        · exact key 5 6 (by omega) rfl
/-- ) -/
theorem c_signC {b : Nat → Int} {n T t : Nat} (S : ST) (M : MT) (so : Nat) (pl : List Int) (c : List (Int × Int)) (cm : Int) (no : Nat) (an od : Bool) (fr j : Nat) (hL : LRc M so pl c cm no an od fr j) (hd : pl.head? ≠ some 2) (hln : lnW pl c cm no an od ≤ 300) (hm : 40 ∈ pl) : Ct E1 yX4_takeSign cX4_takeSign 3 (some .int) rm_X4_takeSign [.ref 60, .int (z 29)] S M (Qi 0 [60, 62, 63] S M (fun M1 => RK2 M M1 ∧ M1 60 15 = M 60 15 ∧ M1 60 14 = M 60 14 ∧ ∃ j, LRc M1 so (behP 29 pl c).1 (behP 29 pl c).2 cm no an od fr j)) := by
  obtain ⟨l1, l2, l3, l4, l5, l6, l7, l8, l9, l10, cc, l11, l12⟩ := id hL
  have hwl := w_len l5 l6 cm an od
  have hI := okI_w l5 j cm no an od l4
  have ho := opW_w l5 j no cm an od l4
  have hcnt := okP_len8 l5
  have hc1 : 0 < pl.count 40 := List.count_pos_iff.mpr hm
  have hlen : (List.replicate j (33 : Int) ++ (pl.map eW ++ tlW cm no an od)).length + cc.length ≤ 300 := by
    have h1 := cE_len c l3
    rw [l11] at h1
    simp only [List.length_append, List.length_replicate, List.length_map, tlW_len] at h1 ⊢
    unfold lnW at hln
    omega
  obtain ⟨xs, hxs⟩ := stl_40 (c := c) l5 hd hm
  have hst := stC_all 1 3 (by omega) (M := M) (so := so) (cm := cm) (no := no) (an := an) (od := od) l5 hd l3 l11 (j + no + opn pl) (by omega)
  have hsr := stl_r 3 pl c (by omega) l5
  have e1 : stC (clo 15) (List.replicate j 33 ++ (pl.map eW ++ tlW cm no an od)) cc (j + no + opn pl) = (28 :: (xs.map eW ++ tlW cm no an od), cE (stl 3 pl c).2 fr, no + opn pl) := by
    rw [show clo 15 = 1 by decide, hst.1, if_neg (by rw [hxs]; simp), hxs, show j + no + opn pl - j = no + opn pl by omega]; rfl
  have hox : opn (40 :: xs) = opn pl := by rw [← hxs]; exact hsr.2.1
  have hox2 : opn (40 :: xs) = opn xs + 1 := by show opn xs + _ = _; rw [if_pos (Or.inl rfl)]
  have hokx : okP (40 :: xs) := by rw [← hxs]; exact hsr.1
  have hct : (40 :: xs).count 40 = pl.count 40 := by rw [← hxs]; exact stl_count 3 pl c
  refine Ct.mk [.ref 60, .int (z 29), mkV] (by decide) rfl (Nat.le_of_ble_eq_true rfl) (fun X K => ?_)
  refine sign_pre K M 29 so (pl.count 40) (by omega) l8 l1 l2 ?_
  have l13 := l12.set 13 (M 60 13 - 1) (by decide) (by decide) (by decide)
  refine wp_iload_n (n := 23) K dX4_takeSign_22 rfl rfl ?_
  refine wp_bipush (n := 25) K dX4_takeSign_23 rfl rfl ?_
  refine wp_icmp_lt (n := 28) K dX4_takeSign_25 rfl (tgt := 41) (by decide) ⟨by omega, by omega⟩ ⟨by omega, by omega⟩ (fun c25 => ?_) (fun c25 => ?_)
  · omega
  · refine wp_iload_n (n := 29) K dX4_takeSign_28 rfl rfl ?_
    refine wp_bipush (n := 31) K dX4_takeSign_29 rfl rfl ?_
    refine wp_icmp_gt (n := 34) K dX4_takeSign_31 rfl (tgt := 41) (by decide) ⟨by omega, by omega⟩ ⟨by omega, by omega⟩ (fun c31 => ?_) (fun c31 => ?_)
    · refine wp_iload_n (n := 42) K dX4_takeSign_41 rfl rfl ?_
      refine wp_bipush (n := 44) K dX4_takeSign_42 rfl rfl ?_
      refine wp_icmp_ne (n := 47) K dX4_takeSign_44 rfl (tgt := 76) (by decide) ⟨by omega, by omega⟩ ⟨by omega, by omega⟩ (fun c44 => ?_) (fun c44 => ?_)
      · exact absurd rfl c44
      · refine wp_aload_n (n := 48) K dX4_takeSign_47 rfl rfl ?_
        refine wp_getI (n := 51) K dX4_takeSign_48 rfl fl_X4_57 rfl (liS rfl) rfl ?_
        try simp only [up_same, up_up, up_ne, ne_eq, Nat.reduceEqDiff, not_false_eq_true, Int.reduceToNat, Int.toNat_natCast]
        refine wp_if_le (n := 54) K dX4_takeSign_51 rfl (tgt := 76) (by decide) ⟨by omega, by omega⟩ (fun c51 => ?_) (fun c51 => ?_)
        · omega
        · refine wp_aload_n (n := 55) K dX4_takeSign_54 rfl rfl ?_
          refine wp_dup (n := 56) K dX4_takeSign_55 rfl rfl ?_
          refine wp_getI (n := 59) K dX4_takeSign_56 rfl fl_X4_57 rfl (liS rfl) rfl ?_
          try simp only [up_same, up_up, up_ne, ne_eq, Nat.reduceEqDiff, not_false_eq_true, Int.reduceToNat, Int.toNat_natCast]
          refine wp_iconst (n := 60) K dX4_takeSign_59 rfl ?_
          refine wp_isub (n := 61) K dX4_takeSign_60 rfl ?_
          refine wp_putI (n := 64) K dX4_takeSign_61 rfl fl_X4_57 rfl (liS rfl) (Or.inl rfl) rfl rfl ?_
          try simp only [up_same, up_up, up_ne, ne_eq, Nat.reduceEqDiff, not_false_eq_true, Int.reduceToNat, Int.toNat_natCast]
          refine wp_aload_n (n := 65) K dX4_takeSign_64 rfl rfl ?_
          refine wp_bipush (n := 67) K dX4_takeSign_65 rfl rfl ?_
          refine wp_invV_qn (n := 70) K dX4_takeSign_67 rfl cf_X4_137 (c_settle 15 ⟨by decide, by decide⟩ _ cc _ (by omega) hlen hI (by omega) (by omega) _ _ l13) rfl rfl rfl (liS rfl) rfl (by decide) ⟨Nat.le_refl _, Nat.le_refl _⟩ (Nat.le_of_ble_eq_true rfl) (fun A1 hA1 gA1 => ?_)
          rw [e1] at gA1
          have hle : (xs.map eW ++ tlW cm no an od).length < 40 := by
            have := stC_len (clo 15) (List.replicate j 33 ++ (pl.map eW ++ tlW cm no an od)) cc (j + no + opn pl)
            rw [e1] at this
            simp only [List.length_cons] at this
            omega
          refine wp_aload_n (n := 71) K dX4_takeSign_70 rfl rfl ?_
          refine wp_invV_qn (n := 74) K dX4_takeSign_71 rfl cf_X4_159 (c_endWait 28 _ _ _ hle ⟨by decide, by decide⟩ (by show 1 ≤ no + opn pl; omega) (by show no + opn pl ≤ 100; omega) _ _ gA1.1) rfl rfl rfl (liS rfl) rfl (by decide) ⟨Nat.le_refl _, Nat.le_refl _⟩ (Nat.le_of_ble_eq_true rfl) (fun A2 hA2 gA2 => ?_)
          refine wp_iconst (n := 75) K dX4_takeSign_74 rfl ?_
          refine ret_qi K dX4_takeSign_75 ?_ rfl ?_ ?_ ⟨Nat.le_refl _, Nat.le_refl _⟩
          · rfl
          · intro a ha
            simp only [List.mem_cons, List.not_mem_nil, or_false, not_or] at ha
            rw [hA2 a (by simp [ha]), hA1 a (by simp [ha]), up_ne _ _ (by simp [ha])]
          · have hr : ∀ i, i ≠ 7 → i ≠ 8 → i ≠ 12 → i ≠ 13 → A2 60 i = M 60 i := fun i a b c d => by rw [gA2.2 i a b c, gA1.2 i a b c, up_same, up_ne _ _ d]
            refine ⟨fun i hi => hr i (by omega) (by omega) (by omega) (by omega), hr 15 (by decide) (by decide) (by decide) (by decide), hr 14 (by decide) (by decide) (by decide) (by decide), ?_⟩
            have hb : behP 29 pl c = whl xs (stl 3 pl c).2 := by
              show whl (stl 3 pl c).1.tail (stl 3 pl c).2 = _; rw [hxs]; rfl
            rw [hb]
            obtain ⟨i, i1, i2, i3, i4⟩ := whl_rep xs (stl 3 pl c).2
            have hwr := whl_r xs (stl 3 pl c).2 hokx.1
            have hi28 : isO 28 = 1 := by decide
            refine ⟨i, by rw [hr 11 (by decide) (by decide) (by decide) (by decide)]; exact l1, l2, by rw [i2]; have := hst.2; simp; omega, l4, hwr.1, by omega, l7, ?_, by rw [hr 16 (by decide) (by decide) (by decide) (by decide)]; exact l9, by rw [hr 9 (by decide) (by decide) (by decide) (by decide)]; exact l10, cE (stl 3 pl c).2 fr, ?_, ?_⟩
            · rw [gA2.2 13 (by decide) (by decide) (by decide), gA1.2 13 (by decide) (by decide) (by decide), up_same, up_same, l8, ← i4]
              rw [List.count_cons_self] at hct
              omega
            · rw [i2, cE_rep _ _ hst.2]
            · have ew : List.replicate i 33 ++ ((whl xs (stl 3 pl c).2).1.map eW ++ tlW cm no an od) = xs.map eW ++ tlW cm no an od := by
                have : xs.map eW = List.replicate i 33 ++ (whl xs (stl 3 pl c).2).1.map eW := by
                  have h2 : xs.map eW = (List.replicate i 2 ++ (whl xs (stl 3 pl c).2).1).map eW := by rw [← i1]
                  rw [h2, List.map_append, List.map_replicate]
                  rfl
                rw [this, List.append_assoc]
              have g := gA2.1
              rw [hi28] at g
              rw [ew, show i + no + opn (whl xs (stl 3 pl c).2).1 = no + opn pl - 1 by omega]
              exact g
    · omega
