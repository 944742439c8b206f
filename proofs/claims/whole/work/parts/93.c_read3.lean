theorem LST.set {M : MT} {w cc : List Int} {op : Nat} (h : LST M w cc op) (j : Nat) (v : Int) (h7 : j ≠ 7) (h8 : j ≠ 8) (h12 : j ≠ 12) : LST (up M 60 (up (M 60) j v)) w cc op := by
  obtain ⟨h1, h2, h3, h4, h5⟩ := h
  refine ⟨?_, ?_, ?_, ?_, ?_⟩
  · rw [up_same, up_ne _ _ (fun e => h8 e.symm)]; exact h1
  · rw [up_ne _ _ (by decide)]; exact h2
  · rw [up_same, up_ne _ _ (fun e => h7 e.symm)]; exact h3
  · rw [up_ne _ _ (by decide)]; exact h4
  · rw [up_same, up_ne _ _ (fun e => h12 e.symm)]; exact h5
theorem LST.of {M M' : MT} {w cc : List Int} {op : Nat} (h : LST M w cc op) (h7 : M' 60 7 = M 60 7) (h8 : M' 60 8 = M 60 8) (h12 : M' 60 12 = M 60 12) (h62 : M' 62 = M 62) (h63 : M' 63 = M 63) : LST M' w cc op := by
  unfold LST; rw [h7, h8, h12, h62, h63]; exact h
theorem skp_all {q : Int → Bool} {b : Nat → Int} {n : Nat} : ∀ f p i, p ≤ i → i < skp q b n f p → q (bA b n i) = true := by
  intro f
  induction f with
  | zero => intro p i h1 h2; unfold skp at h2; omega
  | succ f ih =>
    intro p i h1 h2
    unfold skp at h2
    split at h2
    · rename_i hq
      by_cases he : i = p
      · subst he; exact hq
      · exact ih (p + 1) i (by omega) h2
    · omega
theorem VT_r {b : Nat → Int} {n t : Nat} (hok : okTp b n) : 0 ≤ VT b n t ∧ VT b n t ≤ 10000 := by
  unfold VT tokAt
  have hr := spn_r b (q := isBl) isBl_m (PT_le b n t)
  generalize spn isBl b n (PT b n t) = s at *
  rcases Nat.lt_or_ge s n with q | q
  · have h0 : 0 ≤ bA b n s := by unfold bA; rw [if_pos q]; exact (hok.2 s q).1
    cases hd : isDig (bA b n s) with
    | true =>
      rw [tokK_d h0 hd]
      refine dgV_r _ (fun i hi => ?_)
      have hsn := spn_r b (q := isDig) isDig_m hr.2
      have := skp_all (q := isDig) (b := b) (n := n) (n + 1 - s) s (s + i) (by omega) (by show s + i < spn isDig b n s; omega)
      have h2 : 48 ≤ bA b n (s + i) ∧ bA b n (s + i) ≤ 57 := of_decide_eq_true this
      have e : bA b n (s + i) = b (s + i) := by unfold bA; rw [if_pos (by omega)]
      rw [e] at h2; exact h2
    | false =>
      cases hl : isLet (bA b n s) with
      | true => rw [tokK_l h0 hl]; show (0 : Int) ≤ 0 ∧ (0 : Int) ≤ 10000; omega
      | false => rw [tokK_m h0 hd hl]; show (0 : Int) ≤ 0 ∧ (0 : Int) ≤ 10000; omega
  · have e : tokK b n s = (41, 0, s) := by unfold tokK; dsimp only; rw [bA_neg (by omega), if_pos (by decide)]
    rw [e]; show (0 : Int) ≤ 0 ∧ (0 : Int) ≤ 10000; omega
theorem KT_r {b : Nat → Int} {n t : Nat} (hok : okTp b n) : KT b n t ≤ 42 := by
  unfold KT tokAt
  have hr := spn_r b (q := isBl) isBl_m (PT_le b n t)
  generalize spn isBl b n (PT b n t) = s at *
  rcases Nat.lt_or_ge s n with q | q
  · have h0 : 0 ≤ bA b n s := by unfold bA; rw [if_pos q]; exact (hok.2 s q).1
    cases hd : isDig (bA b n s) with
    | true => rw [tokK_d h0 hd]; exact (by decide : (40 : Nat) ≤ 42)
    | false =>
      cases hl : isLet (bA b n s) with
      | true =>
        rw [tokK_l h0 hl]
        show wdK _ ≤ 42
        unfold wdK
        split
        · rename_i i hi
          have := (List.findIdx?_eq_some_iff_getElem.mp hi).1
          have : i < 18 := this
          omega
        · exact Nat.le_refl _
      | false =>
        rw [tokK_m h0 hd hl]
        show (mkF2 b n s).1 ≤ 42
        unfold mkF2
        have := sgK_r (bA b n s)
        split
        · dsimp only; split <;> decide
        · dsimp only; omega
  · have e : tokK b n s = (41, 0, s) := by unfold tokK; dsimp only; rw [bA_neg (by omega), if_pos (by decide)]
    rw [e]; exact (by decide : (41 : Nat) ≤ 42)

theorem c_takeNot {b : Nat → Int} {n T t : Nat} (S : ST) (M : MT) (so : Nat) (c : List (Int × Int)) (no : Nat) (an od : Bool) (fr : Nat) (hT : TSA M b n T t) (hL : LRc M so [] c 0 no an od fr 0) (h15 : M 60 15 = 1) (hK : KT b n t = 17) (hso : so ≠ 0) : Ct E1 yX4_takeOne cX4_takeOne 3 (some .int) rm_X4_takeOne [.ref 60, .ref 55] S M (Qi (if no = 8 then 3 else 0) [60, 63] S M (fun M1 => RK M M1 ∧ (no ≠ 8 → LRc M1 so [] c 0 (no + 1) an od fr 0))) := by
  obtain ⟨l1, l2, l3, l4, l5, l6, l7, l8, l9, l10, cc, l11, l12⟩ := id hL
  have ew : (List.replicate 0 (33 : Int) ++ (([] : List Int).map eW ++ tlW 0 no an od)) = tlW 0 no an od := rfl
  have eo : 0 + no + opn [] = no := by show 0 + no + 0 = no; omega
  rw [ew, eo] at l12
  have hwl : (tlW 0 no an od).length < 40 := by
    have := w_len (pl := []) trivial (j := 0) (no := no) (by rw [eo]; omega) 0 an od
    rw [ew] at this; omega
  refine Ct.mk [.ref 60, .ref 55, mkV] (by decide) rfl (Nat.le_of_ble_eq_true rfl) (fun X K => ?_)
  refine wp_aload_n (n := 1) K dX4_takeOne_0 rfl rfl ?_
  refine wp_invV_i (n := 4) K dX4_takeOne_1 rfl cf_X4_75 (c_kind n T t _ _ b hT) rfl rfl rfl (liS rfl) rfl (by decide) ⟨Nat.le_refl _, Nat.le_refl _⟩ (Nat.le_of_ble_eq_true rfl) ?_
  rw [hK]
  refine wp_istore_n (n := 5) K dX4_takeOne_4 rfl (by decide) ?_
  refine wp_iload_n (n := 6) K dX4_takeOne_5 rfl rfl ?_
  refine wp_bipush (n := 8) K dX4_takeOne_6 rfl rfl ?_
  refine wp_icmp_ne (n := 11) K dX4_takeOne_8 rfl (tgt := 25) (by decide) ⟨by omega, by omega⟩ ⟨by omega, by omega⟩ (fun c8 => ?_) (fun c8 => ?_)
  · exact absurd rfl c8
  · refine wp_aload_n (n := 12) K dX4_takeOne_11 rfl rfl ?_
    refine wp_getI (n := 15) K dX4_takeOne_12 rfl fl_X4_64 rfl (liS rfl) rfl ?_
    try simp only [up_same, up_up, up_ne, ne_eq, Nat.reduceEqDiff, not_false_eq_true, Int.reduceToNat, Int.toNat_natCast]
    rw [h15]
    refine wp_if_eq (n := 18) K dX4_takeOne_15 rfl (tgt := 25) (by decide) ⟨by omega, by omega⟩ (fun c15 => ?_) (fun c15 => ?_)
    · omega
    · refine wp_aload_n (n := 19) K dX4_takeOne_18 rfl rfl ?_
      refine wp_bipush (n := 21) K dX4_takeOne_19 rfl rfl ?_
      refine wp_invV_qi (n := 24) K dX4_takeOne_21 rfl cf_X4_144 (c_openOne 17 _ cc no hwl (by omega) _ _ l12) rfl rfl rfl (liS rfl) rfl (by decide) ⟨Nat.le_refl _, Nat.le_refl _⟩ (Nat.le_of_ble_eq_true rfl) (fun A1 hA1 gA1 => ?_)
      refine ret_qi K dX4_takeOne_24 ?_ rfl ?_ ?_ ⟨Nat.le_refl _, Nat.le_refl _⟩
      · rfl
      · exact hA1
      · refine ⟨gA1.1, fun hne => ?_⟩
        have g := gA1.2 hne
        have ek' := gA1.1
        refine ⟨by rw [ek' 11 (by decide) (by decide) (by decide)]; exact l1, l2, l3, l4, l5, by show 0 + (no + 1) + 0 ≤ 8; omega, fun q => absurd q hso, by rw [ek' 13 (by decide) (by decide) (by decide)]; exact l8, by rw [ek' 16 (by decide) (by decide) (by decide)]; exact l9, by rw [ek' 9 (by decide) (by decide) (by decide)]; exact l10, cc, l11, ?_⟩
        have e1 : (List.replicate 0 (33 : Int) ++ (([] : List Int).map eW ++ tlW 0 (no + 1) an od)) = 17 :: tlW 0 no an od := rfl
        rw [e1, show 0 + (no + 1) + opn [] = no + 1 by show 0 + (no + 1) + 0 = no + 1; omega]
        exact g
theorem c_takeOne {b : Nat → Int} {n T t : Nat} (hok : okTp b n) (S : ST) (M : MT) (so : Nat) (pl : List Int) (c : List (Int × Int)) (cm : Int) (no : Nat) (an od : Bool) (fr : Nat) (ask : Bool) (hT : TSA M b n T t) (hL : LRc M so pl c cm no an od fr 0) (h14 : M 60 14 = 1) (h15 : M 60 15 = bI ask) (hn : ¬ (ask = true ∧ KT b n t = 17)) (hln : c.length ≤ 299) : Ct E1 yX4_takeOne cX4_takeOne 3 (some .int) rm_X4_takeOne [.ref 60, .ref 55] S M (Qi (oneF so (KT b n t) (VT b n t) (no + opn pl) : Int) [60, 62, 63] S M (fun M1 => RK2 M M1 ∧ M1 60 15 = 0 ∧ (oneF so (KT b n t) (VT b n t) (no + opn pl) = 0 → (oneW (KT b n t) = 1 → M1 60 14 = 0 ∧ ∃ j, LRc M1 so (oneP (KT b n t) (VT b n t) pl c).1 (oneP (KT b n t) (VT b n t) pl c).2 cm no an od fr j) ∧ (oneW (KT b n t) ≠ 1 → M1 60 14 = 1 ∧ LRc M1 so (oneP (KT b n t) (VT b n t) pl c).1 (oneP (KT b n t) (VT b n t) pl c).2 cm no an od fr 0)))) := by
  obtain ⟨l1, l2, l3, l4, l5, l6, l7, l8, l9, l10, cc, l11, l12⟩ := id hL
  have hvr := VT_r (t := t) hok
  have hkr := KT_r (t := t) hok
  have e0 : ∀ w : List Int, (List.replicate 0 (33 : Int) ++ w) = w := fun w => rfl
  have e00 : ∀ w : List Int, (List.replicate 0 (10033 : Int) ++ w) = w := fun w => rfl
  rw [e0] at l12
  rw [e00] at l11
  subst l11
  have eo : 0 + no + opn pl = no + opn pl := by omega
  rw [eo] at l12 l6
  have hwl : (pl.map eW ++ tlW cm no an od).length < 40 := by
    have := w_len l5 (j := 0) (no := no) (by omega) cm an od
    rw [e0] at this; omega
  have hcl : (cE c fr).length < 300 := by rw [cE_len c l3]; omega
  generalize hK : KT b n t = k at *
  generalize hV : VT b n t = v at *
  have hk' : c_kind n T t S M b hT = c_kind n T t S M b hT := rfl
  -- behind a NUMBER or a NAME
  have one : ∀ (x : Int × Int) (A : MT), (∀ j, j ≠ 7 → j ≠ 8 → j ≠ 12 → j ≠ 14 → j ≠ 15 → A 60 j = M 60 j) → LST A (pl.map eW ++ tlW cm no an od) (encF x :: cE c fr) (no + opn pl) → ∃ j, LRc A so (whl pl (x :: c)).1 (whl pl (x :: c)).2 cm no an od fr j := by
    intro x A hA hl
    obtain ⟨j, j1, j2, j3, j4⟩ := whl_rep pl (x :: c)
    have hwr := whl_r pl (x :: c) l5
    refine ⟨j, by rw [hA 11 (by decide) (by decide) (by decide) (by decide) (by decide)]; exact l1, l2, by rw [j2]; simp; omega, l4, hwr.1, by omega, l7, by rw [hA 13 (by decide) (by decide) (by decide) (by decide) (by decide), ← j4]; exact l8, by rw [hA 16 (by decide) (by decide) (by decide) (by decide) (by decide)]; exact l9, by rw [hA 9 (by decide) (by decide) (by decide) (by decide) (by decide)]; exact l10, encF x :: cE c fr, ?_, ?_⟩
    · rw [j2, cE_rep _ _ (by simp; omega), cE_cons _ _ l3]
    · have ew : List.replicate j 33 ++ ((whl pl (x :: c)).1.map eW ++ tlW cm no an od) = pl.map eW ++ tlW cm no an od := by
        have : pl.map eW = List.replicate j 33 ++ (whl pl (x :: c)).1.map eW := by
          have h2 : pl.map eW = (List.replicate j 2 ++ (whl pl (x :: c)).1).map eW := by rw [← j1]
          rw [h2, List.map_append, List.map_replicate]
          rfl
        rw [this, List.append_assoc]
      rw [ew, show j + no + opn (whl pl (x :: c)).1 = no + opn pl by omega]
      exact hl
  refine Ct.mk [.ref 60, .ref 55, mkV] (by decide) rfl (Nat.le_of_ble_eq_true rfl) (fun X K => ?_)
  have k25 : Wp E1 X 25 [.ref 60, .ref 55, .int (z (k : Int))] [] S M := by
    have hM1 : TSA (up M 60 (up (M 60) 15 0)) b n T t := hT.mem (fun a _ _ => up_ne _ _ (by omega))
    have hl1 := l12.set 15 0 (by decide) (by decide) (by decide)
    refine wp_aload_n (n := 26) K dX4_takeOne_25 rfl rfl ?_
    refine wp_iconst (n := 27) K dX4_takeOne_26 rfl ?_
    refine wp_putZ (n := 30) K dX4_takeOne_27 rfl fl_X4_64 rfl (liS rfl) (Or.inl rfl) rfl rfl (by first | exact Or.inl rfl | exact Or.inr rfl) ?_
    try simp only [up_same, up_up, up_ne, ne_eq, Nat.reduceEqDiff, not_false_eq_true, Int.reduceToNat, Int.toNat_natCast]
    refine wp_iload_n (n := 31) K dX4_takeOne_30 rfl rfl ?_
    refine wp_bipush (n := 33) K dX4_takeOne_31 rfl rfl ?_
    refine wp_icmp_ne (n := 36) K dX4_takeOne_33 rfl (tgt := 65) (by decide) ⟨by omega, by omega⟩ ⟨by omega, by omega⟩ (fun c33 => ?_) (fun c33 => ?_)
    · refine wp_iload_n (n := 66) K dX4_takeOne_65 rfl rfl ?_
      refine wp_bipush (n := 68) K dX4_takeOne_66 rfl rfl ?_
      refine wp_icmp_ge (n := 71) K dX4_takeOne_68 rfl (tgt := 99) (by decide) ⟨by omega, by omega⟩ ⟨by omega, by omega⟩ (fun c68 => ?_) (fun c68 => ?_)
      · refine wp_iload_n (n := 100) K dX4_takeOne_99 rfl rfl ?_
        refine wp_bipush (n := 102) K dX4_takeOne_100 rfl rfl ?_
        refine wp_icmp_ne (n := 105) K dX4_takeOne_102 rfl (tgt := 122) (by decide) ⟨by omega, by omega⟩ ⟨by omega, by omega⟩ (fun c102 => ?_) (fun c102 => ?_)
        · refine wp_iload_n (n := 123) K dX4_takeOne_122 rfl rfl ?_
          refine wp_bipush (n := 125) K dX4_takeOne_123 rfl rfl ?_
          refine wp_icmp_ne (n := 128) K dX4_takeOne_125 rfl (tgt := 137) (by decide) ⟨by omega, by omega⟩ ⟨by omega, by omega⟩ (fun c125 => ?_) (fun c125 => ?_)
          · have hf : oneF so k v (no + opn pl) = 1 := by unfold oneF; rw [if_neg (by omega), if_neg (by omega), if_neg (by omega)]
            rw [hf] at K
            refine wp_iconst (n := 138) K dX4_takeOne_137 rfl ?_
            refine ret_qi K dX4_takeOne_138 ?_ rfl ?_ ?_ ⟨Nat.le_refl _, Nat.le_refl _⟩
            · rfl
            · (intro a ha; simp only [List.mem_cons, List.not_mem_nil, or_false, not_or] at ha; simp [up, ha])
            · exact ⟨fun j hj => by rw [up_same, up_ne _ _ (by omega)], by rw [up_same, up_same], fun q => by cases q⟩
          · have hk25 : k = 25 := by omega
            have hf : oneF so k v (no + opn pl) = if no + opn pl = 8 then 3 else 0 := by unfold oneF; rw [if_neg (by omega), if_neg (by omega), if_pos (Or.inr hk25)]
            have hw : oneW k ≠ 1 := by unfold oneW; rw [if_neg (by omega)]; decide
            have hP : oneP k v pl c = (2 :: pl, c) := by unfold oneP; rw [if_neg (by omega), if_neg (by omega), if_neg (by omega)]
            rw [hf, hP] at K
            refine wp_aload_n (n := 129) K dX4_takeOne_128 rfl rfl ?_
            refine wp_bipush (n := 131) K dX4_takeOne_129 rfl rfl ?_
            refine wp_invV_qi (n := 134) K dX4_takeOne_131 rfl cf_X4_144 (c_openOne 33 _ _ _ hwl (by omega) _ _ hl1) rfl rfl rfl (liS rfl) rfl (by decide) ⟨Nat.le_refl _, Nat.le_refl _⟩ (Nat.le_of_ble_eq_true rfl) (fun A1 hA1 gA1 => ?_)
            refine wp_goto K dX4_takeOne_134 (tgt := 138) (by decide) ?_
            refine ret_qi K dX4_takeOne_138 ?_ rfl ?_ ?_ ⟨Nat.le_refl _, Nat.le_refl _⟩
            · split <;> rfl
            · intro a ha
              simp only [List.mem_cons, List.not_mem_nil, or_false, not_or] at ha
              rw [hA1 a (by simp [ha]), up_ne _ _ (by simp [ha])]
            · have hr : ∀ j, j ≠ 7 → j ≠ 8 → j ≠ 12 → A1 60 j = up (M 60) 15 0 j := fun j a b c => by rw [gA1.1 j a b c, up_same]
              refine ⟨fun j hj => by rw [hr j (by omega) (by omega) (by omega), up_ne _ _ (by omega)], by rw [hr 15 (by decide) (by decide) (by decide), up_same], fun q => ⟨fun u => absurd u hw, fun _ => ⟨by rw [hr 14 (by decide) (by decide) (by decide), up_ne _ _ (by decide)]; exact h14, ?_⟩⟩⟩
              have hne : no + opn pl ≠ 8 := fun e => by rw [if_pos e] at q; cases q
              have g := gA1.2 hne
              have ho : opn (2 :: pl) = opn pl + 1 := by show opn pl + _ = _; rw [if_pos (Or.inr rfl)]
              refine ⟨by rw [hr 11 (by decide) (by decide) (by decide), up_ne _ _ (by decide)]; exact l1, l2, l3, l4, ⟨l5, Or.inl rfl⟩, by rw [ho]; omega, l7, by rw [hr 13 (by decide) (by decide) (by decide), up_ne _ _ (by decide), l8]; simp, by rw [hr 16 (by decide) (by decide) (by decide), up_ne _ _ (by decide)]; exact l9, by rw [hr 9 (by decide) (by decide) (by decide), up_ne _ _ (by decide)]; exact l10, cE c fr, rfl, ?_⟩
              rw [ho, show 0 + no + (opn pl + 1) = no + opn pl + 1 by omega]
              exact g
        · have hk28 : k = 28 := by omega
          have hf : oneF so k v (no + opn pl) = if no + opn pl = 8 then 3 else 0 := by unfold oneF; rw [if_neg (by omega), if_neg (by omega), if_pos (Or.inl hk28)]
          have hw : oneW k ≠ 1 := by unfold oneW; rw [if_neg (by omega)]; decide
          have hP : oneP k v pl c = (40 :: pl, c) := by unfold oneP; rw [if_neg (by omega), if_neg (by omega), if_pos hk28]
          rw [hf, hP] at K
          have hl2 := hl1.set 13 (M 60 13 + 1) (by decide) (by decide) (by decide)
          simp only [up_same, up_up] at hl2
          refine wp_aload_n (n := 106) K dX4_takeOne_105 rfl rfl ?_
          refine wp_dup (n := 107) K dX4_takeOne_106 rfl rfl ?_
          refine wp_getI (n := 110) K dX4_takeOne_107 rfl fl_X4_57 rfl (liS rfl) rfl ?_
          try simp only [up_same, up_up, up_ne, ne_eq, Nat.reduceEqDiff, not_false_eq_true, Int.reduceToNat, Int.toNat_natCast]
          refine wp_iconst (n := 111) K dX4_takeOne_110 rfl ?_
          refine wp_iadd (n := 112) K dX4_takeOne_111 rfl ?_
          refine wp_putI (n := 115) K dX4_takeOne_112 rfl fl_X4_57 rfl (liS rfl) (Or.inl rfl) rfl rfl ?_
          try simp only [up_same, up_up, up_ne, ne_eq, Nat.reduceEqDiff, not_false_eq_true, Int.reduceToNat, Int.toNat_natCast]
          refine wp_aload_n (n := 116) K dX4_takeOne_115 rfl rfl ?_
          refine wp_bipush (n := 118) K dX4_takeOne_116 rfl rfl ?_
          refine wp_invV_qi (n := 121) K dX4_takeOne_118 rfl cf_X4_144 (c_openOne 28 _ _ _ hwl (by omega) _ _ hl2) rfl rfl rfl (liS rfl) rfl (by decide) ⟨Nat.le_refl _, Nat.le_refl _⟩ (Nat.le_of_ble_eq_true rfl) (fun A1 hA1 gA1 => ?_)
          refine ret_qi K dX4_takeOne_121 ?_ rfl ?_ ?_ ⟨Nat.le_refl _, Nat.le_refl _⟩
          · split <;> rfl
          · intro a ha
            simp only [List.mem_cons, List.not_mem_nil, or_false, not_or] at ha
            rw [hA1 a (by simp [ha]), up_ne _ _ (by simp [ha])]
          · have hr : ∀ j, j ≠ 7 → j ≠ 8 → j ≠ 12 → A1 60 j = up (up (M 60) 15 0) 13 (M 60 13 + 1) j := fun j a b c => by rw [gA1.1 j a b c, up_same]
            refine ⟨fun j hj => by rw [hr j (by omega) (by omega) (by omega), up_ne _ _ (by omega), up_ne _ _ (by omega)], by rw [hr 15 (by decide) (by decide) (by decide), up_ne _ _ (by decide), up_same], fun q => ⟨fun u => absurd u hw, fun _ => ⟨by rw [hr 14 (by decide) (by decide) (by decide), up_ne _ _ (by decide), up_ne _ _ (by decide)]; exact h14, ?_⟩⟩⟩
            have hne : no + opn pl ≠ 8 := fun e => by rw [if_pos e] at q; cases q
            have g := gA1.2 hne
            have ho : opn (40 :: pl) = opn pl + 1 := by show opn pl + _ = _; rw [if_pos (Or.inl rfl)]
            refine ⟨by rw [hr 11 (by decide) (by decide) (by decide), up_ne _ _ (by decide), up_ne _ _ (by decide)]; exact l1, l2, l3, l4, ⟨l5, Or.inr (Or.inl rfl)⟩, by rw [ho]; omega, l7, by rw [hr 13 (by decide) (by decide) (by decide), up_same, l8]; simp, by rw [hr 16 (by decide) (by decide) (by decide), up_ne _ _ (by decide), up_ne _ _ (by decide)]; exact l9, by rw [hr 9 (by decide) (by decide) (by decide), up_ne _ _ (by decide), up_ne _ _ (by decide)]; exact l10, cE c fr, rfl, ?_⟩
            rw [ho, show 0 + no + (opn pl + 1) = no + opn pl + 1 by omega]
            exact g
      · have hk8 : k < 8 := by omega
        have hf : oneF so k v (no + opn pl) = if barF so k = true then 5 else 0 := by unfold oneF; rw [if_neg (by omega), if_pos hk8]
        have hw : oneW k = 1 := by unfold oneW; rw [if_pos (Or.inr hk8)]
        have hP : oneP k v pl c = whl pl ((1, (k : Int)) :: c) := by unfold oneP; rw [if_neg (by omega), if_pos hk8]
        rw [hf, hP] at K
        have hl2 := hl1.set 14 0 (by decide) (by decide) (by decide)
        simp only [up_same, up_up] at hl2
        refine wp_aload_n (n := 72) K dX4_takeOne_71 rfl rfl ?_
        refine wp_iconst (n := 73) K dX4_takeOne_72 rfl ?_
        refine wp_putZ (n := 76) K dX4_takeOne_73 rfl fl_X4_60 rfl (liS rfl) (Or.inl rfl) rfl rfl (by first | exact Or.inl rfl | exact Or.inr rfl) ?_
        try simp only [up_same, up_up, up_ne, ne_eq, Nat.reduceEqDiff, not_false_eq_true, Int.reduceToNat, Int.toNat_natCast]
        refine wp_aload_n (n := 77) K dX4_takeOne_76 rfl rfl ?_
        refine wp_sipush (n := 80) K dX4_takeOne_77 rfl rfl ?_
        refine wp_iload_n (n := 81) K dX4_takeOne_80 rfl rfl ?_
        refine wp_iadd (n := 82) K dX4_takeOne_81 rfl ?_
        refine wp_invV_qn (n := 85) K dX4_takeOne_82 rfl cf_X4_147 (c_addCode (10000 + (k : Int)) _ _ _ hcl _ _ hl2) rfl rfl rfl (liS rfl) rfl (by decide) ⟨Nat.le_refl _, Nat.le_refl _⟩ (Nat.le_of_ble_eq_true rfl) (fun A1 hA1 gA1 => ?_)
        have hr : ∀ j, j ≠ 7 → j ≠ 8 → j ≠ 12 → A1 60 j = up (up (M 60) 15 0) 14 0 j := fun j a b c => by rw [gA1.2 j a b c, up_same]
        have h11 : A1 60 11 = (so : Int) + 8 := by rw [hr 11 (by decide) (by decide) (by decide), up_ne _ _ (by decide), up_ne _ _ (by decide)]; exact l1
        have hend : ∀ a, a ∉ [60, 62, 63] → A1 a = M a := fun a ha => by
          simp only [List.mem_cons, List.not_mem_nil, or_false, not_or] at ha
          rw [hA1 a (by simp [ha]), up_ne _ _ (by simp [ha])]
        have fin1 : RK2 M A1 ∧ A1 60 15 = 0 ∧ ((if barF so k = true then 5 else 0) = 0 → (oneW k = 1 → A1 60 14 = 0 ∧ ∃ j, LRc A1 so (whl pl ((1, (k : Int)) :: c)).1 (whl pl ((1, (k : Int)) :: c)).2 cm no an od fr j) ∧ (oneW k ≠ 1 → A1 60 14 = 1 ∧ LRc A1 so (whl pl ((1, (k : Int)) :: c)).1 (whl pl ((1, (k : Int)) :: c)).2 cm no an od fr 0)) := by
          refine ⟨fun j hj => by rw [hr j (by omega) (by omega) (by omega), up_ne _ _ (by omega), up_ne _ _ (by omega)], by rw [hr 15 (by decide) (by decide) (by decide), up_ne _ _ (by decide), up_same], fun _ => ⟨fun _ => ⟨by rw [hr 14 (by decide) (by decide) (by decide), up_same], ?_⟩, fun u => absurd hw u⟩⟩
          refine one (1, (k : Int)) A1 (fun j a b c d e => by rw [hr j a b c, up_ne _ _ d, up_ne _ _ e]) ?_
          exact gA1.1
        refine wp_aload_n (n := 86) K dX4_takeOne_85 rfl rfl ?_
        refine wp_iload_n (n := 87) K dX4_takeOne_86 rfl rfl ?_
        refine wp_invV_i (n := 90) K dX4_takeOne_87 rfl cf_X4_150 (c_isOfClause k so hk8 l2 _ _ h11) rfl rfl rfl (liS rfl) rfl (by decide) ⟨Nat.le_refl _, Nat.le_refl _⟩ (Nat.le_of_ble_eq_true rfl) ?_
        refine wp_if_eq_b (n := 93) K dX4_takeOne_90 rfl (tgt := 97) (by decide) (fun c90 => ?_) (fun c90 => ?_)
        · have hb : barF so k = true := by simpa using c90
          refine wp_iconst (n := 98) K dX4_takeOne_97 rfl ?_
          refine ret_qi K dX4_takeOne_98 ?_ rfl ?_ ?_ ⟨Nat.le_refl _, Nat.le_refl _⟩
          · rw [if_pos hb]; rfl
          · exact hend
          · exact fin1
        · have hb : ¬ barF so k = true := by simpa using c90
          refine wp_iconst (n := 94) K dX4_takeOne_93 rfl ?_
          refine wp_goto K dX4_takeOne_94 (tgt := 98) (by decide) ?_
          refine ret_qi K dX4_takeOne_98 ?_ rfl ?_ ?_ ⟨Nat.le_refl _, Nat.le_refl _⟩
          · rw [if_neg hb]; rfl
          · exact hend
          · exact fin1
    · have hk40 : k = 40 := by omega
      have hf : oneF so k v (no + opn pl) = if 9999 < v then 2 else 0 := by unfold oneF; rw [if_pos hk40]
      have hw : oneW k = 1 := by unfold oneW; rw [if_pos (Or.inl hk40)]
      have hP : oneP k v pl c = whl pl ((0, v) :: c) := by unfold oneP; rw [if_pos hk40]
      rw [hf, hP] at K
      have hl2 := hl1.set 14 0 (by decide) (by decide) (by decide)
      simp only [up_same, up_up] at hl2
      have hT2 : TSA (up M 60 (up (up (M 60) 15 0) 14 0)) b n T t := hT.mem (fun a _ _ => up_ne _ _ (by omega))
      have hcn := c_number n T t S (up M 60 (up (up (M 60) 15 0) 14 0)) b hT2
      rw [hV] at hcn
      refine wp_aload_n (n := 37) K dX4_takeOne_36 rfl rfl ?_
      refine wp_iconst (n := 38) K dX4_takeOne_37 rfl ?_
      refine wp_putZ (n := 41) K dX4_takeOne_38 rfl fl_X4_60 rfl (liS rfl) (Or.inl rfl) rfl rfl (by first | exact Or.inl rfl | exact Or.inr rfl) ?_
      try simp only [up_same, up_up, up_ne, ne_eq, Nat.reduceEqDiff, not_false_eq_true, Int.reduceToNat, Int.toNat_natCast]
      refine wp_aload_n (n := 42) K dX4_takeOne_41 rfl rfl ?_
      refine wp_aload_n (n := 43) K dX4_takeOne_42 rfl rfl ?_
      refine wp_invV_i (n := 46) K dX4_takeOne_43 rfl cf_X4_123 (hcn) rfl rfl rfl (liS rfl) rfl (by decide) ⟨Nat.le_refl _, Nat.le_refl _⟩ (Nat.le_of_ble_eq_true rfl) ?_
      refine wp_invV_qn (n := 49) K dX4_takeOne_46 rfl cf_X4_147 (c_addCode v _ _ _ hcl _ _ hl2) rfl rfl rfl (liS rfl) rfl (by decide) ⟨Nat.le_refl _, Nat.le_refl _⟩ (Nat.le_of_ble_eq_true rfl) (fun A1 hA1 gA1 => ?_)
      have hr : ∀ j, j ≠ 7 → j ≠ 8 → j ≠ 12 → A1 60 j = up (up (M 60) 15 0) 14 0 j := fun j a b c => by rw [gA1.2 j a b c, up_same]
      have hT3 : TSA A1 b n T t := hT2.mem (fun a u1 u2 => hA1 a (by simp; omega))
      have hcn2 := c_number n T t S A1 b hT3
      rw [hV] at hcn2
      have hend : ∀ a, a ∉ [60, 62, 63] → A1 a = M a := fun a ha => by
        simp only [List.mem_cons, List.not_mem_nil, or_false, not_or] at ha
        rw [hA1 a (by simp [ha]), up_ne _ _ (by simp [ha])]
      have fin1 : RK2 M A1 ∧ A1 60 15 = 0 ∧ ((if 9999 < v then 2 else 0) = 0 → (oneW k = 1 → A1 60 14 = 0 ∧ ∃ j, LRc A1 so (whl pl ((0, v) :: c)).1 (whl pl ((0, v) :: c)).2 cm no an od fr j) ∧ (oneW k ≠ 1 → A1 60 14 = 1 ∧ LRc A1 so (whl pl ((0, v) :: c)).1 (whl pl ((0, v) :: c)).2 cm no an od fr 0)) := by
        refine ⟨fun j hj => by rw [hr j (by omega) (by omega) (by omega), up_ne _ _ (by omega), up_ne _ _ (by omega)], by rw [hr 15 (by decide) (by decide) (by decide), up_ne _ _ (by decide), up_same], fun _ => ⟨fun _ => ⟨by rw [hr 14 (by decide) (by decide) (by decide), up_same], ?_⟩, fun u => absurd hw u⟩⟩
        exact one (0, v) A1 (fun j a b c d e => by rw [hr j a b c, up_ne _ _ d, up_ne _ _ e]) gA1.1
      refine wp_aload_n (n := 50) K dX4_takeOne_49 rfl rfl ?_
      refine wp_invV_i (n := 53) K dX4_takeOne_50 rfl cf_X4_123 (hcn2) rfl rfl rfl (liS rfl) rfl (by decide) ⟨Nat.le_refl _, Nat.le_refl _⟩ (Nat.le_of_ble_eq_true rfl) ?_
      refine wp_sipush (n := 56) K dX4_takeOne_53 rfl rfl ?_
      refine wp_icmp_le (n := 59) K dX4_takeOne_56 rfl (tgt := 63) (by decide) ⟨by omega, by omega⟩ ⟨by omega, by omega⟩ (fun c56 => ?_) (fun c56 => ?_)
      · refine wp_iconst (n := 64) K dX4_takeOne_63 rfl ?_
        refine ret_qi K dX4_takeOne_64 ?_ rfl ?_ ?_ ⟨Nat.le_refl _, Nat.le_refl _⟩
        · rw [if_neg (by omega)]; rfl
        · exact hend
        · exact fin1
      · refine wp_iconst (n := 60) K dX4_takeOne_59 rfl ?_
        refine wp_goto K dX4_takeOne_60 (tgt := 64) (by decide) ?_
        refine ret_qi K dX4_takeOne_64 ?_ rfl ?_ ?_ ⟨Nat.le_refl _, Nat.le_refl _⟩
        · rw [if_pos (by omega)]; rfl
        · exact hend
        · exact fin1
  have hck := c_kind n T t S M b hT
  rw [hK] at hck
  refine wp_aload_n (n := 1) K dX4_takeOne_0 rfl rfl ?_
  refine wp_invV_i (n := 4) K dX4_takeOne_1 rfl cf_X4_75 (hck) rfl rfl rfl (liS rfl) rfl (by decide) ⟨Nat.le_refl _, Nat.le_refl _⟩ (Nat.le_of_ble_eq_true rfl) ?_
  refine wp_istore_n (n := 5) K dX4_takeOne_4 rfl (by decide) ?_
  refine wp_iload_n (n := 6) K dX4_takeOne_5 rfl rfl ?_
  refine wp_bipush (n := 8) K dX4_takeOne_6 rfl rfl ?_
  refine wp_icmp_ne (n := 11) K dX4_takeOne_8 rfl (tgt := 25) (by decide) ⟨by omega, by omega⟩ ⟨by omega, by omega⟩ (fun c8 => ?_) (fun c8 => ?_)
  · exact k25
  · refine wp_aload_n (n := 12) K dX4_takeOne_11 rfl rfl ?_
    refine wp_getI (n := 15) K dX4_takeOne_12 rfl fl_X4_64 rfl (liS rfl) rfl ?_
    try simp only [up_same, up_up, up_ne, ne_eq, Nat.reduceEqDiff, not_false_eq_true, Int.reduceToNat, Int.toNat_natCast]
    rw [h15]
    refine wp_if_eq_b (n := 18) K dX4_takeOne_15 rfl (tgt := 25) (by decide) (fun c15 => ?_) (fun c15 => ?_)
    · exact k25
    · exact absurd ⟨c15, by omega⟩ hn
