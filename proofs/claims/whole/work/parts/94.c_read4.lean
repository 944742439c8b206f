theorem stC_len (least : Int) : ∀ (w cc : List Int) (op : Nat), (stC least w cc op).1.length + (stC least w cc op).2.1.length = w.length + cc.length ∧ (stC least w cc op).1.length ≤ w.length := by
  intro w
  induction w with
  | nil => intro cc op; exact ⟨rfl, Nat.le_refl _⟩
  | cons x w ih =>
    intro cc op
    rw [stC]
    split
    · have := ih ((10000 + x) :: cc) (op - isO x)
      simp only [List.length_cons] at this ⊢
      omega
    · exact ⟨rfl, Nat.le_refl _⟩

theorem c_isComparison (k : Nat) (hk : k ≤ 42) (S : ST) (M : MT) : Ct E1 yX4_isComparison cX4_isComparison 2 (some .boolean) rm_X4_isComparison [.ref 60, .int (z (k : Int))] S M (Pi (bI (decide (0 ≤ cmpF k))) S M) := by
  have e : decide (0 ≤ cmpF k) = decide ((20 ≤ k ∧ k ≤ 23) ∨ k = 31 ∨ k = 32) := by
    unfold cmpF
    apply decide_eq_decide.mpr
    (repeat' split) <;> omega
  rw [e]
  refine Ct.mk [.ref 60, .int (z (k : Int))] (by decide) rfl (Nat.le_of_ble_eq_true rfl) (fun X K => ?_)
  refine wp_iload_n (n := 1) K dX4_isComparison_0 rfl rfl ?_
  refine wp_bipush (n := 3) K dX4_isComparison_1 rfl rfl ?_
  refine wp_icmp_lt (n := 6) K dX4_isComparison_3 rfl (tgt := 12) (by decide) ⟨by omega, by omega⟩ ⟨by omega, by omega⟩ (fun c3 => ?_) (fun c3 => ?_)
  · refine wp_iload_n (n := 13) K dX4_isComparison_12 rfl rfl ?_
    refine wp_bipush (n := 15) K dX4_isComparison_13 rfl rfl ?_
    refine wp_icmp_eq (n := 18) K dX4_isComparison_15 rfl (tgt := 24) (by decide) ⟨by omega, by omega⟩ ⟨by omega, by omega⟩ (fun c15 => ?_) (fun c15 => ?_)
    · refine wp_iconst (n := 25) K dX4_isComparison_24 rfl ?_
      refine wp_goto K dX4_isComparison_25 (tgt := 29) (by decide) ?_
      refine ret_z K dX4_isComparison_29 ?_ rfl ?_ ⟨Nat.le_refl _, Nat.le_refl _⟩
      all_goals first | rfl | exact bI_t (by omega) | exact bI_f (by omega)
    · refine wp_iload_n (n := 19) K dX4_isComparison_18 rfl rfl ?_
      refine wp_bipush (n := 21) K dX4_isComparison_19 rfl rfl ?_
      refine wp_icmp_ne (n := 24) K dX4_isComparison_21 rfl (tgt := 28) (by decide) ⟨by omega, by omega⟩ ⟨by omega, by omega⟩ (fun c21 => ?_) (fun c21 => ?_)
      · refine wp_iconst (n := 29) K dX4_isComparison_28 rfl ?_
        refine ret_z K dX4_isComparison_29 ?_ rfl ?_ ⟨Nat.le_refl _, Nat.le_refl _⟩
        all_goals first | rfl | exact bI_t (by omega) | exact bI_f (by omega)
      · refine wp_iconst (n := 25) K dX4_isComparison_24 rfl ?_
        refine wp_goto K dX4_isComparison_25 (tgt := 29) (by decide) ?_
        refine ret_z K dX4_isComparison_29 ?_ rfl ?_ ⟨Nat.le_refl _, Nat.le_refl _⟩
        all_goals first | rfl | exact bI_t (by omega) | exact bI_f (by omega)
  · refine wp_iload_n (n := 7) K dX4_isComparison_6 rfl rfl ?_
    refine wp_bipush (n := 9) K dX4_isComparison_7 rfl rfl ?_
    refine wp_icmp_le (n := 12) K dX4_isComparison_9 rfl (tgt := 24) (by decide) ⟨by omega, by omega⟩ ⟨by omega, by omega⟩ (fun c9 => ?_) (fun c9 => ?_)
    · refine wp_iconst (n := 25) K dX4_isComparison_24 rfl ?_
      refine wp_goto K dX4_isComparison_25 (tgt := 29) (by decide) ?_
      refine ret_z K dX4_isComparison_29 ?_ rfl ?_ ⟨Nat.le_refl _, Nat.le_refl _⟩
      all_goals first | rfl | exact bI_t (by omega) | exact bI_f (by omega)
    · refine wp_iload_n (n := 13) K dX4_isComparison_12 rfl rfl ?_
      refine wp_bipush (n := 15) K dX4_isComparison_13 rfl rfl ?_
      refine wp_icmp_eq (n := 18) K dX4_isComparison_15 rfl (tgt := 24) (by decide) ⟨by omega, by omega⟩ ⟨by omega, by omega⟩ (fun c15 => ?_) (fun c15 => ?_)
      · refine wp_iconst (n := 25) K dX4_isComparison_24 rfl ?_
        refine wp_goto K dX4_isComparison_25 (tgt := 29) (by decide) ?_
        refine ret_z K dX4_isComparison_29 ?_ rfl ?_ ⟨Nat.le_refl _, Nat.le_refl _⟩
        all_goals first | rfl | exact bI_t (by omega) | exact bI_f (by omega)
      · refine wp_iload_n (n := 19) K dX4_isComparison_18 rfl rfl ?_
        refine wp_bipush (n := 21) K dX4_isComparison_19 rfl rfl ?_
        refine wp_icmp_ne (n := 24) K dX4_isComparison_21 rfl (tgt := 28) (by decide) ⟨by omega, by omega⟩ ⟨by omega, by omega⟩ (fun c21 => ?_) (fun c21 => ?_)
        · refine wp_iconst (n := 29) K dX4_isComparison_28 rfl ?_
          refine ret_z K dX4_isComparison_29 ?_ rfl ?_ ⟨Nat.le_refl _, Nat.le_refl _⟩
          all_goals first | rfl | exact bI_t (by omega) | exact bI_f (by omega)
        · refine wp_iconst (n := 25) K dX4_isComparison_24 rfl ?_
          refine wp_goto K dX4_isComparison_25 (tgt := 29) (by decide) ?_
          refine ret_z K dX4_isComparison_29 ?_ rfl ?_ ⟨Nat.le_refl _, Nat.le_refl _⟩
          all_goals first | rfl | exact bI_t (by omega) | exact bI_f (by omega)

theorem c_join (k : Int) (hk : InR k) (w cc : List Int) (op : Nat) (hw : w.length ≤ 39) (hc : w.length + cc.length ≤ 300) (hI : okI w) (ho : opW w ≤ op) (hop : op ≤ 100) (S : ST) (M : MT) (h : LST M w cc op) : Ct E1 yX4_join cX4_join 2 none rm_X4_join [.ref 60, .int (z k)] S M (Qn [60, 62, 63] S M (fun M1 => LST M1 (k :: (stC (clo k) w cc op).1) (stC (clo k) w cc op).2.1 (stC (clo k) w cc op).2.2 ∧ M1 60 14 = 1 ∧ ∀ j, j ≠ 7 → j ≠ 8 → j ≠ 12 → j ≠ 14 → M1 60 j = M 60 j)) := by
  have hl := stC_len (clo k) w cc op
  refine Ct.mk [.ref 60, .int (z k)] (by decide) rfl (Nat.le_of_ble_eq_true rfl) (fun X K => ?_)
  refine wp_aload_n (n := 1) K dX4_join_0 rfl rfl ?_
  refine wp_iload_n (n := 2) K dX4_join_1 rfl rfl ?_
  refine wp_invV_qn (n := 5) K dX4_join_2 rfl cf_X4_137 (c_settle k hk w cc op (by omega) hc hI ho hop _ _ h) rfl rfl rfl (liS rfl) rfl (by decide) ⟨Nat.le_refl _, Nat.le_refl _⟩ (Nat.le_of_ble_eq_true rfl) (fun A1 hA1 gA1 => ?_)
  refine wp_aload_n (n := 6) K dX4_join_5 rfl rfl ?_
  refine wp_iload_n (n := 7) K dX4_join_6 rfl rfl ?_
  refine wp_invV_qn (n := 10) K dX4_join_7 rfl cf_X4_153 (c_putOff k _ _ _ (by omega) _ _ gA1.1) rfl rfl rfl (liS rfl) rfl (by decide) ⟨Nat.le_refl _, Nat.le_refl _⟩ (Nat.le_of_ble_eq_true rfl) (fun A2 hA2 gA2 => ?_)
  refine wp_aload_n (n := 11) K dX4_join_10 rfl rfl ?_
  refine wp_iconst (n := 12) K dX4_join_11 rfl ?_
  refine wp_putZ (n := 15) K dX4_join_12 rfl fl_X4_60 rfl (liS rfl) (Or.inl rfl) rfl rfl (by first | exact Or.inl rfl | exact Or.inr rfl) ?_
  try simp only [up_same, up_up, up_ne, ne_eq, Nat.reduceEqDiff, not_false_eq_true, Int.reduceToNat, Int.toNat_natCast]
  refine ret_qn K dX4_join_15 rfl ?_ ?_ ⟨Nat.le_refl _, Nat.le_refl _⟩
  · intro a ha
    simp only [List.mem_cons, List.not_mem_nil, or_false, not_or] at ha
    rw [up_ne _ _ (by simp [ha]), hA2 a (by simp [ha]), hA1 a (by simp [ha])]
  · refine ⟨gA2.1.set 14 1 (by decide) (by decide) (by decide), by rw [up_same, up_same], fun j a b c d => ?_⟩
    rw [up_same, up_ne _ _ d, gA2.2 j a b c, gA1.2 j a b c]

theorem c_isAtEnd (k so : Nat) (hk : k ≤ 42) (w1 cmb : Bool) (br : Nat) (hbr : br ≤ 100) (S : ST) (M : MT) (h14 : M 60 14 = bI w1) (h13 : M 60 13 = (br : Int)) (h16 : M 60 16 = bI cmb) (h11 : M 60 11 = (so : Int) + 8) (hso : so ≤ 5) : Ct E1 yX4_isAtEnd cX4_isAtEnd 2 (some .boolean) rm_X4_isAtEnd [.ref 60, .int (z (k : Int))] S M (Pi (bI (decide (k = 30) && (!w1 && (decide (br = 0) && (cmb || decide (so = 0)))))) S M) := by
  refine Ct.mk [.ref 60, .int (z (k : Int))] (by decide) rfl (Nat.le_of_ble_eq_true rfl) (fun X K => ?_)
  refine wp_iload_n (n := 1) K dX4_isAtEnd_0 rfl rfl ?_
  refine wp_bipush (n := 3) K dX4_isAtEnd_1 rfl rfl ?_
  refine wp_icmp_ne (n := 6) K dX4_isAtEnd_3 rfl (tgt := 40) (by decide) ⟨by omega, by omega⟩ ⟨by omega, by omega⟩ (fun c3 => ?_) (fun c3 => ?_)
  · refine wp_iconst (n := 41) K dX4_isAtEnd_40 rfl ?_
    refine ret_z K dX4_isAtEnd_41 ?_ rfl ?_ ⟨Nat.le_refl _, Nat.le_refl _⟩
    · rw [decide_eq_false (by omega)]; rfl
    · rfl
  · refine wp_aload_n (n := 7) K dX4_isAtEnd_6 rfl rfl ?_
    refine wp_getI (n := 10) K dX4_isAtEnd_7 rfl fl_X4_60 rfl (liS rfl) rfl ?_
    try simp only [up_same, up_up, Int.reduceToNat, Int.toNat_natCast]
    rw [h14]
    refine wp_if_ne_b (n := 13) K dX4_isAtEnd_10 rfl (tgt := 40) (by decide) (fun c10 => ?_) (fun c10 => ?_)
    · refine wp_iconst (n := 41) K dX4_isAtEnd_40 rfl ?_
      refine ret_z K dX4_isAtEnd_41 ?_ rfl ?_ ⟨Nat.le_refl _, Nat.le_refl _⟩
      · rw [c10]; simp; rfl
      · rfl
    · refine wp_aload_n (n := 14) K dX4_isAtEnd_13 rfl rfl ?_
      refine wp_getI (n := 17) K dX4_isAtEnd_14 rfl fl_X4_57 rfl (liS rfl) rfl ?_
      try simp only [up_same, up_up, Int.reduceToNat, Int.toNat_natCast]
      refine wp_if_ne (n := 20) K dX4_isAtEnd_17 rfl (tgt := 40) (by decide) ⟨by omega, by omega⟩ (fun c17 => ?_) (fun c17 => ?_)
      · refine wp_iconst (n := 41) K dX4_isAtEnd_40 rfl ?_
        refine ret_z K dX4_isAtEnd_41 ?_ rfl ?_ ⟨Nat.le_refl _, Nat.le_refl _⟩
        · rw [decide_eq_false (p := br = 0) (by omega)]; simp; rfl
        · rfl
      · refine wp_aload_n (n := 21) K dX4_isAtEnd_20 rfl rfl ?_
        refine wp_getI (n := 24) K dX4_isAtEnd_21 rfl fl_X4_67 rfl (liS rfl) rfl ?_
        try simp only [up_same, up_up, Int.reduceToNat, Int.toNat_natCast]
        rw [h16]
        refine wp_if_ne_b (n := 27) K dX4_isAtEnd_24 rfl (tgt := 36) (by decide) (fun c24 => ?_) (fun c24 => ?_)
        · refine wp_iconst (n := 37) K dX4_isAtEnd_36 rfl ?_
          refine wp_goto K dX4_isAtEnd_37 (tgt := 41) (by decide) ?_
          refine ret_z K dX4_isAtEnd_41 ?_ rfl ?_ ⟨Nat.le_refl _, Nat.le_refl _⟩
          · rw [decide_eq_true (by omega), c10, decide_eq_true (p := br = 0) (by omega), c24]; rfl
          · rfl
        · refine wp_aload_n (n := 28) K dX4_isAtEnd_27 rfl rfl ?_
          refine wp_getI (n := 31) K dX4_isAtEnd_28 rfl fl_X4_51 rfl (liS rfl) rfl ?_
          try simp only [up_same, up_up, Int.reduceToNat, Int.toNat_natCast]
          refine wp_bipush (n := 33) K dX4_isAtEnd_31 rfl rfl ?_
          refine wp_icmp_ne (n := 36) K dX4_isAtEnd_33 rfl (tgt := 40) (by decide) ⟨by omega, by omega⟩ ⟨by omega, by omega⟩ (fun c33 => ?_) (fun c33 => ?_)
          · refine wp_iconst (n := 41) K dX4_isAtEnd_40 rfl ?_
            refine ret_z K dX4_isAtEnd_41 ?_ rfl ?_ ⟨Nat.le_refl _, Nat.le_refl _⟩
            · rw [c24, decide_eq_false (p := so = 0) (by omega)]; simp; rfl
            · rfl
          · refine wp_iconst (n := 37) K dX4_isAtEnd_36 rfl ?_
            refine wp_goto K dX4_isAtEnd_37 (tgt := 41) (by decide) ?_
            refine ret_z K dX4_isAtEnd_41 ?_ rfl ?_ ⟨Nat.le_refl _, Nat.le_refl _⟩
            · rw [decide_eq_true (by omega), c10, decide_eq_true (p := br = 0) (by omega), decide_eq_true (p := so = 0) (by omega)]; simp; rfl
            · rfl

theorem c_fail {b : Nat → Int} {n T t : Nat} (f : Int) (S : ST) (M : MT) (hT : TSA M b n T t) : Ct E1 yX4_fail cX4_fail 3 none rm_X4_fail [.ref 60, .ref 55, .int (z f)] S M (Pn S (up M 60 (up (up (M 60) 9 f) 10 (BT b n t : Int)))) := by
  refine Ct.mk [.ref 60, .ref 55, .int (z f)] (by decide) rfl (Nat.le_of_ble_eq_true rfl) (fun X K => ?_)
  have hT2 : TSA (up M 60 (up (M 60) 9 f)) b n T t := hT.mem (fun a _ _ => up_ne _ _ (by omega))
  refine wp_aload_n (n := 1) K dX4_fail_0 rfl rfl ?_
  refine wp_iload_n (n := 2) K dX4_fail_1 rfl rfl ?_
  refine wp_putI (n := 5) K dX4_fail_2 rfl fl_X4_45 rfl (liS rfl) (Or.inl rfl) rfl rfl ?_
  try simp only [up_same, up_up, up_ne, ne_eq, Nat.reduceEqDiff, not_false_eq_true, Int.reduceToNat, Int.toNat_natCast]
  refine wp_aload_n (n := 6) K dX4_fail_5 rfl rfl ?_
  refine wp_aload_n (n := 7) K dX4_fail_6 rfl rfl ?_
  refine wp_invV_i (n := 10) K dX4_fail_7 rfl cf_X4_92 (c_start n T t _ _ b hT2) rfl rfl rfl (liS rfl) rfl (by decide) ⟨Nat.le_refl _, Nat.le_refl _⟩ (Nat.le_of_ble_eq_true rfl) ?_
  refine wp_putI (n := 13) K dX4_fail_10 rfl fl_X4_48 rfl (liS rfl) (Or.inl rfl) rfl rfl ?_
  try simp only [up_same, up_up, up_ne, ne_eq, Nat.reduceEqDiff, not_false_eq_true, Int.reduceToNat, Int.toNat_natCast]
  refine ret_n K dX4_fail_13 rfl ?_ ⟨Nat.le_refl _, Nat.le_refl _⟩
  · rfl
/-- the settling of what waits behind a ONE -/
theorem stC_all (least sl : Int) (hq : (1 ≤ least ∧ least ≤ 5 ∧ sl = 3) ∨ (least = 6 ∧ sl = 5)) {M : MT} {so : Nat} {pl : List Int} {c : List (Int × Int)} {cm : Int} {no : Nat} {an od : Bool} {fr j : Nat} {cc : List Int} (hp : okP pl) (hd : pl.head? ≠ some 2) (hfr : fr ≤ c.length) (hc : cE c fr = List.replicate j 10033 ++ cc) (op : Nat) (ho : j ≤ op) : stC least (List.replicate j 33 ++ (pl.map eW ++ tlW cm no an od)) cc op = (if (stl sl pl c).1 = [] then stC least (tlW cm no an od) (cE (stl sl pl c).2 fr) (op - j) else ((stl sl pl c).1.map eW ++ tlW cm no an od, cE (stl sl pl c).2 fr, op - j)) ∧ fr ≤ (stl sl pl c).2.length := by
  rw [stC_neg least (by omega) j _ _ _ ho, ← hc]
  exact stC_pl least sl hq pl c _ _ fr hp hd hfr
