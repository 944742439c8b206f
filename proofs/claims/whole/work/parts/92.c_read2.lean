def LRc (M : MT) (so : Nat) (pl : List Int) (c : List (Int × Int)) (cm : Int) (no : Nat) (an od : Bool) (fr j : Nat) : Prop :=
  M 60 11 = (so : Int) + 8 ∧ so ≤ 2 ∧ fr ≤ c.length ∧ (cm = 0 ∨ (10 ≤ cm ∧ cm ≤ 15)) ∧ okP pl ∧ j + no + opn pl ≤ 8 ∧ (so = 0 → no = 0 ∧ cm = 0 ∧ an = false ∧ od = false) ∧ M 60 13 = (pl.count 40 : Int) ∧ M 60 16 = bI (decide (cm ≠ 0)) ∧ M 60 9 = 0 ∧ ∃ cc, cE c fr = List.replicate j 10033 ++ cc ∧ LST M (List.replicate j 33 ++ (pl.map eW ++ tlW cm no an od)) cc (j + no + opn pl)
def lnW (pl : List Int) (c : List (Int × Int)) (cm : Int) (no : Nat) (an od : Bool) : Nat := c.length + pl.length + no + b1' (decide (cm ≠ 0)) + b1' an + b1' od
def RK2 (M M1 : MT) : Prop := ∀ j, j < 7 ∨ 9 ≤ j ∧ j ≤ 11 → M1 60 j = M 60 j
theorem RK.two {M M1 : MT} (h : RK M M1) : RK2 M M1 := fun j hj => h j (by omega) (by omega) (by omega)
theorem RK2.trans {M M1 M2 : MT} (h : RK2 M M1) (h' : RK2 M1 M2) : RK2 M M2 := fun j a => (h' j a).trans (h j a)
theorem tlW_len (cm : Int) (no : Nat) (an od : Bool) : (tlW cm no an od).length = b1' (decide (cm ≠ 0)) + no + b1' an + b1' od := by
  unfold tlW cmL boL b1'
  by_cases h : cm = 0 <;> cases an <;> cases od <;> simp [h] <;> omega
theorem okI_tl (cm : Int) (no : Nat) (an od : Bool) (h : cm = 0 ∨ (10 ≤ cm ∧ cm ≤ 15)) : okI (tlW cm no an od) := by
  intro x hx
  unfold tlW cmL boL at hx
  simp only [List.mem_append] at hx
  rcases hx with q | q | q | q
  · split at q
    · cases q
    · rename_i h0
      have := cm_r (show 10 ≤ cm ∧ cm ≤ 15 by omega)
      simp at q; subst q; exact ⟨by omega, by omega⟩
  · have := List.eq_of_mem_replicate q; subst this; exact ⟨by decide, by decide⟩
  · split at q
    · simp at q; subst q; exact ⟨by decide, by decide⟩
    · cases q
  · split at q
    · simp at q; subst q; exact ⟨by decide, by decide⟩
    · cases q
theorem okI_w {pl : List Int} (hp : okP pl) (j : Nat) (cm : Int) (no : Nat) (an od : Bool) (h : cm = 0 ∨ (10 ≤ cm ∧ cm ≤ 15)) : okI (List.replicate j 33 ++ (pl.map eW ++ tlW cm no an od)) := by
  intro x hx
  rcases List.mem_append.mp hx with q | q
  · have := List.eq_of_mem_replicate q; subst this; exact ⟨by decide, by decide⟩
  · rcases List.mem_append.mp q with q | q
    · obtain ⟨y, hy, rfl⟩ := List.mem_map.mp q
      have := eW_r (okP.x hp y hy)
      exact ⟨by omega, by omega⟩
    · exact okI_tl cm no an od h x q
theorem w_len {pl : List Int} (hp : okP pl) {j no : Nat} (ho : j + no + opn pl ≤ 8) (cm : Int) (an od : Bool) : (List.replicate j (33 : Int) ++ (pl.map eW ++ tlW cm no an od)).length ≤ 29 := by
  have h1 := (okP.ln hp).1
  have h2 := tlW_len cm no an od
  have h3 : b1' (decide (cm ≠ 0)) ≤ 1 ∧ b1' an ≤ 1 ∧ b1' od ≤ 1 := by unfold b1'; refine ⟨?_, ?_, ?_⟩ <;> split <;> omega
  simp only [List.length_append, List.length_replicate, List.length_map, h2]
  omega
theorem opW_w {pl : List Int} (hp : okP pl) (j no : Nat) (cm : Int) (an od : Bool) (h : cm = 0 ∨ (10 ≤ cm ∧ cm ≤ 15)) : opW (List.replicate j 33 ++ (pl.map eW ++ tlW cm no an od)) = j + no + opn pl := by
  rw [opW_app, opW_app, opW_rep33, opW_map hp, opW_tl no an od h]; omega
/-- NEGATEs at the top -/
theorem whl_rep : ∀ (pl : List Int) (c : List (Int × Int)), ∃ j, pl = List.replicate j 2 ++ (whl pl c).1 ∧ (whl pl c).2 = List.replicate j (2, 0) ++ c ∧ opn pl = j + opn (whl pl c).1 ∧ pl.count 40 = (whl pl c).1.count 40 := by
  intro pl
  induction pl with
  | nil => intro c; exact ⟨0, rfl, rfl, rfl, rfl⟩
  | cons x pl ih =>
    intro c
    by_cases h : x = 2
    · subst h
      have e : whl (2 :: pl) c = whl pl ((2, 0) :: c) := by rw [whl, if_pos rfl]
      obtain ⟨j, j1, j2, j3, j4⟩ := ih ((2, 0) :: c)
      rw [e]
      refine ⟨j + 1, ?_, ?_, ?_, ?_⟩
      · show 2 :: pl = 2 :: (List.replicate j 2 ++ _); rw [← j1]
      · rw [j2, show List.replicate j ((2 : Int), (0 : Int)) ++ (2, 0) :: c = List.replicate j (2, 0) ++ ([(2, 0)] ++ c) from rfl, ← List.append_assoc, ← List.replicate_succ']
      · show opn pl + _ = _; rw [if_pos (Or.inr rfl)]; omega
      · rw [← j4]; simp
    · have e : whl (x :: pl) c = (x :: pl, c) := by rw [whl, if_neg h]
      rw [e]
      exact ⟨0, rfl, rfl, by simp, rfl⟩
theorem cE_rep (j : Nat) (c : List (Int × Int)) {fr : Nat} (h : fr ≤ c.length) : cE (List.replicate j (2, 0) ++ c) fr = List.replicate j 10033 ++ cE c fr := by
  induction j with
  | zero => rfl
  | succ j ih =>
    show cE ((2, 0) :: (List.replicate j (2, 0) ++ c)) fr = _
    rw [cE_cons _ _ (by simp; omega), ih]
    rfl

theorem c_openOne (k : Int) (w cc : List Int) (op : Nat) (hw : w.length < 40) (hop : op ≤ 8) (S : ST) (M : MT) (h : LST M w cc op) : Ct E1 yX4_openOne cX4_openOne 2 (some .int) rm_X4_openOne [.ref 60, .int (z k)] S M (Qi (if op = 8 then 3 else 0) [60, 63] S M (fun M1 => RK M M1 ∧ (op ≠ 8 → LST M1 (k :: w) cc (op + 1)))) := by
  have h12 := h.2.2.2.2
  refine Ct.mk [.ref 60, .int (z k)] (by decide) rfl (Nat.le_of_ble_eq_true rfl) (fun X K => ?_)
  refine wp_aload_n (n := 1) K dX4_openOne_0 rfl rfl ?_
  refine wp_getI (n := 4) K dX4_openOne_1 rfl fl_X4_54 rfl (liS rfl) rfl ?_
  try simp only [up_same, up_up, up_ne, ne_eq, Nat.reduceEqDiff, not_false_eq_true, Int.reduceToNat, Int.toNat_natCast]
  refine wp_bipush (n := 6) K dX4_openOne_4 rfl rfl ?_
  refine wp_icmp_lt (n := 9) K dX4_openOne_6 rfl (tgt := 11) (by decide) ⟨by omega, by omega⟩ ⟨by omega, by omega⟩ (fun c6 => ?_) (fun c6 => ?_)
  · rw [if_neg (by omega)] at K
    have h' : LST (up M 60 (up (M 60) 12 (M 60 12 + 1))) w cc (op + 1) := by
      obtain ⟨h1, h2, h3, h4, h5⟩ := h
      exact ⟨by simp [up, h1], by simp [up]; exact h2, by simp [up, h3], by simp [up]; exact h4, by simp [up, h5]⟩
    refine wp_aload_n (n := 12) K dX4_openOne_11 rfl rfl ?_
    refine wp_dup (n := 13) K dX4_openOne_12 rfl rfl ?_
    refine wp_getI (n := 16) K dX4_openOne_13 rfl fl_X4_54 rfl (liS rfl) rfl ?_
    try simp only [up_same, up_up, up_ne, ne_eq, Nat.reduceEqDiff, not_false_eq_true, Int.reduceToNat, Int.toNat_natCast]
    refine wp_iconst (n := 17) K dX4_openOne_16 rfl ?_
    refine wp_iadd (n := 18) K dX4_openOne_17 rfl ?_
    refine wp_putI (n := 21) K dX4_openOne_18 rfl fl_X4_54 rfl (liS rfl) (Or.inl rfl) rfl rfl ?_
    try simp only [up_same, up_up, up_ne, ne_eq, Nat.reduceEqDiff, not_false_eq_true, Int.reduceToNat, Int.toNat_natCast]
    refine wp_aload_n (n := 22) K dX4_openOne_21 rfl rfl ?_
    refine wp_iload_n (n := 23) K dX4_openOne_22 rfl rfl ?_
    refine wp_invV_qn (n := 26) K dX4_openOne_23 rfl cf_X4_153 (c_putOff k w cc (op + 1) hw _ _ h') rfl rfl rfl (liS rfl) rfl (by decide) ⟨Nat.le_refl _, Nat.le_refl _⟩ (Nat.le_of_ble_eq_true rfl) (fun A1 hA1 gA1 => ?_)
    refine wp_iconst (n := 27) K dX4_openOne_26 rfl ?_
    refine ret_qi K dX4_openOne_27 ?_ rfl ?_ ?_ ⟨Nat.le_refl _, Nat.le_refl _⟩
    · rfl
    · intro a ha
      simp only [List.mem_cons, List.not_mem_nil, or_false, not_or] at ha
      rw [hA1 a (by simp [ha]), up_ne _ _ (by simp [ha])]
    · refine ⟨fun j a b c => ?_, fun _ => gA1.1⟩
      rw [gA1.2 j a b c, up_same, up_ne _ _ c]
  · have : op = 8 := by omega
    rw [if_pos this] at K
    refine wp_iconst (n := 10) K dX4_openOne_9 rfl ?_
    refine ret_qi K dX4_openOne_10 ?_ rfl ?_ ?_ ⟨Nat.le_refl _, Nat.le_refl _⟩
    · rfl
    · intro a _; rfl
    · exact ⟨RK.refl M, fun q => absurd this q⟩

theorem c_isOfClause (k so : Nat) (hk : k < 8) (hso : so ≤ 2) (S : ST) (M : MT) (h : M 60 11 = (so : Int) + 8) : Ct E1 yX4_isOfClause cX4_isOfClause 2 (some .boolean) rm_X4_isOfClause [.ref 60, .int (z (k : Int))] S M (Pi (bI (!barF so k)) S M) := by
  have e : barF so k = if (so : Int) = 2 then decide ((4 : Int) ≤ k ∧ (k : Int) ≤ 6) else decide ((k : Int) = 7) := rfl
  rw [e]
  refine Ct.mk [.ref 60, .int (z (k : Int))] (by decide) rfl (Nat.le_of_ble_eq_true rfl) (fun X K => ?_)
  by_cases h2 : (so : Int) = 2
  · rw [if_pos h2] at K
    by_cases hq : (4 : Int) ≤ k ∧ (k : Int) ≤ 6
    · rw [decide_eq_true hq] at K
      refine wp_iload_n (n := 1) K dX4_isOfClause_0 rfl rfl ?_
      refine wp_bipush (n := 3) K dX4_isOfClause_1 rfl rfl ?_
      refine wp_icmp_ne (n := 6) K dX4_isOfClause_3 rfl (tgt := 21) (by decide) ⟨by omega, by omega⟩ ⟨by omega, by omega⟩ (fun c3 => ?_) (fun c3 => ?_)
      · refine wp_iload_n (n := 22) K dX4_isOfClause_21 rfl rfl ?_
        refine wp_iconst (n := 23) K dX4_isOfClause_22 rfl ?_
        refine wp_icmp_le (n := 26) K dX4_isOfClause_23 rfl (tgt := 35) (by decide) ⟨by omega, by omega⟩ ⟨by omega, by omega⟩ (fun c23 => ?_) (fun c23 => ?_)
        · refine wp_iconst (n := 36) K dX4_isOfClause_35 rfl ?_
          refine wp_goto K dX4_isOfClause_36 (tgt := 40) (by decide) ?_
          refine ret_z K dX4_isOfClause_40 ?_ rfl ?_ ⟨Nat.le_refl _, Nat.le_refl _⟩
          all_goals first | rfl | omega
        · refine wp_aload_n (n := 27) K dX4_isOfClause_26 rfl rfl ?_
          refine wp_getI (n := 30) K dX4_isOfClause_27 rfl fl_X4_51 rfl (liS rfl) rfl ?_
          try simp only [up_same, up_up, Int.reduceToNat, Int.toNat_natCast]
          refine wp_bipush (n := 32) K dX4_isOfClause_30 rfl rfl ?_
          refine wp_icmp_eq (n := 35) K dX4_isOfClause_32 rfl (tgt := 39) (by decide) ⟨by omega, by omega⟩ ⟨by omega, by omega⟩ (fun c32 => ?_) (fun c32 => ?_)
          · refine wp_iconst (n := 40) K dX4_isOfClause_39 rfl ?_
            refine ret_z K dX4_isOfClause_40 ?_ rfl ?_ ⟨Nat.le_refl _, Nat.le_refl _⟩
            all_goals first | rfl | omega
          · refine wp_iconst (n := 36) K dX4_isOfClause_35 rfl ?_
            refine wp_goto K dX4_isOfClause_36 (tgt := 40) (by decide) ?_
            refine ret_z K dX4_isOfClause_40 ?_ rfl ?_ ⟨Nat.le_refl _, Nat.le_refl _⟩
            all_goals first | rfl | omega
      · refine wp_aload_n (n := 7) K dX4_isOfClause_6 rfl rfl ?_
        refine wp_getI (n := 10) K dX4_isOfClause_7 rfl fl_X4_51 rfl (liS rfl) rfl ?_
        try simp only [up_same, up_up, Int.reduceToNat, Int.toNat_natCast]
        refine wp_bipush (n := 12) K dX4_isOfClause_10 rfl rfl ?_
        refine wp_icmp_ne (n := 15) K dX4_isOfClause_12 rfl (tgt := 19) (by decide) ⟨by omega, by omega⟩ ⟨by omega, by omega⟩ (fun c12 => ?_) (fun c12 => ?_)
        · refine wp_iconst (n := 20) K dX4_isOfClause_19 rfl ?_
          refine ret_z K dX4_isOfClause_20 ?_ rfl ?_ ⟨Nat.le_refl _, Nat.le_refl _⟩
          all_goals first | rfl | omega
        · refine wp_iconst (n := 16) K dX4_isOfClause_15 rfl ?_
          refine wp_goto K dX4_isOfClause_16 (tgt := 20) (by decide) ?_
          refine ret_z K dX4_isOfClause_20 ?_ rfl ?_ ⟨Nat.le_refl _, Nat.le_refl _⟩
          all_goals first | rfl | omega
    · rw [decide_eq_false hq] at K
      refine wp_iload_n (n := 1) K dX4_isOfClause_0 rfl rfl ?_
      refine wp_bipush (n := 3) K dX4_isOfClause_1 rfl rfl ?_
      refine wp_icmp_ne (n := 6) K dX4_isOfClause_3 rfl (tgt := 21) (by decide) ⟨by omega, by omega⟩ ⟨by omega, by omega⟩ (fun c3 => ?_) (fun c3 => ?_)
      · refine wp_iload_n (n := 22) K dX4_isOfClause_21 rfl rfl ?_
        refine wp_iconst (n := 23) K dX4_isOfClause_22 rfl ?_
        refine wp_icmp_le (n := 26) K dX4_isOfClause_23 rfl (tgt := 35) (by decide) ⟨by omega, by omega⟩ ⟨by omega, by omega⟩ (fun c23 => ?_) (fun c23 => ?_)
        · refine wp_iconst (n := 36) K dX4_isOfClause_35 rfl ?_
          refine wp_goto K dX4_isOfClause_36 (tgt := 40) (by decide) ?_
          refine ret_z K dX4_isOfClause_40 ?_ rfl ?_ ⟨Nat.le_refl _, Nat.le_refl _⟩
          all_goals first | rfl | omega
        · refine wp_aload_n (n := 27) K dX4_isOfClause_26 rfl rfl ?_
          refine wp_getI (n := 30) K dX4_isOfClause_27 rfl fl_X4_51 rfl (liS rfl) rfl ?_
          try simp only [up_same, up_up, Int.reduceToNat, Int.toNat_natCast]
          refine wp_bipush (n := 32) K dX4_isOfClause_30 rfl rfl ?_
          refine wp_icmp_eq (n := 35) K dX4_isOfClause_32 rfl (tgt := 39) (by decide) ⟨by omega, by omega⟩ ⟨by omega, by omega⟩ (fun c32 => ?_) (fun c32 => ?_)
          · refine wp_iconst (n := 40) K dX4_isOfClause_39 rfl ?_
            refine ret_z K dX4_isOfClause_40 ?_ rfl ?_ ⟨Nat.le_refl _, Nat.le_refl _⟩
            all_goals first | rfl | omega
          · refine wp_iconst (n := 36) K dX4_isOfClause_35 rfl ?_
            refine wp_goto K dX4_isOfClause_36 (tgt := 40) (by decide) ?_
            refine ret_z K dX4_isOfClause_40 ?_ rfl ?_ ⟨Nat.le_refl _, Nat.le_refl _⟩
            all_goals first | rfl | omega
      · refine wp_aload_n (n := 7) K dX4_isOfClause_6 rfl rfl ?_
        refine wp_getI (n := 10) K dX4_isOfClause_7 rfl fl_X4_51 rfl (liS rfl) rfl ?_
        try simp only [up_same, up_up, Int.reduceToNat, Int.toNat_natCast]
        refine wp_bipush (n := 12) K dX4_isOfClause_10 rfl rfl ?_
        refine wp_icmp_ne (n := 15) K dX4_isOfClause_12 rfl (tgt := 19) (by decide) ⟨by omega, by omega⟩ ⟨by omega, by omega⟩ (fun c12 => ?_) (fun c12 => ?_)
        · refine wp_iconst (n := 20) K dX4_isOfClause_19 rfl ?_
          refine ret_z K dX4_isOfClause_20 ?_ rfl ?_ ⟨Nat.le_refl _, Nat.le_refl _⟩
          all_goals first | rfl | omega
        · refine wp_iconst (n := 16) K dX4_isOfClause_15 rfl ?_
          refine wp_goto K dX4_isOfClause_16 (tgt := 20) (by decide) ?_
          refine ret_z K dX4_isOfClause_20 ?_ rfl ?_ ⟨Nat.le_refl _, Nat.le_refl _⟩
          all_goals first | rfl | omega
  · rw [if_neg h2] at K
    by_cases hq : (k : Int) = 7
    · rw [decide_eq_true hq] at K
      refine wp_iload_n (n := 1) K dX4_isOfClause_0 rfl rfl ?_
      refine wp_bipush (n := 3) K dX4_isOfClause_1 rfl rfl ?_
      refine wp_icmp_ne (n := 6) K dX4_isOfClause_3 rfl (tgt := 21) (by decide) ⟨by omega, by omega⟩ ⟨by omega, by omega⟩ (fun c3 => ?_) (fun c3 => ?_)
      · refine wp_iload_n (n := 22) K dX4_isOfClause_21 rfl rfl ?_
        refine wp_iconst (n := 23) K dX4_isOfClause_22 rfl ?_
        refine wp_icmp_le (n := 26) K dX4_isOfClause_23 rfl (tgt := 35) (by decide) ⟨by omega, by omega⟩ ⟨by omega, by omega⟩ (fun c23 => ?_) (fun c23 => ?_)
        · refine wp_iconst (n := 36) K dX4_isOfClause_35 rfl ?_
          refine wp_goto K dX4_isOfClause_36 (tgt := 40) (by decide) ?_
          refine ret_z K dX4_isOfClause_40 ?_ rfl ?_ ⟨Nat.le_refl _, Nat.le_refl _⟩
          all_goals first | rfl | omega
        · refine wp_aload_n (n := 27) K dX4_isOfClause_26 rfl rfl ?_
          refine wp_getI (n := 30) K dX4_isOfClause_27 rfl fl_X4_51 rfl (liS rfl) rfl ?_
          try simp only [up_same, up_up, Int.reduceToNat, Int.toNat_natCast]
          refine wp_bipush (n := 32) K dX4_isOfClause_30 rfl rfl ?_
          refine wp_icmp_eq (n := 35) K dX4_isOfClause_32 rfl (tgt := 39) (by decide) ⟨by omega, by omega⟩ ⟨by omega, by omega⟩ (fun c32 => ?_) (fun c32 => ?_)
          · refine wp_iconst (n := 40) K dX4_isOfClause_39 rfl ?_
            refine ret_z K dX4_isOfClause_40 ?_ rfl ?_ ⟨Nat.le_refl _, Nat.le_refl _⟩
            all_goals first | rfl | omega
          · refine wp_iconst (n := 36) K dX4_isOfClause_35 rfl ?_
            refine wp_goto K dX4_isOfClause_36 (tgt := 40) (by decide) ?_
            refine ret_z K dX4_isOfClause_40 ?_ rfl ?_ ⟨Nat.le_refl _, Nat.le_refl _⟩
            all_goals first | rfl | omega
      · refine wp_aload_n (n := 7) K dX4_isOfClause_6 rfl rfl ?_
        refine wp_getI (n := 10) K dX4_isOfClause_7 rfl fl_X4_51 rfl (liS rfl) rfl ?_
        try simp only [up_same, up_up, Int.reduceToNat, Int.toNat_natCast]
        refine wp_bipush (n := 12) K dX4_isOfClause_10 rfl rfl ?_
        refine wp_icmp_ne (n := 15) K dX4_isOfClause_12 rfl (tgt := 19) (by decide) ⟨by omega, by omega⟩ ⟨by omega, by omega⟩ (fun c12 => ?_) (fun c12 => ?_)
        · refine wp_iconst (n := 20) K dX4_isOfClause_19 rfl ?_
          refine ret_z K dX4_isOfClause_20 ?_ rfl ?_ ⟨Nat.le_refl _, Nat.le_refl _⟩
          all_goals first | rfl | omega
        · refine wp_iconst (n := 16) K dX4_isOfClause_15 rfl ?_
          refine wp_goto K dX4_isOfClause_16 (tgt := 20) (by decide) ?_
          refine ret_z K dX4_isOfClause_20 ?_ rfl ?_ ⟨Nat.le_refl _, Nat.le_refl _⟩
          all_goals first | rfl | omega
    · rw [decide_eq_false hq] at K
      refine wp_iload_n (n := 1) K dX4_isOfClause_0 rfl rfl ?_
      refine wp_bipush (n := 3) K dX4_isOfClause_1 rfl rfl ?_
      refine wp_icmp_ne (n := 6) K dX4_isOfClause_3 rfl (tgt := 21) (by decide) ⟨by omega, by omega⟩ ⟨by omega, by omega⟩ (fun c3 => ?_) (fun c3 => ?_)
      · refine wp_iload_n (n := 22) K dX4_isOfClause_21 rfl rfl ?_
        refine wp_iconst (n := 23) K dX4_isOfClause_22 rfl ?_
        refine wp_icmp_le (n := 26) K dX4_isOfClause_23 rfl (tgt := 35) (by decide) ⟨by omega, by omega⟩ ⟨by omega, by omega⟩ (fun c23 => ?_) (fun c23 => ?_)
        · refine wp_iconst (n := 36) K dX4_isOfClause_35 rfl ?_
          refine wp_goto K dX4_isOfClause_36 (tgt := 40) (by decide) ?_
          refine ret_z K dX4_isOfClause_40 ?_ rfl ?_ ⟨Nat.le_refl _, Nat.le_refl _⟩
          all_goals first | rfl | omega
        · refine wp_aload_n (n := 27) K dX4_isOfClause_26 rfl rfl ?_
          refine wp_getI (n := 30) K dX4_isOfClause_27 rfl fl_X4_51 rfl (liS rfl) rfl ?_
          try simp only [up_same, up_up, Int.reduceToNat, Int.toNat_natCast]
          refine wp_bipush (n := 32) K dX4_isOfClause_30 rfl rfl ?_
          refine wp_icmp_eq (n := 35) K dX4_isOfClause_32 rfl (tgt := 39) (by decide) ⟨by omega, by omega⟩ ⟨by omega, by omega⟩ (fun c32 => ?_) (fun c32 => ?_)
          · refine wp_iconst (n := 40) K dX4_isOfClause_39 rfl ?_
            refine ret_z K dX4_isOfClause_40 ?_ rfl ?_ ⟨Nat.le_refl _, Nat.le_refl _⟩
            all_goals first | rfl | omega
          · refine wp_iconst (n := 36) K dX4_isOfClause_35 rfl ?_
            refine wp_goto K dX4_isOfClause_36 (tgt := 40) (by decide) ?_
            refine ret_z K dX4_isOfClause_40 ?_ rfl ?_ ⟨Nat.le_refl _, Nat.le_refl _⟩
            all_goals first | rfl | omega
      · refine wp_aload_n (n := 7) K dX4_isOfClause_6 rfl rfl ?_
        refine wp_getI (n := 10) K dX4_isOfClause_7 rfl fl_X4_51 rfl (liS rfl) rfl ?_
        try simp only [up_same, up_up, Int.reduceToNat, Int.toNat_natCast]
        refine wp_bipush (n := 12) K dX4_isOfClause_10 rfl rfl ?_
        refine wp_icmp_ne (n := 15) K dX4_isOfClause_12 rfl (tgt := 19) (by decide) ⟨by omega, by omega⟩ ⟨by omega, by omega⟩ (fun c12 => ?_) (fun c12 => ?_)
        · refine wp_iconst (n := 20) K dX4_isOfClause_19 rfl ?_
          refine ret_z K dX4_isOfClause_20 ?_ rfl ?_ ⟨Nat.le_refl _, Nat.le_refl _⟩
          all_goals first | rfl | omega
        · refine wp_iconst (n := 16) K dX4_isOfClause_15 rfl ?_
          refine wp_goto K dX4_isOfClause_16 (tgt := 20) (by decide) ?_
          refine ret_z K dX4_isOfClause_20 ?_ rfl ?_ ⟨Nat.le_refl _, Nat.le_refl _⟩
          all_goals first | rfl | omega
