/-! the class's TOKENS -/

theorem c_byteAt (p n : Nat) (hp : p ≤ 400) (hn : n ≤ 300) (S : ST) (M : MT) (b : Nat → Int) (h : TB M b n) : Ct E1 yX9_byteAt cX9_byteAt 2 (some .int) rm_X9_byteAt [.ref 55, .int (z (p : Int))] S M (Pi (bA b n p) S M) := by
  have h4 := h.1
  refine Ct.mk [.ref 55, .int (z (p : Int))] (by decide) rfl (Nat.le_of_ble_eq_true rfl) (fun X K => ?_)
  refine wp_iload_n (n := 1) K dX9_byteAt_0 rfl rfl ?_
  refine wp_if_lt (n := 4) K dX9_byteAt_1 rfl (tgt := 32) (by decide) ⟨by omega, by omega⟩ (fun c1 => ?_) (fun c1 => ?_)
  · omega
  · refine wp_iload_n (n := 5) K dX9_byteAt_4 rfl rfl ?_
    refine wp_aload_n (n := 6) K dX9_byteAt_5 rfl rfl ?_
    refine wp_getI (n := 9) K dX9_byteAt_6 rfl fl_X9_25 rfl (liS rfl) rfl ?_
    try simp only [up_same, up_up, Int.reduceToNat, Int.toNat_natCast]
    refine wp_icmp_ge (n := 12) K dX9_byteAt_9 rfl (tgt := 32) (by decide) ⟨by omega, by omega⟩ ⟨by omega, by omega⟩ (fun c9 => ?_) (fun c9 => ?_)
    · refine wp_iconst (n := 33) K dX9_byteAt_32 rfl ?_
      refine ret_i K dX9_byteAt_33 ?_ rfl ?_ ⟨Nat.le_refl _, Nat.le_refl _⟩
      · rw [bA_neg (by omega)]
      · rfl
    · refine wp_iload_n (n := 13) K dX9_byteAt_12 rfl rfl ?_
      refine wp_sipush (n := 16) K dX9_byteAt_13 rfl rfl ?_
      refine wp_icmp_ge (n := 19) K dX9_byteAt_16 rfl (tgt := 32) (by decide) ⟨by omega, by omega⟩ ⟨by omega, by omega⟩ (fun c16 => ?_) (fun c16 => ?_)
      · omega
      · refine wp_aload_n (n := 20) K dX9_byteAt_19 rfl rfl ?_
        refine wp_getF (n := 23) K dX9_byteAt_20 rfl fl_X9_9 rfl (liS rfl) rfl rfl ?_
        refine wp_iload_n (n := 24) K dX9_byteAt_23 rfl rfl ?_
        refine wp_bald (n := 25) K dX9_byteAt_24 rfl rfl (liS rfl) ⟨by omega, by omega, by omega⟩ ?_
        try simp only [up_same, up_up, Int.reduceToNat, Int.toNat_natCast]
        refine wp_sipush (n := 28) K dX9_byteAt_25 rfl rfl ?_
        refine wp_iand (n := 29) K dX9_byteAt_28 rfl ?_
        refine wp_goto K dX9_byteAt_29 (tgt := 33) (by decide) ?_
        refine ret_i K dX9_byteAt_33 ?_ rfl ?_ ⟨Nat.le_refl _, Nat.le_refl _⟩
        · rw [(h.2 p (by omega)).2]; unfold bA; rw [if_pos (by omega)]
        · rfl

theorem c_isDigit (c : Int) (hc : InR c) (S : ST) (M : MT) : Ct E1 yX9_isDigit cX9_isDigit 2 (some .boolean) rm_X9_isDigit [.ref 55, .int (z c)] S M (Pi (bI (isDig c)) S M) := by
  refine Ct.mk [.ref 55, .int (z c)] (by decide) rfl (Nat.le_of_ble_eq_true rfl) (fun X K => ?_)
  refine wp_iload_n (n := 1) K dX9_isDigit_0 rfl rfl ?_
  refine wp_bipush (n := 3) K dX9_isDigit_1 rfl rfl ?_
  refine wp_icmp_lt (n := 6) K dX9_isDigit_3 rfl (tgt := 16) (by decide) ⟨by omega, by omega⟩ ⟨by omega, by omega⟩ (fun c3 => ?_) (fun c3 => ?_)
  · refine wp_iconst (n := 17) K dX9_isDigit_16 rfl ?_
    refine ret_z K dX9_isDigit_17 ?_ rfl ?_ ⟨Nat.le_refl _, Nat.le_refl _⟩
    all_goals first | rfl | exact bI_t (by omega) | exact bI_f (by omega)
  · refine wp_iload_n (n := 7) K dX9_isDigit_6 rfl rfl ?_
    refine wp_bipush (n := 9) K dX9_isDigit_7 rfl rfl ?_
    refine wp_icmp_gt (n := 12) K dX9_isDigit_9 rfl (tgt := 16) (by decide) ⟨by omega, by omega⟩ ⟨by omega, by omega⟩ (fun c9 => ?_) (fun c9 => ?_)
    · refine wp_iconst (n := 17) K dX9_isDigit_16 rfl ?_
      refine ret_z K dX9_isDigit_17 ?_ rfl ?_ ⟨Nat.le_refl _, Nat.le_refl _⟩
      all_goals first | rfl | exact bI_t (by omega) | exact bI_f (by omega)
    · refine wp_iconst (n := 13) K dX9_isDigit_12 rfl ?_
      refine wp_goto K dX9_isDigit_13 (tgt := 17) (by decide) ?_
      refine ret_z K dX9_isDigit_17 ?_ rfl ?_ ⟨Nat.le_refl _, Nat.le_refl _⟩
      all_goals first | rfl | exact bI_t (by omega) | exact bI_f (by omega)

theorem c_isLetter (c : Int) (hc : InR c) (S : ST) (M : MT) : Ct E1 yX9_isLetter cX9_isLetter 2 (some .boolean) rm_X9_isLetter [.ref 55, .int (z c)] S M (Pi (bI (isLet c)) S M) := by
  have e : isLet c = decide ((97 ≤ c ∧ c ≤ 122) ∨ (65 ≤ c ∧ c ≤ 90)) := by unfold isLet; rw [Bool.decide_or]
  rw [e]
  refine Ct.mk [.ref 55, .int (z c)] (by decide) rfl (Nat.le_of_ble_eq_true rfl) (fun X K => ?_)
  refine wp_iload_n (n := 1) K dX9_isLetter_0 rfl rfl ?_
  refine wp_bipush (n := 3) K dX9_isLetter_1 rfl rfl ?_
  refine wp_icmp_lt (n := 6) K dX9_isLetter_3 rfl (tgt := 12) (by decide) ⟨by omega, by omega⟩ ⟨by omega, by omega⟩ (fun c3 => ?_) (fun c3 => ?_)
  · refine wp_iload_n (n := 13) K dX9_isLetter_12 rfl rfl ?_
    refine wp_bipush (n := 15) K dX9_isLetter_13 rfl rfl ?_
    refine wp_icmp_lt (n := 18) K dX9_isLetter_15 rfl (tgt := 28) (by decide) ⟨by omega, by omega⟩ ⟨by omega, by omega⟩ (fun c15 => ?_) (fun c15 => ?_)
    · refine wp_iconst (n := 29) K dX9_isLetter_28 rfl ?_
      refine ret_z K dX9_isLetter_29 ?_ rfl ?_ ⟨Nat.le_refl _, Nat.le_refl _⟩
      all_goals first | rfl | exact bI_t (by omega) | exact bI_f (by omega)
    · refine wp_iload_n (n := 19) K dX9_isLetter_18 rfl rfl ?_
      refine wp_bipush (n := 21) K dX9_isLetter_19 rfl rfl ?_
      refine wp_icmp_gt (n := 24) K dX9_isLetter_21 rfl (tgt := 28) (by decide) ⟨by omega, by omega⟩ ⟨by omega, by omega⟩ (fun c21 => ?_) (fun c21 => ?_)
      · refine wp_iconst (n := 29) K dX9_isLetter_28 rfl ?_
        refine ret_z K dX9_isLetter_29 ?_ rfl ?_ ⟨Nat.le_refl _, Nat.le_refl _⟩
        all_goals first | rfl | exact bI_t (by omega) | exact bI_f (by omega)
      · refine wp_iconst (n := 25) K dX9_isLetter_24 rfl ?_
        refine wp_goto K dX9_isLetter_25 (tgt := 29) (by decide) ?_
        refine ret_z K dX9_isLetter_29 ?_ rfl ?_ ⟨Nat.le_refl _, Nat.le_refl _⟩
        all_goals first | rfl | exact bI_t (by omega) | exact bI_f (by omega)
  · refine wp_iload_n (n := 7) K dX9_isLetter_6 rfl rfl ?_
    refine wp_bipush (n := 9) K dX9_isLetter_7 rfl rfl ?_
    refine wp_icmp_le (n := 12) K dX9_isLetter_9 rfl (tgt := 24) (by decide) ⟨by omega, by omega⟩ ⟨by omega, by omega⟩ (fun c9 => ?_) (fun c9 => ?_)
    · refine wp_iconst (n := 25) K dX9_isLetter_24 rfl ?_
      refine wp_goto K dX9_isLetter_25 (tgt := 29) (by decide) ?_
      refine ret_z K dX9_isLetter_29 ?_ rfl ?_ ⟨Nat.le_refl _, Nat.le_refl _⟩
      all_goals first | rfl | exact bI_t (by omega) | exact bI_f (by omega)
    · refine wp_iload_n (n := 13) K dX9_isLetter_12 rfl rfl ?_
      refine wp_bipush (n := 15) K dX9_isLetter_13 rfl rfl ?_
      refine wp_icmp_lt (n := 18) K dX9_isLetter_15 rfl (tgt := 28) (by decide) ⟨by omega, by omega⟩ ⟨by omega, by omega⟩ (fun c15 => ?_) (fun c15 => ?_)
      · refine wp_iconst (n := 29) K dX9_isLetter_28 rfl ?_
        refine ret_z K dX9_isLetter_29 ?_ rfl ?_ ⟨Nat.le_refl _, Nat.le_refl _⟩
        all_goals first | rfl | exact bI_t (by omega) | exact bI_f (by omega)
      · refine wp_iload_n (n := 19) K dX9_isLetter_18 rfl rfl ?_
        refine wp_bipush (n := 21) K dX9_isLetter_19 rfl rfl ?_
        refine wp_icmp_gt (n := 24) K dX9_isLetter_21 rfl (tgt := 28) (by decide) ⟨by omega, by omega⟩ ⟨by omega, by omega⟩ (fun c21 => ?_) (fun c21 => ?_)
        · refine wp_iconst (n := 29) K dX9_isLetter_28 rfl ?_
          refine ret_z K dX9_isLetter_29 ?_ rfl ?_ ⟨Nat.le_refl _, Nat.le_refl _⟩
          all_goals first | rfl | exact bI_t (by omega) | exact bI_f (by omega)
        · refine wp_iconst (n := 25) K dX9_isLetter_24 rfl ?_
          refine wp_goto K dX9_isLetter_25 (tgt := 29) (by decide) ?_
          refine ret_z K dX9_isLetter_29 ?_ rfl ?_ ⟨Nat.le_refl _, Nat.le_refl _⟩
          all_goals first | rfl | exact bI_t (by omega) | exact bI_f (by omega)
theorem TB.at {M : MT} {b : Nat → Int} {n : Int} (h : TB M b n) (j : Nat) (v : Int) (hj : j ≠ 4) : TB (up M 55 (up (M 55) j v)) b n := by
  refine ⟨by rw [up_same, up_ne _ _ (fun e => hj e.symm)]; exact h.1, fun i hi => by rw [up_ne _ _ (by decide)]; exact h.2 i hi⟩
theorem TB.mem {M M' : MT} {b : Nat → Int} {n : Int} (h : TB M b n) (h1 : M' 55 4 = M 55 4) (h2 : M' 56 = M 56) : TB M' b n := by
  unfold TB; rw [h1, h2]; exact h
theorem up5_0 (M : MT) (v : Int) (h : M 55 5 = v) : up M 55 (up (M 55) 5 v) = M := by
  rw [← h, up_self, up_self]
theorem isBl_m : isBl (-1) = false := rfl
theorem isLet_m : isLet (-1) = false := rfl
theorem isDig_m : isDig (-1) = false := rfl

theorem c_skipBlanks (p n : Nat) (hp : p ≤ n) (hn : n ≤ 300) (S : ST) (M : MT) (b : Nat → Int) (h : TB M b n) (h5 : M 55 5 = (p : Int)) (hok : okTp b n) : Ct E1 yX9_skipBlanks cX9_skipBlanks 1 none rm_X9_skipBlanks [.ref 55] S M (Pn S (up M 55 (up (M 55) 5 (spn isBl b n p : Int)))) := by
  refine Ct.mk [.ref 55] (by decide) rfl (Nat.le_of_ble_eq_true rfl) (fun X K => ?_)
  have key : ∀ d q, q + d = n → spn isBl b n q = spn isBl b n p → Wp E1 X 0 [.ref 55] [] S (up M 55 (up (M 55) 5 (q : Int))) := by
    intro d
    induction d with
    | zero =>
      intro q hq he
      have hbs : spn isBl b n q = q := spn_stop (by rw [bA_neg (by omega)]; rfl)
      have h4 := (h.at 5 (q : Int) (by decide)).1
      simp only [up_same, up_ne, ne_eq, Nat.reduceEqDiff, not_false_eq_true] at h4
      refine wp_aload_n (n := 1) K dX9_skipBlanks_0 rfl rfl ?_
      refine wp_getI (n := 4) K dX9_skipBlanks_1 rfl fl_X9_29 rfl (liS rfl) rfl ?_
      try simp only [up_same, up_up, up_ne, ne_eq, Nat.reduceEqDiff, not_false_eq_true, Int.reduceToNat, Int.toNat_natCast]
      refine wp_aload_n (n := 5) K dX9_skipBlanks_4 rfl rfl ?_
      refine wp_getI (n := 8) K dX9_skipBlanks_5 rfl fl_X9_25 rfl (liS rfl) rfl ?_
      try simp only [up_same, up_up, up_ne, ne_eq, Nat.reduceEqDiff, not_false_eq_true, Int.reduceToNat, Int.toNat_natCast]
      refine wp_icmp_ge (n := 11) K dX9_skipBlanks_8 rfl (tgt := 50) (by decide) ⟨by omega, by omega⟩ ⟨by omega, by omega⟩ (fun c8 => ?_) (fun c8 => ?_)
      · refine ret_n K dX9_skipBlanks_50 rfl ?_ ⟨Nat.le_refl _, Nat.le_refl _⟩
        · rw [← he, hbs]
      · omega
    | succ d ih =>
      intro q hq he
      have hT := h.at 5 (q : Int) (by decide)
      have h4 := hT.1
      simp only [up_same, up_ne, ne_eq, Nat.reduceEqDiff, not_false_eq_true] at h4
      have hbr := bA_r hok.2 q
      have k37 : isBl (bA b n q) = true → Wp E1 X 37 [.ref 55] [] S (up M 55 (up (M 55) 5 (q : Int))) := fun hb => by
        have hst := spn_step isBl_m hb
        refine wp_aload_n (n := 38) K dX9_skipBlanks_37 rfl rfl ?_
        refine wp_dup (n := 39) K dX9_skipBlanks_38 rfl rfl ?_
        refine wp_getI (n := 42) K dX9_skipBlanks_39 rfl fl_X9_29 rfl (liS rfl) rfl ?_
        try simp only [up_same, up_up, up_ne, ne_eq, Nat.reduceEqDiff, not_false_eq_true, Int.reduceToNat, Int.toNat_natCast]
        refine wp_iconst (n := 43) K dX9_skipBlanks_42 rfl ?_
        refine wp_iadd (n := 44) K dX9_skipBlanks_43 rfl ?_
        refine wp_putI (n := 47) K dX9_skipBlanks_44 rfl fl_X9_29 rfl (liS rfl) (Or.inl rfl) rfl rfl ?_
        try simp only [up_same, up_up, up_ne, ne_eq, Nat.reduceEqDiff, not_false_eq_true, Int.reduceToNat, Int.toNat_natCast]
        refine wp_goto K dX9_skipBlanks_47 (tgt := 0) (by decide) ?_
        rw [show (q : Int) + 1 = ((q + 1 : Nat) : Int) by omega]
        exact ih (q + 1) (by omega) (by rw [← hst.1]; exact he)
      refine wp_aload_n (n := 1) K dX9_skipBlanks_0 rfl rfl ?_
      refine wp_getI (n := 4) K dX9_skipBlanks_1 rfl fl_X9_29 rfl (liS rfl) rfl ?_
      try simp only [up_same, up_up, up_ne, ne_eq, Nat.reduceEqDiff, not_false_eq_true, Int.reduceToNat, Int.toNat_natCast]
      refine wp_aload_n (n := 5) K dX9_skipBlanks_4 rfl rfl ?_
      refine wp_getI (n := 8) K dX9_skipBlanks_5 rfl fl_X9_25 rfl (liS rfl) rfl ?_
      try simp only [up_same, up_up, up_ne, ne_eq, Nat.reduceEqDiff, not_false_eq_true, Int.reduceToNat, Int.toNat_natCast]
      refine wp_icmp_ge (n := 11) K dX9_skipBlanks_8 rfl (tgt := 50) (by decide) ⟨by omega, by omega⟩ ⟨by omega, by omega⟩ (fun c8 => ?_) (fun c8 => ?_)
      · omega
      · refine wp_aload_n (n := 12) K dX9_skipBlanks_11 rfl rfl ?_
        refine wp_aload_n (n := 13) K dX9_skipBlanks_12 rfl rfl ?_
        refine wp_getI (n := 16) K dX9_skipBlanks_13 rfl fl_X9_29 rfl (liS rfl) rfl ?_
        try simp only [up_same, up_up, up_ne, ne_eq, Nat.reduceEqDiff, not_false_eq_true, Int.reduceToNat, Int.toNat_natCast]
        refine wp_invV_i (n := 19) K dX9_skipBlanks_16 rfl cf_X9_41 (c_byteAt q n (by omega) hn _ _ b hT) rfl rfl rfl (liS rfl) rfl (by decide) ⟨Nat.le_refl _, Nat.le_refl _⟩ (Nat.le_of_ble_eq_true rfl) ?_
        refine wp_bipush (n := 21) K dX9_skipBlanks_19 rfl rfl ?_
        refine wp_icmp_eq (n := 24) K dX9_skipBlanks_21 rfl (tgt := 37) (by decide) ⟨by omega, by omega⟩ ⟨by omega, by omega⟩ (fun c21 => ?_) (fun c21 => ?_)
        · exact k37 (by unfold isBl; rw [decide_eq_true c21]; rfl)
        · refine wp_aload_n (n := 25) K dX9_skipBlanks_24 rfl rfl ?_
          refine wp_aload_n (n := 26) K dX9_skipBlanks_25 rfl rfl ?_
          refine wp_getI (n := 29) K dX9_skipBlanks_26 rfl fl_X9_29 rfl (liS rfl) rfl ?_
          try simp only [up_same, up_up, up_ne, ne_eq, Nat.reduceEqDiff, not_false_eq_true, Int.reduceToNat, Int.toNat_natCast]
          refine wp_invV_i (n := 32) K dX9_skipBlanks_29 rfl cf_X9_41 (c_byteAt q n (by omega) hn _ _ b hT) rfl rfl rfl (liS rfl) rfl (by decide) ⟨Nat.le_refl _, Nat.le_refl _⟩ (Nat.le_of_ble_eq_true rfl) ?_
          refine wp_bipush (n := 34) K dX9_skipBlanks_32 rfl rfl ?_
          refine wp_icmp_ne (n := 37) K dX9_skipBlanks_34 rfl (tgt := 50) (by decide) ⟨by omega, by omega⟩ ⟨by omega, by omega⟩ (fun c34 => ?_) (fun c34 => ?_)
          · refine ret_n K dX9_skipBlanks_50 rfl ?_ ⟨Nat.le_refl _, Nat.le_refl _⟩
            · rw [← he, spn_stop (by unfold isBl; rw [decide_eq_false c21, decide_eq_false c34]; rfl)]
          · exact k37 (by unfold isBl; rw [decide_eq_true c34]; simp)
  have r := key (n - p) p (by omega) rfl
  rw [up5_0 M _ h5] at r
  exact r
theorem wlF : ((List.range 18).all fun j => decide ((WL.getD j []).length ≤ 7 ∧ wdK (WL.getD j []) = j)) = true := by decide +kernel
def posW : Nat → Nat
  | 0 => 0
  | j + 1 => posW j + (WL.getD j []).length + 1
theorem posF : ((List.range 18).all fun j => decide (posW j + (WL.getD j []).length < 87 ∧ sB 0 (posW j + (WL.getD j []).length) = 32) && (List.range 8).all fun k => decide (k < (WL.getD j []).length → sB 0 (posW j + k) = (WL.getD j []).getD k 0 ∧ (WL.getD j []).getD k 0 ≠ 32)) = true := by decide +kernel
theorem posE : posW 18 = 87 := by decide +kernel
def mtc (b : Nat → Int) (fr to : Nat) (x : List Int) : Nat → Bool
  | 0 => true
  | k + 1 => mtc b fr to x k && (decide (fr + k < to) && decide (b (fr + k) = x.getD k 0))
theorem mtc_iff {b : Nat → Int} {fr to : Nat} {x : List Int} : ∀ k, mtc b fr to x k = true ↔ ∀ i, i < k → fr + i < to ∧ b (fr + i) = x.getD i 0 := by
  intro k
  induction k with
  | zero => exact ⟨fun _ i hi => by omega, fun _ => rfl⟩
  | succ k ih =>
    unfold mtc
    simp only [Bool.and_eq_true, decide_eq_true_eq]
    rw [ih]
    exact ⟨fun h i hi => by rcases (show i < k ∨ i = k by omega) with q | q; exact h.1 i q; exact q ▸ h.2, fun h => ⟨fun i hi => h i (by omega), h k (by omega)⟩⟩
theorem word_iff {b : Nat → Int} {fr to : Nat} (hft : fr ≤ to) {x : List Int} : letters b fr to = x ↔ (mtc b fr to x x.length = true ∧ fr + x.length = to) := by
  rw [mtc_iff]
  unfold letters
  constructor
  · intro h
    have hl : x.length = to - fr := by rw [← h]; simp
    refine ⟨fun i hi => ⟨by omega, ?_⟩, by omega⟩
    rw [← h]
    simp [List.getD_eq_getElem?_getD, show i < to - fr by omega]
  · rintro ⟨h1, h2⟩
    apply List.ext_getElem
    · simp; omega
    · intro i h3 h4
      simp
      rw [(h1 i h4).2]
      simp [List.getD_eq_getElem?_getD, h4]
theorem wdK_none {w : List Int} (h : ∀ j, j < 18 → WL.getD j [] ≠ w) : wdK w = 42 := by
  unfold wdK
  have : WL.findIdx? (fun x => decide (x = w)) = none := by
    rw [List.findIdx?_eq_none_iff]
    intro x hx
    obtain ⟨j, hj, hje⟩ := List.mem_iff_getElem.mp hx
    have hj18 : j < 18 := hj
    have := h j hj18
    rw [List.getD_eq_getElem?_getD, List.getElem?_eq_getElem hj] at this
    simp only [Option.getD_some] at this
    rw [hje] at this
    simpa using this
  rw [this]

theorem c_wordFrom (fr to n : Nat) (hft : fr ≤ to) (hto : to ≤ n) (hn : n ≤ 300) (S : ST) (M : MT) (b : Nat → Int) (h : TB M b n) (hok : okTp b n) : Ct E1 yX9_wordFrom cX9_wordFrom 8 (some .int) rm_X9_wordFrom [.ref 55, .int (z (fr : Int)), .int (z (to : Int))] S M (Pi (wdK (letters b fr to) : Int) S M) := by
  have hi : (0 : Nat) < 2 := by decide
  refine Ct.mk [.ref 55, .int (z (fr : Int)), .int (z (to : Int)), mkV, mkV, mkV, mkV, mkV] (by decide) rfl (Nat.le_of_ble_eq_true rfl) (fun X K => ?_)
  refine wp_iconst (n := 1) K dX9_wordFrom_0 rfl ?_
  refine wp_istore_n (n := 2) K dX9_wordFrom_1 rfl (by decide) ?_
  refine wp_iload_n (n := 3) K dX9_wordFrom_2 rfl rfl ?_
  refine wp_istore (n := 5) K dX9_wordFrom_3 rfl (by decide) ?_
  refine wp_iconst (n := 6) K dX9_wordFrom_5 rfl ?_
  refine wp_istore (n := 8) K dX9_wordFrom_6 rfl (by decide) ?_
  refine wp_iconst (n := 9) K dX9_wordFrom_8 rfl ?_
  refine wp_istore (n := 11) K dX9_wordFrom_9 rfl (by decide) ?_
  have outer : ∀ d j, j + d = 18 → (∀ j', j' < j → WL.getD j' [] ≠ letters b fr to) → ∀ w7 : Value, Wp E1 X 11 [.ref 55, .int (z (fr : Int)), .int (z (to : Int)), .int (z (j : Int)), .int (z (fr : Int)), .int (z (bI true)), .int (z (posW j : Int)), w7] [] S M := by
    intro d
    induction d with
    | zero =>
      intro j hj hno w7
      have hj18 : j = 18 := by omega
      subst hj18
      rw [posE]
      refine wp_iload (n := 13) K dX9_wordFrom_11 rfl rfl ?_
      refine wp_ldcS (n := 15) (b := 2) K dX9_wordFrom_13 rfl rfl (by decide) ?_
      refine wp_invVS (n := 18) K dX9_wordFrom_15 rfl cf_X9_71 (j_length 0 hi _ _) rfl rfl (i := 0) hi rfl (by decide) ⟨Nat.le_refl _, Nat.le_refl _⟩ (Nat.le_of_ble_eq_true rfl) ?_
      refine wp_icmp_ge (n := 21) K dX9_wordFrom_18 rfl (tgt := 100) (by decide) ⟨by omega, by omega⟩ ⟨by decide, by decide⟩ (fun c18 => ?_) (fun c18 => ?_)
      · refine wp_bipush (n := 102) K dX9_wordFrom_100 rfl rfl ?_
        refine ret_i K dX9_wordFrom_102 ?_ rfl ?_ ⟨Nat.le_refl _, Nat.le_refl _⟩
        · rw [wdK_none hno]; rfl
        · rfl
      · exact absurd c18 (by decide)
    | succ d ih =>
      intro j hj hno w7
      have hw := of_decide_eq_true (List.all_eq_true.mp wlF j (List.mem_range.mpr (by omega)))
      have hpq := List.all_eq_true.mp posF j (List.mem_range.mpr (by omega))
      rw [Bool.and_eq_true] at hpq
      obtain ⟨hp1, hp2⟩ := of_decide_eq_true hpq.1
      have hp3 : ∀ k, k < (WL.getD j []).length → sB 0 (posW j + k) = (WL.getD j []).getD k 0 ∧ (WL.getD j []).getD k 0 ≠ 32 := fun k hk => of_decide_eq_true (List.all_eq_true.mp hpq.2 k (List.mem_range.mpr (by omega))) hk
      generalize hx : WL.getD j [] = x at hw hp1 hp2 hp3
      have inner : ∀ e k, k + e = x.length → ∀ w7 : Value, Wp E1 X 11 [.ref 55, .int (z (fr : Int)), .int (z (to : Int)), .int (z (j : Int)), .int (z ((fr + k : Nat) : Int)), .int (z (bI (mtc b fr to x k))), .int (z ((posW j + k : Nat) : Int)), w7] [] S M := by
        intro e
        induction e with
        | zero =>
          intro k hk w7
          have hkl : k = x.length := by omega
          subst hkl
          have nx : ¬ (mtc b fr to x x.length = true ∧ fr + x.length = to) → ∀ w7 : Value, Wp E1 X 85 [.ref 55, .int (z (fr : Int)), .int (z (to : Int)), .int (z (j : Int)), .int (z ((fr + x.length : Nat) : Int)), .int (z (bI (mtc b fr to x x.length))), .int (z ((posW j + x.length : Nat) : Int)), w7] [] S M := fun hq w7 => by
            refine wp_iinc (n := 88) K dX9_wordFrom_85 rfl rfl (by decide) ?_
            refine wp_iload_n (n := 89) K dX9_wordFrom_88 rfl rfl ?_
            refine wp_istore (n := 91) K dX9_wordFrom_89 rfl (by decide) ?_
            refine wp_iconst (n := 92) K dX9_wordFrom_91 rfl ?_
            refine wp_istore (n := 94) K dX9_wordFrom_92 rfl (by decide) ?_
            refine wp_iinc (n := 97) K dX9_wordFrom_94 rfl rfl (by decide) ?_
            refine wp_goto K dX9_wordFrom_97 (tgt := 11) (by decide) ?_
            have r := ih (j + 1) (by omega) (fun j' hj' => by
              by_cases he : j' = j
              · subst he; rw [hx]; exact fun u => hq ((word_iff hft).mp u.symm)
              · exact hno j' (by omega)) w7
            have ep : posW (j + 1) = posW j + x.length + 1 := by show posW j + (WL.getD j []).length + 1 = _; rw [hx]
            rw [ep] at r
            exact r
          have hsr := inR_sB 0 (posW j + x.length)
          refine wp_iload (n := 13) K dX9_wordFrom_11 rfl rfl ?_
          refine wp_ldcS (n := 15) (b := 2) K dX9_wordFrom_13 rfl rfl (by decide) ?_
          refine wp_invVS (n := 18) K dX9_wordFrom_15 rfl cf_X9_71 (j_length 0 hi _ _) rfl rfl (i := 0) hi rfl (by decide) ⟨Nat.le_refl _, Nat.le_refl _⟩ (Nat.le_of_ble_eq_true rfl) ?_
          refine wp_icmp_ge (n := 21) K dX9_wordFrom_18 rfl (tgt := 100) (by decide) ⟨by omega, by omega⟩ ⟨by decide, by decide⟩ (fun c18 => ?_) (fun c18 => ?_)
          · have : (87 : Int) ≤ ((posW j + x.length : Nat) : Int) := c18
            omega
          · refine wp_ldcS (n := 23) (b := 2) K dX9_wordFrom_21 rfl rfl (by decide) ?_
            refine wp_iload (n := 25) K dX9_wordFrom_23 rfl rfl ?_
            refine wp_invVS (n := 28) K dX9_wordFrom_25 rfl cf_X9_75 (j_charAt 0 hi _ ⟨by omega, by show ((posW j + x.length : Nat) : Int) < 87; omega⟩ _ _) rfl rfl (i := 0) hi rfl (by decide) ⟨Nat.le_refl _, Nat.le_refl _⟩ (Nat.le_of_ble_eq_true rfl) ?_
            rw [Int.toNat_natCast, hp2]
            refine wp_istore (n := 30) K dX9_wordFrom_28 rfl (by decide) ?_
            refine wp_iload (n := 32) K dX9_wordFrom_30 rfl rfl ?_
            refine wp_bipush (n := 34) K dX9_wordFrom_32 rfl rfl ?_
            refine wp_icmp_eq (n := 37) K dX9_wordFrom_34 rfl (tgt := 72) (by decide) ⟨by omega, by omega⟩ ⟨by omega, by omega⟩ (fun c34 => ?_) (fun c34 => ?_)
            · refine wp_iload (n := 74) K dX9_wordFrom_72 rfl rfl ?_
              refine wp_if_eq_b (n := 77) K dX9_wordFrom_74 rfl (tgt := 85) (by decide) (fun c74 => ?_) (fun c74 => ?_)
              · exact nx (fun q => by rw [q.1] at c74; cases c74) _
              · refine wp_iload (n := 79) K dX9_wordFrom_77 rfl rfl ?_
                refine wp_iload_n (n := 80) K dX9_wordFrom_79 rfl rfl ?_
                refine wp_icmp_ne (n := 83) K dX9_wordFrom_80 rfl (tgt := 85) (by decide) ⟨by omega, by omega⟩ ⟨by omega, by omega⟩ (fun c80 => ?_) (fun c80 => ?_)
                · exact nx (fun q => by omega) _
                · have heq : letters b fr to = x := (word_iff hft).mpr ⟨c74, by omega⟩
                  refine wp_iload_n (n := 84) K dX9_wordFrom_83 rfl rfl ?_
                  refine ret_i K dX9_wordFrom_84 ?_ rfl ?_ ⟨Nat.le_refl _, Nat.le_refl _⟩
                  · rw [heq, hw.2]
                  · rfl
            · exact absurd rfl c34
        | succ e ihe =>
          intro k hk w7
          obtain ⟨s1, s2⟩ := hp3 k (by omega)
          have hsr := inR_sB 0 (posW j + k)
          rw [s1] at hsr
          have hbr := bA_r hok.2 (fr + k)
          have ihk := ihe (k + 1) (by omega)
          have em : mtc b fr to x (k + 1) = (mtc b fr to x k && (decide (fr + k < to) && decide (b (fr + k) = x.getD k 0))) := rfl
          have k63 : mtc b fr to x (k + 1) = false → Wp E1 X 63 [.ref 55, .int (z (fr : Int)), .int (z (to : Int)), .int (z (j : Int)), .int (z ((fr + k : Nat) : Int)), .int (z (bI (mtc b fr to x k))), .int (z ((posW j + k : Nat) : Int)), .int (z (x.getD k 0))] [] S M := fun hf => by
            rw [hf] at ihk
            refine wp_iconst (n := 64) K dX9_wordFrom_63 rfl ?_
            refine wp_istore (n := 66) K dX9_wordFrom_64 rfl (by decide) ?_
            refine wp_iinc (n := 69) K dX9_wordFrom_66 rfl rfl (by decide) ?_
            refine wp_goto K dX9_wordFrom_69 (tgt := 94) (by decide) ?_
            refine wp_iinc (n := 97) K dX9_wordFrom_94 rfl rfl (by decide) ?_
            refine wp_goto K dX9_wordFrom_97 (tgt := 11) (by decide) ?_
            exact ihk _
          refine wp_iload (n := 13) K dX9_wordFrom_11 rfl rfl ?_
          refine wp_ldcS (n := 15) (b := 2) K dX9_wordFrom_13 rfl rfl (by decide) ?_
          refine wp_invVS (n := 18) K dX9_wordFrom_15 rfl cf_X9_71 (j_length 0 hi _ _) rfl rfl (i := 0) hi rfl (by decide) ⟨Nat.le_refl _, Nat.le_refl _⟩ (Nat.le_of_ble_eq_true rfl) ?_
          refine wp_icmp_ge (n := 21) K dX9_wordFrom_18 rfl (tgt := 100) (by decide) ⟨by omega, by omega⟩ ⟨by decide, by decide⟩ (fun c18 => ?_) (fun c18 => ?_)
          · have : (87 : Int) ≤ ((posW j + k : Nat) : Int) := c18
            omega
          · refine wp_ldcS (n := 23) (b := 2) K dX9_wordFrom_21 rfl rfl (by decide) ?_
            refine wp_iload (n := 25) K dX9_wordFrom_23 rfl rfl ?_
            refine wp_invVS (n := 28) K dX9_wordFrom_25 rfl cf_X9_75 (j_charAt 0 hi _ ⟨by omega, by show ((posW j + k : Nat) : Int) < 87; omega⟩ _ _) rfl rfl (i := 0) hi rfl (by decide) ⟨Nat.le_refl _, Nat.le_refl _⟩ (Nat.le_of_ble_eq_true rfl) ?_
            rw [Int.toNat_natCast, s1]
            refine wp_istore (n := 30) K dX9_wordFrom_28 rfl (by decide) ?_
            refine wp_iload (n := 32) K dX9_wordFrom_30 rfl rfl ?_
            refine wp_bipush (n := 34) K dX9_wordFrom_32 rfl rfl ?_
            refine wp_icmp_eq (n := 37) K dX9_wordFrom_34 rfl (tgt := 72) (by decide) hsr ⟨by omega, by omega⟩ (fun c34 => ?_) (fun c34 => ?_)
            · exact absurd c34 s2
            · refine wp_iload (n := 39) K dX9_wordFrom_37 rfl rfl ?_
              refine wp_if_eq_b (n := 42) K dX9_wordFrom_39 rfl (tgt := 63) (by decide) (fun c39 => ?_) (fun c39 => ?_)
              · exact k63 (by rw [em, c39]; rfl)
              · refine wp_iload (n := 44) K dX9_wordFrom_42 rfl rfl ?_
                refine wp_iload_n (n := 45) K dX9_wordFrom_44 rfl rfl ?_
                refine wp_icmp_ge (n := 48) K dX9_wordFrom_45 rfl (tgt := 63) (by decide) ⟨by omega, by omega⟩ ⟨by omega, by omega⟩ (fun c45 => ?_) (fun c45 => ?_)
                · exact k63 (by rw [em, decide_eq_false (by omega)]; simp)
                · have ebA : bA b n (fr + k) = b (fr + k) := by unfold bA; rw [if_pos (by omega)]
                  refine wp_aload_n (n := 49) K dX9_wordFrom_48 rfl rfl ?_
                  refine wp_iload (n := 51) K dX9_wordFrom_49 rfl rfl ?_
                  refine wp_invV_i (n := 54) K dX9_wordFrom_51 rfl cf_X9_41 (c_byteAt (fr + k) n (by omega) hn _ _ b h) rfl rfl rfl (liS rfl) rfl (by decide) ⟨Nat.le_refl _, Nat.le_refl _⟩ (Nat.le_of_ble_eq_true rfl) ?_
                  refine wp_iload (n := 56) K dX9_wordFrom_54 rfl rfl ?_
                  refine wp_icmp_ne (n := 59) K dX9_wordFrom_56 rfl (tgt := 63) (by decide) ⟨by omega, by omega⟩ hsr (fun c56 => ?_) (fun c56 => ?_)
                  · exact k63 (by rw [em, decide_eq_false (p := b (fr + k) = x.getD k 0) (fun u => c56 (by rw [ebA]; exact u))]; simp)
                  · rw [em, c39, decide_eq_true (by omega), decide_eq_true (by rw [← ebA]; exact c56)] at ihk
                    refine wp_iconst (n := 60) K dX9_wordFrom_59 rfl ?_
                    refine wp_goto K dX9_wordFrom_60 (tgt := 64) (by decide) ?_
                    refine wp_istore (n := 66) K dX9_wordFrom_64 rfl (by decide) ?_
                    refine wp_iinc (n := 69) K dX9_wordFrom_66 rfl rfl (by decide) ?_
                    refine wp_goto K dX9_wordFrom_69 (tgt := 94) (by decide) ?_
                    refine wp_iinc (n := 97) K dX9_wordFrom_94 rfl rfl (by decide) ?_
                    refine wp_goto K dX9_wordFrom_97 (tgt := 11) (by decide) ?_
                    exact ihk _
      exact inner x.length 0 (by omega) w7
  exact outer 18 0 (by omega) (fun j' hj' => by omega) mkV
