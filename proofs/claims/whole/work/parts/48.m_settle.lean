
theorem m_settle (t0 : Nat) (least : Int) (hle : 3 ≤ least ∧ least ≤ 40) (pl : List Int) (c : List (Int × Int)) (ht : t0 ≤ 2040) (hl : pl.length + c.length ≤ 301) (hp : pl.length ≤ 160) (hi : okI pl) (S : ST) (M : MT) (hps : PS M t0 pl c) : Ct E1 yX12_settle cX12_settle 2 none rm_X12_settle [.ref 77, .int (z least)] S M (Qn [77, 80] S M (fun M1 => PS M1 t0 (stl least pl c).1 (stl least pl c).2 ∧ M1 77 18 = M 77 18 ∧ M1 77 19 = M 77 19 ∧ FR t0 M M1)) := by
  refine Ct.mk [.ref 77, .int (z least)] (by decide) rfl (Nat.le_of_ble_eq_true rfl) (fun X K => ?_)
  have loop : ∀ (pl : List Int) (c : List (Int × Int)) (M1 : MT), pl.length + c.length ≤ 301 → pl.length ≤ 160 → okI pl → PS M1 t0 pl c → M1 77 18 = M 77 18 → M1 77 19 = M 77 19 → FR t0 M M1 → (∀ a, a ∉ [77, 80] → M1 a = M a) → (∀ M2 : MT, PS M2 t0 (stl least pl c).1 (stl least pl c).2 → M2 77 18 = M 77 18 → M2 77 19 = M 77 19 → FR t0 M M2 → (∀ a, a ∉ [77, 80] → M2 a = M a) → Wp E1 X 65 [.ref 77, .int (z least)] [] S M2) → Wp E1 X 0 [.ref 77, .int (z least)] [] S M1 := by
    intro pl
    induction pl with
    | nil =>
      intro c M1 hl hp hi hps h18 h19 hfr hfa k
      have h17 : M1 77 17 = 0 := hps.2.2.2.1
      refine wp_aload_n (n := 1) K dX12_settle_0 rfl rfl ?_
      refine wp_getI (n := 4) K dX12_settle_1 rfl fl_X12_135 rfl (liS rfl) rfl ?_
      try simp only [up_same, up_up, up_ne, ne_eq, Nat.reduceEqDiff, not_false_eq_true, Int.reduceToNat, Int.toNat_natCast]
      refine wp_if_le (n := 7) K dX12_settle_4 rfl (tgt := 65) (by decide) ⟨by omega, by omega⟩ (fun c4 => ?_) (fun c4 => ?_)
      · exact k M1 hps h18 h19 hfr hfa
      · omega
    | cons x xs ih =>
      intro c M1 hl hp hi hps h18 h19 hfr hfa k
      have hll : (x :: xs).length = xs.length + 1 := rfl
      have h17 : M1 77 17 = ((x :: xs).length : Nat) := hps.2.2.2.1
      have hx : M1 82 xs.length = x := hps.2.2.2.2.1
      have hxr : InR x := hi x List.mem_cons_self
      have hxr2 := hxr.1
      have hxr3 := hxr.2
      have stop : ¬ (x < 40 ∧ least ≤ x) → Wp E1 X 65 [.ref 77, .int (z least)] [] S M1 := by
        intro h
        have e : stl least (x :: xs) c = (x :: xs, c) := if_neg h
        rw [e] at k
        exact k M1 hps h18 h19 hfr hfa
      refine wp_aload_n (n := 1) K dX12_settle_0 rfl rfl ?_
      refine wp_getI (n := 4) K dX12_settle_1 rfl fl_X12_135 rfl (liS rfl) rfl ?_
      try simp only [up_same, up_up, up_ne, ne_eq, Nat.reduceEqDiff, not_false_eq_true, Int.reduceToNat, Int.toNat_natCast]
      refine wp_if_le (n := 7) K dX12_settle_4 rfl (tgt := 65) (by decide) ⟨by omega, by omega⟩ (fun c4 => ?_) (fun c4 => ?_)
      · omega
      refine wp_aload_n (n := 8) K dX12_settle_7 rfl rfl ?_
      refine wp_getF (n := 11) K dX12_settle_8 rfl fl_X12_29 rfl (liS rfl) rfl rfl ?_
      refine wp_aload_n (n := 12) K dX12_settle_11 rfl rfl ?_
      refine wp_getI (n := 15) K dX12_settle_12 rfl fl_X12_135 rfl (liS rfl) rfl ?_
      try simp only [up_same, up_up, up_ne, ne_eq, Nat.reduceEqDiff, not_false_eq_true, Int.reduceToNat, Int.toNat_natCast]
      refine wp_iconst (n := 16) K dX12_settle_15 rfl ?_
      refine wp_isub (n := 17) K dX12_settle_16 rfl ?_
      rw [h17, show (((x :: xs).length : Nat) : Int) - 1 = ((xs.length : Nat) : Int) by omega]
      refine wp_iald (n := 18) K dX12_settle_17 rfl rfl (liS rfl) ⟨by omega, by omega, by omega⟩ ?_
      try simp only [up_same, up_up, up_ne, ne_eq, Nat.reduceEqDiff, not_false_eq_true, Int.reduceToNat, Int.toNat_natCast]
      rw [hx]
      refine wp_bipush (n := 20) K dX12_settle_18 rfl rfl ?_
      refine wp_icmp_ge (n := 23) K dX12_settle_20 rfl (tgt := 65) (by decide) ⟨by omega, by omega⟩ ⟨by omega, by omega⟩ (fun c20 => ?_) (fun c20 => ?_)
      · exact stop (by omega)
      refine wp_aload_n (n := 24) K dX12_settle_23 rfl rfl ?_
      refine wp_getF (n := 27) K dX12_settle_24 rfl fl_X12_29 rfl (liS rfl) rfl rfl ?_
      refine wp_aload_n (n := 28) K dX12_settle_27 rfl rfl ?_
      refine wp_getI (n := 31) K dX12_settle_28 rfl fl_X12_135 rfl (liS rfl) rfl ?_
      try simp only [up_same, up_up, up_ne, ne_eq, Nat.reduceEqDiff, not_false_eq_true, Int.reduceToNat, Int.toNat_natCast]
      refine wp_iconst (n := 32) K dX12_settle_31 rfl ?_
      refine wp_isub (n := 33) K dX12_settle_32 rfl ?_
      rw [h17, show (((x :: xs).length : Nat) : Int) - 1 = ((xs.length : Nat) : Int) by omega]
      refine wp_iald (n := 34) K dX12_settle_33 rfl rfl (liS rfl) ⟨by omega, by omega, by omega⟩ ?_
      try simp only [up_same, up_up, up_ne, ne_eq, Nat.reduceEqDiff, not_false_eq_true, Int.reduceToNat, Int.toNat_natCast]
      rw [hx]
      refine wp_iload_n (n := 35) K dX12_settle_34 rfl rfl ?_
      refine wp_icmp_lt (n := 38) K dX12_settle_35 rfl (tgt := 65) (by decide) ⟨by omega, by omega⟩ ⟨by omega, by omega⟩ (fun c35 => ?_) (fun c35 => ?_)
      · exact stop (by omega)
      · have e : stl least (x :: xs) c = stl least xs ((x, 0) :: c) := if_pos ⟨by omega, by omega⟩
        rw [e] at k
        refine wp_aload_n (n := 39) K dX12_settle_38 rfl rfl ?_
        refine wp_dup (n := 40) K dX12_settle_39 rfl rfl ?_
        refine wp_getI (n := 43) K dX12_settle_40 rfl fl_X12_135 rfl (liS rfl) rfl ?_
        try simp only [up_same, up_up, up_ne, ne_eq, Nat.reduceEqDiff, not_false_eq_true, Int.reduceToNat, Int.toNat_natCast]
        refine wp_iconst (n := 44) K dX12_settle_43 rfl ?_
        refine wp_isub (n := 45) K dX12_settle_44 rfl ?_
        refine wp_putI (n := 48) K dX12_settle_45 rfl fl_X12_135 rfl (liS rfl) (Or.inl rfl) rfl rfl ?_
        try simp only [up_same, up_up, up_ne, ne_eq, Nat.reduceEqDiff, not_false_eq_true, Int.reduceToNat, Int.toNat_natCast]
        refine wp_aload_n (n := 49) K dX12_settle_48 rfl rfl ?_
        refine wp_aload_n (n := 50) K dX12_settle_49 rfl rfl ?_
        refine wp_getF (n := 53) K dX12_settle_50 rfl fl_X12_29 rfl (liS rfl) rfl rfl ?_
        refine wp_aload_n (n := 54) K dX12_settle_53 rfl rfl ?_
        refine wp_getI (n := 57) K dX12_settle_54 rfl fl_X12_135 rfl (liS rfl) rfl ?_
        try simp only [up_same, up_up, up_ne, ne_eq, Nat.reduceEqDiff, not_false_eq_true, Int.reduceToNat, Int.toNat_natCast]
        rw [h17, show (((x :: xs).length : Nat) : Int) - 1 = ((xs.length : Nat) : Int) by omega]
        refine wp_iald (n := 58) K dX12_settle_57 rfl rfl (liS rfl) ⟨by omega, by omega, by omega⟩ ?_
        try simp only [up_same, up_up, up_ne, ne_eq, Nat.reduceEqDiff, not_false_eq_true, Int.reduceToNat, Int.toNat_natCast]
        rw [hx]
        have hps := hps.pop (M1 := up M1 77 (up (M1 77) 17 ((xs.length : Nat) : Int))) rfl rfl rfl rfl (by rw [up_same, up_same])
        refine wp_iconst (n := 59) K dX12_settle_58 rfl ?_
        refine wp_invV_n (n := 62) K dX12_settle_59 rfl cf_X12_145 (m_emit t0 c.length x 0 ht (by omega) _ _ hps.1 hps.2.1) rfl rfl rfl (liS rfl) rfl (by decide) ⟨Nat.le_refl _, Nat.le_refl _⟩ (Nat.le_of_ble_eq_true rfl) ?_
        refine wp_goto K dX12_settle_62 (tgt := 0) (by decide) ?_
        obtain ⟨e1, e2, e3, e4⟩ := hps.em x 0
        refine ih ((x, 0) :: c) _ (by show _ + (c.length + 1) ≤ 301; omega) (by omega) (fun y hy => hi y (List.mem_cons_of_mem _ hy)) e1 ?_ ?_ (hfr.trans (FR.trans ?_ e2)) (fun a ha => by rw [e3 a ha, up_ne _ _ (fun q => ha (by rw [q]; decide))]; exact hfa a ha) k
        · rw [e4 18 (by decide)]; exact h18
        · rw [e4 19 (by decide)]; exact h19
        · exact ⟨fun j _ b c _ => by rw [up_same, up_ne _ _ b], fun j _ => rfl⟩
  refine loop pl c _ hl hp hi hps rfl rfl (FR.refl _ _) (fun a ha => rfl) ?_
  intro M2 q1 q2 q3 q4 q5
  refine ret_qn K dX12_settle_65 rfl ?_ ?_ ⟨Nat.le_refl _, Nat.le_refl _⟩
  · exact q5
  · exact ⟨q1, q2, q3, q4⟩
theorem PR.mem {r : Nat → Int} : ∀ {l : List Int}, PR r l → ∀ k, k < l.length → r k ∈ l := by
  intro l
  induction l with
  | nil => intro _ k hk; exact absurd hk (Nat.not_lt_zero _)
  | cons x xs ih =>
    intro h k hk
    have hk : k < xs.length + 1 := hk
    rcases Nat.lt_or_ge k xs.length with q | q
    · exact List.mem_cons_of_mem _ (ih h.2 k q)
    · rw [show k = xs.length by omega, h.1]; exact List.mem_cons_self
theorem PR.ex {r : Nat → Int} : ∀ {l : List Int}, PR r l → ∀ x ∈ l, ∃ k, k < l.length ∧ r k = x := by
  intro l
  induction l with
  | nil => intro _ x hx; cases hx
  | cons y ys ih =>
    intro h x hx
    rcases List.mem_cons.mp hx with q | q
    · exact ⟨ys.length, Nat.lt_succ_self _, by rw [h.1, q]⟩
    · obtain ⟨k, h1, h2⟩ := ih h.2 x q
      exact ⟨k, Nat.lt_succ_of_lt h1, h2⟩

theorem m_hasParen (pl : List Int) (hp : pl.length ≤ 160) (hi : okI pl) (S : ST) (M : MT) (h17 : M 77 17 = pl.length) (hr : PR (M 82) pl) : Ct E1 yX12_hasParen cX12_hasParen 2 (some .boolean) rm_X12_hasParen [.ref 77] S M (Pi (bI (decide (40 ∈ pl))) S M) := by
  refine Ct.mk [.ref 77, mkV] (by decide) rfl (Nat.le_of_ble_eq_true rfl) (fun X K => ?_)
  have loop : ∀ (d k : Nat), k + d = pl.length → (∀ j, j < k → M 82 j ≠ 40) → Wp E1 X 2 [.ref 77, .int (z (k : Int))] [] S M := by
    intro d
    induction d with
    | zero =>
      intro k hk hn
      have : ¬ (40 : Int) ∈ pl := fun q => by
        obtain ⟨j, h1, h2⟩ := hr.ex _ q
        exact hn j (by omega) h2
      rw [decide_eq_false this] at K
      refine wp_iload_n (n := 3) K dX12_hasParen_2 rfl rfl ?_
      refine wp_aload_n (n := 4) K dX12_hasParen_3 rfl rfl ?_
      refine wp_getI (n := 7) K dX12_hasParen_4 rfl fl_X12_135 rfl (liS rfl) rfl ?_
      try simp only [up_same, up_up, up_ne, ne_eq, Nat.reduceEqDiff, not_false_eq_true, Int.reduceToNat, Int.toNat_natCast]
      refine wp_icmp_ge (n := 10) K dX12_hasParen_7 rfl (tgt := 29) (by decide) ⟨by omega, by omega⟩ ⟨by omega, by omega⟩ (fun c7 => ?_) (fun c7 => ?_)
      · refine wp_iconst (n := 30) K dX12_hasParen_29 rfl ?_
        refine ret_z K dX12_hasParen_30 ?_ rfl ?_ ⟨Nat.le_refl _, Nat.le_refl _⟩
        all_goals rfl
      · omega
    | succ d ih =>
      intro k hk hn
      have hm := hr.mem k (by omega)
      have hq := hi _ hm
      have hq1 := hq.1
      have hq2 := hq.2
      refine wp_iload_n (n := 3) K dX12_hasParen_2 rfl rfl ?_
      refine wp_aload_n (n := 4) K dX12_hasParen_3 rfl rfl ?_
      refine wp_getI (n := 7) K dX12_hasParen_4 rfl fl_X12_135 rfl (liS rfl) rfl ?_
      try simp only [up_same, up_up, up_ne, ne_eq, Nat.reduceEqDiff, not_false_eq_true, Int.reduceToNat, Int.toNat_natCast]
      refine wp_icmp_ge (n := 10) K dX12_hasParen_7 rfl (tgt := 29) (by decide) ⟨by omega, by omega⟩ ⟨by omega, by omega⟩ (fun c7 => ?_) (fun c7 => ?_)
      · omega
      refine wp_aload_n (n := 11) K dX12_hasParen_10 rfl rfl ?_
      refine wp_getF (n := 14) K dX12_hasParen_11 rfl fl_X12_29 rfl (liS rfl) rfl rfl ?_
      refine wp_iload_n (n := 15) K dX12_hasParen_14 rfl rfl ?_
      refine wp_iald (n := 16) K dX12_hasParen_15 rfl rfl (liS rfl) ⟨by omega, by omega, by omega⟩ ?_
      try simp only [up_same, up_up, up_ne, ne_eq, Nat.reduceEqDiff, not_false_eq_true, Int.reduceToNat, Int.toNat_natCast]
      refine wp_bipush (n := 18) K dX12_hasParen_16 rfl rfl ?_
      refine wp_icmp_ne (n := 21) K dX12_hasParen_18 rfl (tgt := 23) (by decide) ⟨by omega, by omega⟩ ⟨by omega, by omega⟩ (fun c18 => ?_) (fun c18 => ?_)
      · refine wp_iinc (n := 26) K dX12_hasParen_23 rfl rfl (by decide) ?_
        refine wp_goto K dX12_hasParen_26 (tgt := 2) (by decide) ?_
        rw [show (k : Int) + 1 = ((k + 1 : Nat) : Int) by omega]
        refine ih (k + 1) (by omega) (fun j hj => ?_)
        rcases Nat.lt_or_ge j k with q | q
        · exact hn j q
        · rw [show j = k by omega]; exact c18
      · rw [c18] at hm
        rw [decide_eq_true hm] at K
        refine wp_iconst (n := 22) K dX12_hasParen_21 rfl ?_
        refine ret_z K dX12_hasParen_22 ?_ rfl ?_ ⟨Nat.le_refl _, Nat.le_refl _⟩
        all_goals rfl
  refine wp_iconst (n := 1) K dX12_hasParen_0 rfl ?_
  refine wp_istore_n (n := 2) K dX12_hasParen_1 rfl (by decide) ?_
  exact loop pl.length 0 (by omega) (fun j hj => absurd hj (Nat.not_lt_zero _))
/-- what goes on behind a ONE -/
def goF (k : Nat) (pl : List Int) : Bool := decide (24 ≤ k ∧ k ≤ 27) || (decide (k = 29) && decide (40 ∈ pl))

theorem m_goesOn (k : Nat) (v : Int) (pl : List Int) (hp : pl.length ≤ 160) (hi : okI pl) (S : ST) (M : MT) (h17 : M 77 17 = pl.length) (hr : PR (M 82) pl) (h : TK M k v) : Ct E1 yX12_goesOn cX12_goesOn 1 (some .boolean) rm_X12_goesOn [.ref 77] S M (Pi (bI (goF k pl)) S M) := by
  refine Ct.mk [.ref 77] (by decide) rfl (Nat.le_of_ble_eq_true rfl) (fun X K => ?_)
  have hrr := h.r
  have yes : goF k pl = true → Wp E1 X 52 [.ref 77] [] S M := by
    intro e
    rw [e] at K
    refine wp_iconst (n := 53) K dX12_goesOn_52 rfl ?_
    refine wp_goto K dX12_goesOn_53 (tgt := 57) (by decide) ?_
    refine ret_z K dX12_goesOn_57 ?_ rfl ?_ ⟨Nat.le_refl _, Nat.le_refl _⟩
    all_goals rfl
  have no : goF k pl = false → Wp E1 X 56 [.ref 77] [] S M := by
    intro e
    rw [e] at K
    refine wp_iconst (n := 57) K dX12_goesOn_56 rfl ?_
    refine ret_z K dX12_goesOn_57 ?_ rfl ?_ ⟨Nat.le_refl _, Nat.le_refl _⟩
    all_goals rfl
  have y4 : (24 ≤ k ∧ k ≤ 27) → goF k pl = true := fun e => by unfold goF; rw [decide_eq_true e]; rfl
  refine wp_aload_n (n := 1) K dX12_goesOn_0 rfl rfl ?_
  refine wp_getI (n := 4) K dX12_goesOn_1 rfl fl_X12_104 rfl (liS rfl) rfl ?_
  try simp only [up_same, up_up, up_ne, ne_eq, Nat.reduceEqDiff, not_false_eq_true, Int.reduceToNat, Int.toNat_natCast]
  refine wp_bipush (n := 6) K dX12_goesOn_4 rfl rfl ?_
  refine wp_icmp_eq (n := 9) K dX12_goesOn_6 rfl (tgt := 52) (by decide) ⟨by omega, by omega⟩ ⟨by omega, by omega⟩ (fun c6 => ?_) (fun c6 => ?_)
  · have := (h.is (j := 24) (by decide)).mp c6; exact yes (y4 (by omega))
  have n1 : k ≠ 24 := fun e => c6 ((h.is (c := 43) (by decide)).mpr e)
  refine wp_aload_n (n := 10) K dX12_goesOn_9 rfl rfl ?_
  refine wp_getI (n := 13) K dX12_goesOn_10 rfl fl_X12_104 rfl (liS rfl) rfl ?_
  try simp only [up_same, up_up, up_ne, ne_eq, Nat.reduceEqDiff, not_false_eq_true, Int.reduceToNat, Int.toNat_natCast]
  refine wp_bipush (n := 15) K dX12_goesOn_13 rfl rfl ?_
  refine wp_icmp_eq (n := 18) K dX12_goesOn_15 rfl (tgt := 52) (by decide) ⟨by omega, by omega⟩ ⟨by omega, by omega⟩ (fun c15 => ?_) (fun c15 => ?_)
  · have := (h.is (j := 25) (by decide)).mp c15; exact yes (y4 (by omega))
  have n2 : k ≠ 25 := fun e => c15 ((h.is (c := 45) (by decide)).mpr e)
  refine wp_aload_n (n := 19) K dX12_goesOn_18 rfl rfl ?_
  refine wp_getI (n := 22) K dX12_goesOn_19 rfl fl_X12_104 rfl (liS rfl) rfl ?_
  try simp only [up_same, up_up, up_ne, ne_eq, Nat.reduceEqDiff, not_false_eq_true, Int.reduceToNat, Int.toNat_natCast]
  refine wp_bipush (n := 24) K dX12_goesOn_22 rfl rfl ?_
  refine wp_icmp_eq (n := 27) K dX12_goesOn_24 rfl (tgt := 52) (by decide) ⟨by omega, by omega⟩ ⟨by omega, by omega⟩ (fun c24 => ?_) (fun c24 => ?_)
  · have := (h.is (j := 26) (by decide)).mp c24; exact yes (y4 (by omega))
  have n3 : k ≠ 26 := fun e => c24 ((h.is (c := 42) (by decide)).mpr e)
  refine wp_aload_n (n := 28) K dX12_goesOn_27 rfl rfl ?_
  refine wp_getI (n := 31) K dX12_goesOn_28 rfl fl_X12_104 rfl (liS rfl) rfl ?_
  try simp only [up_same, up_up, up_ne, ne_eq, Nat.reduceEqDiff, not_false_eq_true, Int.reduceToNat, Int.toNat_natCast]
  refine wp_bipush (n := 33) K dX12_goesOn_31 rfl rfl ?_
  refine wp_icmp_eq (n := 36) K dX12_goesOn_33 rfl (tgt := 52) (by decide) ⟨by omega, by omega⟩ ⟨by omega, by omega⟩ (fun c33 => ?_) (fun c33 => ?_)
  · have := (h.is (j := 27) (by decide)).mp c33; exact yes (y4 (by omega))
  have n4 : k ≠ 27 := fun e => c33 ((h.is (c := 47) (by decide)).mpr e)
  have n : decide (24 ≤ k ∧ k ≤ 27) = false := decide_eq_false (by omega)
  refine wp_aload_n (n := 37) K dX12_goesOn_36 rfl rfl ?_
  refine wp_getI (n := 40) K dX12_goesOn_37 rfl fl_X12_104 rfl (liS rfl) rfl ?_
  try simp only [up_same, up_up, up_ne, ne_eq, Nat.reduceEqDiff, not_false_eq_true, Int.reduceToNat, Int.toNat_natCast]
  refine wp_bipush (n := 42) K dX12_goesOn_40 rfl rfl ?_
  refine wp_icmp_ne (n := 45) K dX12_goesOn_42 rfl (tgt := 56) (by decide) ⟨by omega, by omega⟩ ⟨by omega, by omega⟩ (fun c42 => ?_) (fun c42 => ?_)
  · have n5 : k ≠ 29 := fun e => c42 ((h.is (c := 41) (by decide)).mpr e)
    exact no (by unfold goF; rw [n, decide_eq_false n5]; rfl)
  have e5 : k = 29 := (h.is (by decide)).mp c42
  refine wp_aload_n (n := 46) K dX12_goesOn_45 rfl rfl ?_
  refine wp_invV_i (n := 49) K dX12_goesOn_46 rfl cf_X12_175 (m_hasParen pl hp hi _ _ h17 hr) rfl rfl rfl (liS rfl) rfl (by decide) ⟨Nat.le_refl _, Nat.le_refl _⟩ (Nat.le_of_ble_eq_true rfl) ?_
  refine wp_if_eq_b (n := 52) K dX12_goesOn_49 rfl (tgt := 56) (by decide) (fun c49 => ?_) (fun c49 => ?_)
  · exact no (by unfold goF; rw [n, c49, Bool.and_false]; rfl)
  · exact yes (by unfold goF; rw [c49, decide_eq_true e5, Bool.and_self, Bool.or_true])
