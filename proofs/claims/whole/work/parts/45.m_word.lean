/-! WORDS of the reference -/
theorem pkR_r : ∀ (r : List Int), ltrs r → 0 ≤ pkR r ∧ pkR r < ((256 ^ r.length : Nat) : Int) := by
  intro r
  induction r with
  | nil => intro _; exact ⟨by decide, by decide⟩
  | cons c w ih =>
    intro h
    have h1 := ih (fun x hx => h x (List.mem_cons_of_mem _ hx))
    have h2 := h c List.mem_cons_self
    show 0 ≤ pkR w * 256 + c ∧ pkR w * 256 + c < ((256 ^ (w.length + 1) : Nat) : Int)
    rw [Nat.pow_succ]
    omega
theorem pkR_7 {r : List Int} (h : ltrs r) (hl : r.length ≤ 7) : 0 ≤ pkR r ∧ pkR r < 72057594037927936 := by
  have h1 := pkR_r r h
  have h2 : 256 ^ r.length ≤ 256 ^ 7 := Nat.pow_le_pow_right (by decide) hl
  have h3 : (256 : Nat) ^ 7 = 72057594037927936 := by decide
  omega
theorem pkR_pos {r : List Int} (h : ltrs r) (hr : r ≠ []) : 0 < pkR r := by
  cases r with
  | nil => exact absurd rfl hr
  | cons c w =>
    have h1 := pkR_nn (w := w) (fun x hx => h x (List.mem_cons_of_mem _ hx))
    have h2 := h c List.mem_cons_self
    show 0 < pkR w * 256 + c
    omega
/-- the i-th WORD, its last byte first -/
def WR (i : Nat) : List Int := (WL.getD i []).reverse
theorem wdK_or (w : List Int) : wdK w = 42 ∨ wdK w < 18 := by
  unfold wdK
  cases h : WL.findIdx? (fun x => decide (x = w)) with
  | none => exact Or.inl rfl
  | some i =>
    right
    have := (List.findIdx?_eq_some_iff_getElem.mp h).1
    exact this
theorem wdK_at (w : List Int) : wdK w < 18 → WL.getD (wdK w) [] = w := by
  unfold wdK
  cases h : WL.findIdx? (fun x => decide (x = w)) with
  | none => intro q; exact absurd q (by decide)
  | some i =>
    intro _
    obtain ⟨hi, h1, _⟩ := List.findIdx?_eq_some_iff_getElem.mp h
    show WL.getD i [] = w
    rw [List.getD_eq_getElem?_getD, List.getElem?_eq_getElem hi]
    exact of_decide_eq_true h1
theorem wdK_WL : ∀ i, i < 18 → wdK (WL.getD i []) = i := by decide
theorem WR_ok : ∀ i, i < 18 → ltrs (WR i) ∧ (WR i).length ≤ 7 ∧ WR i ≠ [] := by
  have : ∀ i, i < 18 → (∀ c ∈ WR i, 65 ≤ c ∧ c ≤ 122) ∧ (WR i).length ≤ 7 ∧ WR i ≠ [] := by decide
  exact this
/-- what a TOKEN of the reference is, by its kind -/
def TT : List (Int × Nat) := [(0, 41), (1, 40), (60, 20), (62, 21), (61, 22), (35, 23), (43, 24), (45, 25), (42, 26), (47, 27), (40, 28), (41, 29), (59, 30), (4, 31), (5, 32)]
theorem sgK_sg {c : Int} (h : 20 ≤ sgK c ∧ sgK c ≤ 30) : (c = 60 ∨ c = 62 ∨ c = 61 ∨ c = 35 ∨ c = 43 ∨ c = 45 ∨ c = 42 ∨ c = 47 ∨ c = 40 ∨ c = 41 ∨ c = 59) :=
  Decidable.byContradiction (fun q => by rw [sgK_n q] at h; omega)
theorem TT_sg : ∀ x ∈ TT, ∀ c ∈ ([60, 62, 61, 35, 43, 45, 42, 47, 40, 41, 59] : List Int), (c = x.1 ↔ sgK c = x.2) := by decide
theorem TT_no : ∀ x ∈ TT, x.1 ≠ 2 ∧ x.1 ≠ 3 ∧ ¬ x.2 < 18 ∧ x.2 ≠ 42 ∧ (x.1 = 0 ↔ x.2 = 41) ∧ (x.1 = 1 ↔ x.2 = 40) ∧ (x.1 = 4 ↔ x.2 = 31) ∧ (x.1 = 5 ↔ x.2 = 32) := by decide
theorem tk_is {k : Nat} {v tk nu wd : Int} (h : tkR k v tk nu wd) {c : Int} {j : Nat} (hx : (c, j) ∈ TT) : tk = c ↔ k = j := by
  obtain ⟨n1, n2, n3, n4, n5, n6, n7, n8⟩ := TT_no _ hx
  dsimp only at n1 n2 n3 n4 n5 n6 n7 n8
  rcases h with h | h | ⟨r, _, _, h1, h2, _⟩ | h | ⟨h1, h2, h3⟩ | h | h
  · omega
  · obtain ⟨h1, h2, _⟩ := h; omega
  · rcases wdK_or r.reverse with q | q <;> rw [← h2] at q <;> omega
  · omega
  · have hs := sgK_sg (c := tk) (by omega)
    rw [← h3]
    refine TT_sg _ hx tk ?_
    rcases hs with e | e | e | e | e | e | e | e | e | e | e <;> rw [e] <;> decide
  · omega
  · omega
theorem tk_nu {v tk nu wd : Int} (h : tkR 40 v tk nu wd) : 0 ≤ nu ∧ nu ≤ 1000010 ∧ ((nu ≤ 9999 ∧ v = nu) ∨ (9999 < nu ∧ v = 10000)) := by
  rcases h with h | h | ⟨r, _, _, h1, h2, _⟩ | h | ⟨h1, h2, h3⟩ | h | h
  · omega
  · exact h.2.2
  · rcases wdK_or r.reverse with q | q <;> omega
  · omega
  · omega
  · omega
  · omega
theorem tk_r {k : Nat} {v tk nu wd : Int} (h : tkR k v tk nu wd) : 0 ≤ tk ∧ tk ≤ 62 := by
  rcases h with h | h | ⟨r, _, _, h1, h2, _⟩ | h | ⟨h1, h2, h3⟩ | h | h
  · omega
  · omega
  · omega
  · omega
  · have hs := sgK_sg (c := tk) (by omega)
    omega
  · omega
  · omega
/-- a WORD's number tells which it is -/
theorem tk_wd {k : Nat} {v tk nu wd : Int} (h : tkR k v tk nu wd) {i : Nat} (hi : i < 18) : (tk = 2 ∧ wd = pkR (WR i)) ↔ k = i := by
  have hw := WR_ok i hi
  have hp := pkR_pos hw.1 hw.2.2
  constructor
  · rintro ⟨h2, h1⟩
    rcases h with h | h | ⟨r, r0, r1, _, r2, r3⟩ | h | ⟨h3, h4, h5⟩ | h | h
    · omega
    · omega
    · by_cases hl : r.length ≤ 7
      · rw [if_pos hl, h1] at r3
        have e := pkR_inj _ _ hw.1 r1 r3
        rw [r2, ← e]
        unfold WR
        rw [List.reverse_reverse]
        exact wdK_WL i hi
      · rw [if_neg hl] at r3; omega
    · omega
    · rw [h2] at h5; have : sgK 2 = 42 := by decide
      omega
    · omega
    · omega
  · intro e
    rcases h with h | h | ⟨r, r0, r1, h1, r2, r3⟩ | h | ⟨h3, h4, h5⟩ | h | h
    · omega
    · omega
    · refine ⟨h1, ?_⟩
      have e2 := wdK_at r.reverse (by omega)
      rw [← r2, e] at e2
      have e3 : WR i = r := by unfold WR; rw [e2, List.reverse_reverse]
      rw [← e3, if_pos hw.2.1] at r3
      exact r3
    · omega
    · omega
    · omega
    · omega
theorem tk_rw {k : Nat} {v tk nu wd : Int} (h : tkR k v tk nu wd) (h2 : tk = 2) : 0 ≤ wd ∧ wd < 72057594037927936 := by
  rcases h with h | h | ⟨r, r0, r1, h1, r2, r3⟩ | h | ⟨h3, h4, h5⟩ | h | h
  · omega
  · omega
  · split at r3
    · rw [r3]; exact pkR_7 r1 (by assumption)
    · omega
  · omega
  · rw [h2] at h5; have : sgK 2 = 42 := by decide
    omega
  · omega
  · omega
theorem w_step {a c : Int} (ha : 0 ≤ a) (hl : a < 281474976710656) (h0 : 0 ≤ c) (h1 : c ≤ 255) : blor (blshl a 8) c = a * 256 + c := by
  have e1 : a = (a.toNat : Int) := by omega
  have e2 : c = (c.toNat : Int) := by omega
  rw [e1, e2, blshl_8 (by omega), blor_8 (by omega) (by omega)]
  omega

theorem m_w3 {E : ET} (a b c : Int) (ha : 0 ≤ a ∧ a ≤ 255) (hb : 0 ≤ b ∧ b ≤ 255) (hc : 0 ≤ c ∧ c ≤ 255) (S : ST) (M : MT) : Ct E yX12_w3 cX12_w3 3 (some .long) rm_X12_w3 [.int (z a), .int (z b), .int (z c)] S M (Pl (pkR [c, b, a]) S M) := by
  refine Ct.mk [.int (z a), .int (z b), .int (z c)] (by decide) rfl (Nat.le_of_ble_eq_true rfl) (fun X K => ?_)
  have e : pkR [c, b, a] = (a * 256 + b) * 256 + c := by show ((0 * 256 + a) * 256 + b) * 256 + c = _; omega
  rw [e] at K
  refine wp_iload_n (n := 1) K dX12_w3_0 rfl rfl ?_
  refine wp_i2l (n := 2) K dX12_w3_1 rfl ⟨by omega, by omega⟩ ?_
  refine wp_bipush (n := 4) K dX12_w3_2 rfl rfl ?_
  refine wp_lshl (n := 5) K dX12_w3_4 rfl ?_
  refine wp_iload_n (n := 6) K dX12_w3_5 rfl rfl ?_
  refine wp_i2l (n := 7) K dX12_w3_6 rfl ⟨by omega, by omega⟩ ?_
  refine wp_lor (n := 8) K dX12_w3_7 rfl ?_
  rw [w_step ha.1 (by omega) hb.1 hb.2]
  refine wp_bipush (n := 10) K dX12_w3_8 rfl rfl ?_
  refine wp_lshl (n := 11) K dX12_w3_10 rfl ?_
  refine wp_iload_n (n := 12) K dX12_w3_11 rfl rfl ?_
  refine wp_i2l (n := 13) K dX12_w3_12 rfl ⟨by omega, by omega⟩ ?_
  refine wp_lor (n := 14) K dX12_w3_13 rfl ?_
  rw [w_step (by omega) (by omega) hc.1 hc.2]
  refine ret_l K dX12_w3_14 ?_ rfl ?_ ⟨Nat.le_refl _, Nat.le_refl _⟩
  all_goals rfl


theorem m_w4 {E : ET} (a b c d : Int) (ha : 0 ≤ a ∧ a ≤ 255) (hb : 0 ≤ b ∧ b ≤ 255) (hc : 0 ≤ c ∧ c ≤ 255) (hd : 0 ≤ d ∧ d ≤ 255) (S : ST) (M : MT) : Ct E yX12_w4 cX12_w4 4 (some .long) rm_X12_w4 [.int (z a), .int (z b), .int (z c), .int (z d)] S M (Pl (pkR [d, c, b, a]) S M) := by
  refine Ct.mk [.int (z a), .int (z b), .int (z c), .int (z d)] (by decide) rfl (Nat.le_of_ble_eq_true rfl) (fun X K => ?_)
  have e : pkR [d, c, b, a] = ((a * 256 + b) * 256 + c) * 256 + d := by show (((0 * 256 + a) * 256 + b) * 256 + c) * 256 + d = _; omega
  have e3 : pkR [c, b, a] = (a * 256 + b) * 256 + c := by show ((0 * 256 + a) * 256 + b) * 256 + c = _; omega
  rw [e] at K
  refine wp_iload_n (n := 1) K dX12_w4_0 rfl rfl ?_
  refine wp_iload_n (n := 2) K dX12_w4_1 rfl rfl ?_
  refine wp_iload_n (n := 3) K dX12_w4_2 rfl rfl ?_
  refine wp_invS_l (n := 6) K dX12_w4_3 rfl cf_X12_121 (m_w3 _ _ _ ha hb hc _ _) rfl rfl (by decide) ⟨Nat.le_refl _, Nat.le_refl _⟩ (Nat.le_of_ble_eq_true rfl) ?_
  rw [e3]
  refine wp_bipush (n := 8) K dX12_w4_6 rfl rfl ?_
  refine wp_lshl (n := 9) K dX12_w4_8 rfl ?_
  refine wp_iload_n (n := 10) K dX12_w4_9 rfl rfl ?_
  refine wp_i2l (n := 11) K dX12_w4_10 rfl ⟨by omega, by omega⟩ ?_
  refine wp_lor (n := 12) K dX12_w4_11 rfl ?_
  rw [w_step (by omega) (by omega) hd.1 hd.2]
  refine ret_l K dX12_w4_12 ?_ rfl ?_ ⟨Nat.le_refl _, Nat.le_refl _⟩
  all_goals rfl


theorem m_w5 {E : ET} (a b c d f : Int) (ha : 0 ≤ a ∧ a ≤ 255) (hb : 0 ≤ b ∧ b ≤ 255) (hc : 0 ≤ c ∧ c ≤ 255) (hd : 0 ≤ d ∧ d ≤ 255) (hf : 0 ≤ f ∧ f ≤ 255) (S : ST) (M : MT) : Ct E yX12_w5 cX12_w5 5 (some .long) rm_X12_w5 [.int (z a), .int (z b), .int (z c), .int (z d), .int (z f)] S M (Pl (pkR [f, d, c, b, a]) S M) := by
  refine Ct.mk [.int (z a), .int (z b), .int (z c), .int (z d), .int (z f)] (by decide) rfl (Nat.le_of_ble_eq_true rfl) (fun X K => ?_)
  have e : pkR [f, d, c, b, a] = (((a * 256 + b) * 256 + c) * 256 + d) * 256 + f := by show ((((0 * 256 + a) * 256 + b) * 256 + c) * 256 + d) * 256 + f = _; omega
  have e3 : pkR [c, b, a] = (a * 256 + b) * 256 + c := by show ((0 * 256 + a) * 256 + b) * 256 + c = _; omega
  rw [e] at K
  refine wp_iload_n (n := 1) K dX12_w5_0 rfl rfl ?_
  refine wp_iload_n (n := 2) K dX12_w5_1 rfl rfl ?_
  refine wp_iload_n (n := 3) K dX12_w5_2 rfl rfl ?_
  refine wp_invS_l (n := 6) K dX12_w5_3 rfl cf_X12_121 (m_w3 _ _ _ ha hb hc _ _) rfl rfl (by decide) ⟨Nat.le_refl _, Nat.le_refl _⟩ (Nat.le_of_ble_eq_true rfl) ?_
  rw [e3]
  refine wp_bipush (n := 8) K dX12_w5_6 rfl rfl ?_
  refine wp_lshl (n := 9) K dX12_w5_8 rfl ?_
  refine wp_iload_n (n := 10) K dX12_w5_9 rfl rfl ?_
  refine wp_i2l (n := 11) K dX12_w5_10 rfl ⟨by omega, by omega⟩ ?_
  refine wp_lor (n := 12) K dX12_w5_11 rfl ?_
  rw [w_step (by omega) (by omega) hd.1 hd.2]
  refine wp_bipush (n := 14) K dX12_w5_12 rfl rfl ?_
  refine wp_lshl (n := 15) K dX12_w5_14 rfl ?_
  refine wp_iload (n := 17) K dX12_w5_15 rfl rfl ?_
  refine wp_i2l (n := 18) K dX12_w5_17 rfl ⟨by omega, by omega⟩ ?_
  refine wp_lor (n := 19) K dX12_w5_18 rfl ?_
  rw [w_step (by omega) (by omega) hf.1 hf.2]
  refine ret_l K dX12_w5_19 ?_ rfl ?_ ⟨Nat.le_refl _, Nat.le_refl _⟩
  all_goals rfl


theorem m_w6 {E : ET} (a b c d f g : Int) (ha : 0 ≤ a ∧ a ≤ 255) (hb : 0 ≤ b ∧ b ≤ 255) (hc : 0 ≤ c ∧ c ≤ 255) (hd : 0 ≤ d ∧ d ≤ 255) (hf : 0 ≤ f ∧ f ≤ 255) (hg : 0 ≤ g ∧ g ≤ 255) (S : ST) (M : MT) : Ct E yX12_w6 cX12_w6 6 (some .long) rm_X12_w6 [.int (z a), .int (z b), .int (z c), .int (z d), .int (z f), .int (z g)] S M (Pl (pkR [g, f, d, c, b, a]) S M) := by
  refine Ct.mk [.int (z a), .int (z b), .int (z c), .int (z d), .int (z f), .int (z g)] (by decide) rfl (Nat.le_of_ble_eq_true rfl) (fun X K => ?_)
  have e : pkR [g, f, d, c, b, a] = ((((a * 256 + b) * 256 + c) * 256 + d) * 256 + f) * 256 + g := by show (((((0 * 256 + a) * 256 + b) * 256 + c) * 256 + d) * 256 + f) * 256 + g = _; omega
  have e3 : pkR [f, d, c, b, a] = (((a * 256 + b) * 256 + c) * 256 + d) * 256 + f := by show ((((0 * 256 + a) * 256 + b) * 256 + c) * 256 + d) * 256 + f = _; omega
  rw [e] at K
  refine wp_iload_n (n := 1) K dX12_w6_0 rfl rfl ?_
  refine wp_iload_n (n := 2) K dX12_w6_1 rfl rfl ?_
  refine wp_iload_n (n := 3) K dX12_w6_2 rfl rfl ?_
  refine wp_iload_n (n := 4) K dX12_w6_3 rfl rfl ?_
  refine wp_iload (n := 6) K dX12_w6_4 rfl rfl ?_
  refine wp_invS_l (n := 9) K dX12_w6_6 rfl cf_X12_125 (m_w5 _ _ _ _ _ ha hb hc hd hf _ _) rfl rfl (by decide) ⟨Nat.le_refl _, Nat.le_refl _⟩ (Nat.le_of_ble_eq_true rfl) ?_
  rw [e3]
  refine wp_bipush (n := 11) K dX12_w6_9 rfl rfl ?_
  refine wp_lshl (n := 12) K dX12_w6_11 rfl ?_
  refine wp_iload (n := 14) K dX12_w6_12 rfl rfl ?_
  refine wp_i2l (n := 15) K dX12_w6_14 rfl ⟨by omega, by omega⟩ ?_
  refine wp_lor (n := 16) K dX12_w6_15 rfl ?_
  rw [w_step (by omega) (by omega) hg.1 hg.2]
  refine ret_l K dX12_w6_16 ?_ rfl ?_ ⟨Nat.le_refl _, Nat.le_refl _⟩
  all_goals rfl

/-- the TOKEN that the reference stands at -/
def TK (M : MT) (k : Nat) (v : Int) : Prop := tkR k v (M 77 9) (M 77 10) (M 77 11)
theorem TK.r {M : MT} {k : Nat} {v : Int} (h : TK M k v) : 0 ≤ M 77 9 ∧ M 77 9 ≤ 62 := tk_r h
theorem TK.is {M : MT} {k : Nat} {v : Int} (h : TK M k v) {c : Int} {j : Nat} (hx : (c, j) ∈ TT) : M 77 9 = c ↔ k = j := tk_is h hx

theorem m_isWord (i k : Nat) (v : Int) (hi : i < 18) (S : ST) (M : MT) (h : TK M k v) : Ct E1 yX12_isWord cX12_isWord 3 (some .boolean) rm_X12_isWord [.ref 77, .long (zl (pkR (WR i)))] S M (Pi (bI (decide (k = i))) S M) := by
  refine Ct.mk [.ref 77, .long (zl (pkR (WR i))), mkV] (by decide) rfl (Nat.le_of_ble_eq_true rfl) (fun X K => ?_)
  have hr := h.r
  have hw := tk_wd h hi
  have hp := pkR_7 (WR_ok i hi).1 (WR_ok i hi).2.1
  refine wp_aload_n (n := 1) K dX12_isWord_0 rfl rfl ?_
  refine wp_getI (n := 4) K dX12_isWord_1 rfl fl_X12_104 rfl (liS rfl) rfl ?_
  try simp only [up_same, up_up, up_ne, ne_eq, Nat.reduceEqDiff, not_false_eq_true, Int.reduceToNat, Int.toNat_natCast]
  refine wp_iconst (n := 5) K dX12_isWord_4 rfl ?_
  refine wp_icmp_ne (n := 8) K dX12_isWord_5 rfl (tgt := 21) (by decide) ⟨by omega, by omega⟩ ⟨by omega, by omega⟩ (fun c5 => ?_) (fun c5 => ?_)
  · rw [decide_eq_false (fun e => c5 (hw.mpr e).1)] at K
    refine wp_iconst (n := 22) K dX12_isWord_21 rfl ?_
    refine ret_z K dX12_isWord_22 ?_ rfl ?_ ⟨Nat.le_refl _, Nat.le_refl _⟩
    all_goals rfl
  · have hq := tk_rw h c5
    refine wp_aload_n (n := 9) K dX12_isWord_8 rfl rfl ?_
    refine wp_getL (n := 12) K dX12_isWord_9 rfl fl_X12_117 rfl (liS rfl) rfl ?_
    try simp only [up_same, up_up, up_ne, ne_eq, Nat.reduceEqDiff, not_false_eq_true, Int.reduceToNat, Int.toNat_natCast]
    refine wp_lload_n (n := 13) K dX12_isWord_12 rfl rfl ?_
    refine wp_lcmp (n := 14) K dX12_isWord_13 rfl ?_
    refine wp_if_ne (n := 17) K dX12_isWord_14 rfl (tgt := 21) (by decide) (lcmp_r _ _) (fun c14 => ?_) (fun c14 => ?_)
    · rw [decide_eq_false (fun e => c14 (lcmp_eq.mpr (by rw [(hw.mpr e).2])))] at K
      refine wp_iconst (n := 22) K dX12_isWord_21 rfl ?_
      refine ret_z K dX12_isWord_22 ?_ rfl ?_ ⟨Nat.le_refl _, Nat.le_refl _⟩
      all_goals rfl
    · have := lcmp_eq.mp c14
      rw [w64_id (by omega) (by omega), w64_id (by omega) (by omega)] at this
      rw [decide_eq_true (hw.mp ⟨c5, this⟩)] at K
      refine wp_iconst (n := 18) K dX12_isWord_17 rfl ?_
      refine wp_goto K dX12_isWord_18 (tgt := 22) (by decide) ?_
      refine ret_z K dX12_isWord_22 ?_ rfl ?_ ⟨Nat.le_refl _, Nat.le_refl _⟩
      all_goals rfl
