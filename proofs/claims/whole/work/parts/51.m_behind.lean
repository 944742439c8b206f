theorem stl_h : ∀ (least : Int) (pl : List Int) (c : List (Int × Int)), (least = 3 ∨ least = 5) → okP pl → pl.head? ≠ some 2 → (stl least pl c).1.head? ≠ some 2 := by
  intro least pl
  induction pl with
  | nil => intro c _ _ h; exact h
  | cons x xs ih =>
    intro c hl h hd
    by_cases e : x < 40 ∧ least ≤ x
    · have e1 : stl least (x :: xs) c = stl least xs ((x, 0) :: c) := if_pos e
      rw [e1]
      refine ih _ hl h.1 (fun q => ?_)
      rcases h.2 with r | r | ⟨_, r⟩ | ⟨_, r⟩
      · omega
      · omega
      · rcases r with r | r
        · rw [r] at q; cases q
        · rw [r] at q; exact absurd (Option.some.inj q) (by decide)
      · rcases r with r | r | r | r
        · rw [r] at q; cases q
        · rw [r] at q; exact absurd (Option.some.inj q) (by decide)
        · rw [r] at q; exact absurd (Option.some.inj q) (by decide)
        · rw [r] at q; exact absurd (Option.some.inj q) (by decide)
    · have e1 : stl least (x :: xs) c = (x :: xs, c) := if_neg e
      rw [e1]; exact hd
def behP (k : Nat) (pl : List Int) (c : List (Int × Int)) : List Int × List (Int × Int) := if k = 24 then (3 :: (stl 3 pl c).1, (stl 3 pl c).2) else if k = 25 then (4 :: (stl 3 pl c).1, (stl 3 pl c).2) else if k = 26 then (5 :: (stl 5 pl c).1, (stl 5 pl c).2) else if k = 27 then (6 :: (stl 5 pl c).1, (stl 5 pl c).2) else whl (stl 3 pl c).1.tail (stl 3 pl c).2
def behW (k : Nat) : Int := if k = 29 then 1 else 0
theorem opn_mem : ∀ {pl : List Int}, 40 ∈ pl → 1 ≤ opn pl := by
  intro pl
  induction pl with
  | nil => intro h; cases h
  | cons x xs ih =>
    intro h
    show 1 ≤ opn xs + if x = 40 ∨ x = 2 then 1 else 0
    rcases List.mem_cons.mp h with q | q
    · rw [if_pos (Or.inl q.symm)]; omega
    · have := ih q; omega
/-- ahead of ')': a bracket is on top -/
theorem stl_40 {pl : List Int} {c : List (Int × Int)} (h : okP pl) (hd : pl.head? ≠ some 2) (hm : 40 ∈ pl) : ∃ xs, (stl 3 pl c).1 = 40 :: xs := by
  obtain ⟨h1, h2, h3, h4⟩ := stl_r 3 pl c (Or.inl rfl) h
  have h5 := stl_h 3 pl c (Or.inl rfl) h hd
  have h6 := opn_mem hm
  generalize (stl 3 pl c).1 = l at *
  cases l with
  | nil => exact absurd h2 (by show 0 ≠ opn pl; omega)
  | cons x xs =>
    rcases h4 with q | q | q | ⟨q, _⟩
    · cases q
    · exact ⟨xs, by rw [Option.some.inj q]⟩
    · exact absurd q h5
    · omega
theorem behP_r {k : Nat} {pl : List Int} {c : List (Int × Int)} (h : okP pl) (hd : pl.head? ≠ some 2) (hg : goF k pl = true) : okP (behP k pl c).1 ∧ opn (behP k pl c).1 ≤ opn pl ∧ (behP k pl c).1.length + (behP k pl c).2.length ≤ pl.length + c.length + 1 ∧ (behW k = 1 → (behP k pl c).1.head? ≠ some 2) := by
  obtain ⟨h1, h2, h3, h4⟩ := stl_r 3 pl c (Or.inl rfl) h
  have h5 := stl_h 3 pl c (Or.inl rfl) h hd
  obtain ⟨g1, g2, g3, g4⟩ := stl_r 5 pl c (Or.inr rfl) h
  have g5 := stl_h 5 pl c (Or.inr rfl) h hd
  have a3 : (stl 3 pl c).1 = [] ∨ (stl 3 pl c).1.head? = some 40 := by
    rcases h4 with q | q | q | ⟨q, _⟩
    · exact Or.inl q
    · exact Or.inr q
    · exact absurd q h5
    · omega
  have a5 : (stl 5 pl c).1 = [] ∨ (stl 5 pl c).1.head? = some 40 ∨ (stl 5 pl c).1.head? = some 3 ∨ (stl 5 pl c).1.head? = some 4 := by
    rcases g4 with q | q | q | ⟨_, q⟩
    · exact Or.inl q
    · exact Or.inr (Or.inl q)
    · exact absurd q g5
    · exact Or.inr (Or.inr q)
  have hw : k ≠ 29 → behW k = 1 → False := fun q r => by unfold behW at r; rw [if_neg q] at r; cases r
  unfold behP
  by_cases k1 : k = 24
  · rw [if_pos k1]
    refine ⟨⟨h1, Or.inr (Or.inr (Or.inl ⟨Or.inl rfl, a3⟩))⟩, ?_, ?_, fun q => absurd q (fun r => hw (by omega) r)⟩
    · show opn (stl 3 pl c).1 + _ ≤ _; rw [if_neg (by decide)]; omega
    · show (stl 3 pl c).1.length + 1 + (stl 3 pl c).2.length ≤ _; omega
  rw [if_neg k1]
  by_cases k2 : k = 25
  · rw [if_pos k2]
    refine ⟨⟨h1, Or.inr (Or.inr (Or.inl ⟨Or.inr rfl, a3⟩))⟩, ?_, ?_, fun q => absurd q (fun r => hw (by omega) r)⟩
    · show opn (stl 3 pl c).1 + _ ≤ _; rw [if_neg (by decide)]; omega
    · show (stl 3 pl c).1.length + 1 + (stl 3 pl c).2.length ≤ _; omega
  rw [if_neg k2]
  by_cases k3 : k = 26
  · rw [if_pos k3]
    refine ⟨⟨g1, Or.inr (Or.inr (Or.inr ⟨Or.inl rfl, a5⟩))⟩, ?_, ?_, fun q => absurd q (fun r => hw (by omega) r)⟩
    · show opn (stl 5 pl c).1 + _ ≤ _; rw [if_neg (by decide)]; omega
    · show (stl 5 pl c).1.length + 1 + (stl 5 pl c).2.length ≤ _; omega
  rw [if_neg k3]
  by_cases k4 : k = 27
  · rw [if_pos k4]
    refine ⟨⟨g1, Or.inr (Or.inr (Or.inr ⟨Or.inr rfl, a5⟩))⟩, ?_, ?_, fun q => absurd q (fun r => hw (by omega) r)⟩
    · show opn (stl 5 pl c).1 + _ ≤ _; rw [if_neg (by decide)]; omega
    · show (stl 5 pl c).1.length + 1 + (stl 5 pl c).2.length ≤ _; omega
  rw [if_neg k4]
  have hm : 40 ∈ pl := by
    unfold goF at hg
    rw [decide_eq_false (by omega), Bool.false_or] at hg
    exact of_decide_eq_true (Bool.and_eq_true_iff.mp hg).2
  obtain ⟨xs, ex⟩ := stl_40 (c := c) h hd hm
  have ok2 : okP xs := by rw [ex] at h1; exact h1.1
  obtain ⟨w1, w2, w3, w4⟩ := whl_r xs (stl 3 pl c).2 ok2
  rw [ex] at h2 h3 ⊢
  have eo : opn (40 :: xs) = opn xs + 1 := rfl
  have el : (40 :: xs).length = xs.length + 1 := rfl
  refine ⟨w1, ?_, ?_, fun _ => w4⟩
  · show opn (whl xs (stl 3 pl c).2).1 ≤ _; omega
  · show (whl xs (stl 3 pl c).2).1.length + (whl xs (stl 3 pl c).2).2.length ≤ _; omega

set_option maxHeartbeats 2000000 in
theorem m_behindOne {b : Nat → Int} {n t0 so o t : Nat} {pl : List Int} {c : List (Int × Int)} (hok : okTp b n) (ht0 : t0 ≤ 2040) (hpl : okP pl) (hd2 : pl.head? ≠ some 2) (hop : o + opn pl ≤ 8) (hln : pl.length + c.length ≤ 300) (hg : goF (KT b n t) pl = true) (S : ST) (M : MT) (hRS : RS b n t0 so o M t pl c) : Ct E1 yX12_behindOne cX12_behindOne 2 (some .int) rm_X12_behindOne [.ref 77] S M (Qi 0 [77, 80, 82] S M (fun M1 => FRN t0 M M1 ∧ RS b n t0 so o M1 (t + 1) (behP (KT b n t) pl c).1 (behP (KT b n t) pl c).2 ∧ M1 77 19 = behW (KT b n t))) := by
  refine Ct.mk [.ref 77, mkV] (by decide) rfl (Nat.le_of_ble_eq_true rfl) (fun X K => ?_)
  have hT := hRS.1.2.2.2.2
  have h18 := hRS.2.2.1
  have hlp := hpl.ln.1
  have hr := hT.r
  have hi := hpl.i
  obtain ⟨q1, q2, q3, q4⟩ := stl_r 3 pl c (Or.inl rfl) hpl
  obtain ⟨g1, g2, g3, g4⟩ := stl_r 5 pl c (Or.inr rfl) hpl
  have q5 := q1.ln.1
  have g5 := g1.ln.1
  have in1 : ∀ a, a ∉ [77, 80, 82] → a ∉ [77, 80] ∧ a ∉ [77] ∧ a ∉ [77, 82] := fun a ha => ⟨fun q => ha (by simp only [List.mem_cons, List.mem_nil_iff, or_false] at q ⊢; omega), fun q => ha (by simp only [List.mem_cons, List.mem_nil_iff, or_false] at q ⊢; omega), fun q => ha (by simp only [List.mem_cons, List.mem_nil_iff, or_false] at q ⊢; omega)⟩
  have fin : ∀ (l1 : Value) (M9 : MT), FRN t0 M M9 → RS b n t0 so o M9 t (behP (KT b n t) pl c).1 (behP (KT b n t) pl c).2 → M9 77 19 = behW (KT b n t) → (∀ a, a ∉ [77, 80, 82] → M9 a = M a) → Wp E1 X 115 [.ref 77, l1] [] S M9 := by
    intro l1 M9 f9 R9 h19 ha9
    refine wp_aload_n (n := 116) K dX12_behindOne_115 rfl rfl ?_
    refine wp_invV_qn (n := 119) K dX12_behindOne_116 rfl cf_X12_160 (m_next hok _ _ R9.1) rfl rfl rfl (liS rfl) rfl (by decide) ⟨Nat.le_refl _, Nat.le_refl _⟩ (Nat.le_of_ble_eq_true rfl) (fun M116 hM116 gM116 => ?_)
    try simp only [up_same, up_up, up_ne, ne_eq, Nat.reduceEqDiff, not_false_eq_true, Int.reduceToNat, Int.toNat_natCast]
    obtain ⟨R2, o2⟩ := R9.nx hM116 gM116
    refine wp_iconst (n := 120) K dX12_behindOne_119 rfl ?_
    refine ret_qi K dX12_behindOne_120 ?_ rfl ?_ ?_ ⟨Nat.le_refl _, Nat.le_refl _⟩
    · rfl
    · intro a ha; rw [hM116 a (in1 a ha).2.1]; exact ha9 a ha
    · exact ⟨f9.trans (o2.n hM116), R2, by rw [o2 19 (by decide) (by decide) (by decide) (by decide) (by decide)]; exact h19⟩
  generalize hk0 : KT b n t = k at *
  generalize VT b n t = v at *
  refine wp_aload_n (n := 1) K dX12_behindOne_0 rfl rfl ?_
  refine wp_getI (n := 4) K dX12_behindOne_1 rfl fl_X12_104 rfl (liS rfl) rfl ?_
  try simp only [up_same, up_up, up_ne, ne_eq, Nat.reduceEqDiff, not_false_eq_true, Int.reduceToNat, Int.toNat_natCast]
  refine wp_istore_n (n := 5) K dX12_behindOne_4 rfl (by decide) ?_
  have l1 : (M 77 9 = 43 ∨ M 77 9 = 45) → Wp E1 X 17 [.ref 77, .int (z (M 77 9))] [] S M := by
    intro hs
    refine wp_aload_n (n := 18) K dX12_behindOne_17 rfl rfl ?_
    refine wp_iconst (n := 19) K dX12_behindOne_18 rfl ?_
    refine wp_invV_qn (n := 22) K dX12_behindOne_19 rfl cf_X12_179 (m_settle t0 3 ⟨by decide, by decide⟩ pl c ht0 (by omega) (by omega) hi _ _ hRS.2.1) rfl rfl rfl (liS rfl) rfl (by decide) ⟨Nat.le_refl _, Nat.le_refl _⟩ (Nat.le_of_ble_eq_true rfl) (fun M19 hM19 gM19 => ?_)
    try simp only [up_same, up_up, up_ne, ne_eq, Nat.reduceEqDiff, not_false_eq_true, Int.reduceToNat, Int.toNat_natCast]
    obtain ⟨s1, s2, s3, s4⟩ := gM19
    have R1 := hRS.ps s4 s1 (by rw [s2, h18, q2]) (hM19 _ (by decide))
    have l2 : ∀ w : Int, behP k pl c = (w :: (stl 3 pl c).1, (stl 3 pl c).2) → behW k = 0 → (w = 3 ∨ w = 4) → Wp E1 X 34 [.ref 77, .int (z (M 77 9))] [.int (z w), .ref 77] S M19 := by
      intro w hw hw0 hw1
      obtain ⟨p1, p2, p3, p4⟩ := R1.2.1.pu w
      have R2 := R1.ps p2 p1 (by rw [p4 18 (by decide), R1.2.2.1]; show _ = ((o + (opn (stl 3 pl c).1 + if w = 40 ∨ w = 2 then 1 else 0) : Nat) : Int); rw [if_neg (by omega)]; rfl) (p3 _ (by decide))
      refine wp_invV_n (n := 37) K dX12_behindOne_34 rfl cf_X12_172 (m_push (stl 3 pl c).1.length w (by omega) _ _ R1.2.1.2.2.2.1) rfl rfl rfl (liS rfl) rfl (by decide) ⟨Nat.le_refl _, Nat.le_refl _⟩ (Nat.le_of_ble_eq_true rfl) ?_
      try simp only [up_same, up_up, up_ne, ne_eq, Nat.reduceEqDiff, not_false_eq_true, Int.reduceToNat, Int.toNat_natCast]
      refine wp_aload_n (n := 38) K dX12_behindOne_37 rfl rfl ?_
      refine wp_iconst (n := 39) K dX12_behindOne_38 rfl ?_
      refine wp_putZ (n := 42) K dX12_behindOne_39 rfl fl_X12_138 rfl (liS rfl) (Or.inl rfl) rfl rfl (by first | exact Or.inl rfl | exact Or.inr rfl) ?_
      try simp only [up_same, up_up, up_ne, ne_eq, Nat.reduceEqDiff, not_false_eq_true, Int.reduceToNat, Int.toNat_natCast]
      refine wp_goto K dX12_behindOne_42 (tgt := 115) (by decide) ?_
      have f3 : FR t0 (puM M19 (stl 3 pl c).1.length w) (up (puM M19 (stl 3 pl c).1.length w) 77 (up (puM M19 (stl 3 pl c).1.length w 77) 19 0)) := ⟨fun j _ _ _ q => by rw [up_same, up_ne _ _ q], fun j _ => rfl⟩
      have R3 := R2.ps f3 (R2.2.1.of rfl rfl rfl rfl rfl) R2.2.2.1 rfl
      refine fin _ _ ((s4.n.trans p2.n).trans f3.n) (by rw [hw]; exact R3) (by rw [hw0]; rfl) (fun a ha => ?_)
      rw [up_ne _ _ (fun q => (in1 a ha).2.1 (by rw [q]; decide)), p3 a (in1 a ha).2.2, hM19 a (in1 a ha).1]
    refine wp_aload_n (n := 23) K dX12_behindOne_22 rfl rfl ?_
    refine wp_iload_n (n := 24) K dX12_behindOne_23 rfl rfl ?_
    refine wp_bipush (n := 26) K dX12_behindOne_24 rfl rfl ?_
    refine wp_icmp_ne (n := 29) K dX12_behindOne_26 rfl (tgt := 33) (by decide) ⟨by omega, by omega⟩ ⟨by omega, by omega⟩ (fun c26 => ?_) (fun c26 => ?_)
    · have e : k = 25 := (hT.is (c := 45) (j := 25) (by decide)).mp (by omega)
      refine wp_iconst (n := 34) K dX12_behindOne_33 rfl ?_
      exact l2 4 (by unfold behP; rw [if_neg (by omega), if_pos e]) (by unfold behW; rw [if_neg (by omega)]) (Or.inr rfl)
    · have e : k = 24 := (hT.is (j := 24) (by decide)).mp c26
      refine wp_iconst (n := 30) K dX12_behindOne_29 rfl ?_
      refine wp_goto K dX12_behindOne_30 (tgt := 34) (by decide) ?_
      exact l2 3 (by unfold behP; rw [if_pos e]) (by unfold behW; rw [if_neg (by omega)]) (Or.inl rfl)
  refine wp_iload_n (n := 6) K dX12_behindOne_5 rfl rfl ?_
  refine wp_bipush (n := 8) K dX12_behindOne_6 rfl rfl ?_
  refine wp_icmp_eq (n := 11) K dX12_behindOne_8 rfl (tgt := 17) (by decide) ⟨by omega, by omega⟩ ⟨by omega, by omega⟩ (fun c8 => ?_) (fun c8 => ?_)
  · exact l1 (Or.inl c8)
  refine wp_iload_n (n := 12) K dX12_behindOne_11 rfl rfl ?_
  refine wp_bipush (n := 14) K dX12_behindOne_12 rfl rfl ?_
  refine wp_icmp_ne (n := 17) K dX12_behindOne_14 rfl (tgt := 45) (by decide) ⟨by omega, by omega⟩ ⟨by omega, by omega⟩ (fun c14 => ?_) (fun c14 => ?_)
  rotate_left
  · exact l1 (Or.inr c14)
  have n24 : k ≠ 24 := fun q => c8 ((hT.is (c := 43) (by decide)).mpr q)
  have n25 : k ≠ 25 := fun q => c14 ((hT.is (c := 45) (by decide)).mpr q)
  have l3 : (M 77 9 = 42 ∨ M 77 9 = 47) → Wp E1 X 57 [.ref 77, .int (z (M 77 9))] [] S M := by
    intro hs
    refine wp_aload_n (n := 58) K dX12_behindOne_57 rfl rfl ?_
    refine wp_iconst (n := 59) K dX12_behindOne_58 rfl ?_
    refine wp_invV_qn (n := 62) K dX12_behindOne_59 rfl cf_X12_179 (m_settle t0 5 ⟨by decide, by decide⟩ pl c ht0 (by omega) (by omega) hi _ _ hRS.2.1) rfl rfl rfl (liS rfl) rfl (by decide) ⟨Nat.le_refl _, Nat.le_refl _⟩ (Nat.le_of_ble_eq_true rfl) (fun M59 hM59 gM59 => ?_)
    try simp only [up_same, up_up, up_ne, ne_eq, Nat.reduceEqDiff, not_false_eq_true, Int.reduceToNat, Int.toNat_natCast]
    obtain ⟨s1, s2, s3, s4⟩ := gM59
    have R1 := hRS.ps s4 s1 (by rw [s2, h18, g2]) (hM59 _ (by decide))
    have l2 : ∀ w : Int, behP k pl c = (w :: (stl 5 pl c).1, (stl 5 pl c).2) → behW k = 0 → (w = 5 ∨ w = 6) → Wp E1 X 75 [.ref 77, .int (z (M 77 9))] [.int (z w), .ref 77] S M59 := by
      intro w hw hw0 hw1
      obtain ⟨p1, p2, p3, p4⟩ := R1.2.1.pu w
      have R2 := R1.ps p2 p1 (by rw [p4 18 (by decide), R1.2.2.1]; show _ = ((o + (opn (stl 5 pl c).1 + if w = 40 ∨ w = 2 then 1 else 0) : Nat) : Int); rw [if_neg (by omega)]; rfl) (p3 _ (by decide))
      refine wp_invV_n (n := 78) K dX12_behindOne_75 rfl cf_X12_172 (m_push (stl 5 pl c).1.length w (by omega) _ _ R1.2.1.2.2.2.1) rfl rfl rfl (liS rfl) rfl (by decide) ⟨Nat.le_refl _, Nat.le_refl _⟩ (Nat.le_of_ble_eq_true rfl) ?_
      try simp only [up_same, up_up, up_ne, ne_eq, Nat.reduceEqDiff, not_false_eq_true, Int.reduceToNat, Int.toNat_natCast]
      refine wp_aload_n (n := 79) K dX12_behindOne_78 rfl rfl ?_
      refine wp_iconst (n := 80) K dX12_behindOne_79 rfl ?_
      refine wp_putZ (n := 83) K dX12_behindOne_80 rfl fl_X12_138 rfl (liS rfl) (Or.inl rfl) rfl rfl (by first | exact Or.inl rfl | exact Or.inr rfl) ?_
      try simp only [up_same, up_up, up_ne, ne_eq, Nat.reduceEqDiff, not_false_eq_true, Int.reduceToNat, Int.toNat_natCast]
      refine wp_goto K dX12_behindOne_83 (tgt := 115) (by decide) ?_
      have f3 : FR t0 (puM M59 (stl 5 pl c).1.length w) (up (puM M59 (stl 5 pl c).1.length w) 77 (up (puM M59 (stl 5 pl c).1.length w 77) 19 0)) := ⟨fun j _ _ _ q => by rw [up_same, up_ne _ _ q], fun j _ => rfl⟩
      have R3 := R2.ps f3 (R2.2.1.of rfl rfl rfl rfl rfl) R2.2.2.1 rfl
      refine fin _ _ ((s4.n.trans p2.n).trans f3.n) (by rw [hw]; exact R3) (by rw [hw0]; rfl) (fun a ha => ?_)
      rw [up_ne _ _ (fun q => (in1 a ha).2.1 (by rw [q]; decide)), p3 a (in1 a ha).2.2, hM59 a (in1 a ha).1]
    refine wp_aload_n (n := 63) K dX12_behindOne_62 rfl rfl ?_
    refine wp_iload_n (n := 64) K dX12_behindOne_63 rfl rfl ?_
    refine wp_bipush (n := 66) K dX12_behindOne_64 rfl rfl ?_
    refine wp_icmp_ne (n := 69) K dX12_behindOne_66 rfl (tgt := 73) (by decide) ⟨by omega, by omega⟩ ⟨by omega, by omega⟩ (fun c66 => ?_) (fun c66 => ?_)
    · have e : k = 27 := (hT.is (c := 47) (j := 27) (by decide)).mp (by omega)
      refine wp_bipush (n := 75) K dX12_behindOne_73 rfl rfl ?_
      exact l2 6 (by unfold behP; rw [if_neg (by omega), if_neg (by omega), if_neg (by omega), if_pos e]) (by unfold behW; rw [if_neg (by omega)]) (Or.inr rfl)
    · have e : k = 26 := (hT.is (j := 26) (by decide)).mp c66
      refine wp_iconst (n := 70) K dX12_behindOne_69 rfl ?_
      refine wp_goto K dX12_behindOne_70 (tgt := 75) (by decide) ?_
      exact l2 5 (by unfold behP; rw [if_neg (by omega), if_neg (by omega), if_pos e]) (by unfold behW; rw [if_neg (by omega)]) (Or.inl rfl)
  refine wp_iload_n (n := 46) K dX12_behindOne_45 rfl rfl ?_
  refine wp_bipush (n := 48) K dX12_behindOne_46 rfl rfl ?_
  refine wp_icmp_eq (n := 51) K dX12_behindOne_48 rfl (tgt := 57) (by decide) ⟨by omega, by omega⟩ ⟨by omega, by omega⟩ (fun c48 => ?_) (fun c48 => ?_)
  · exact l3 (Or.inl c48)
  refine wp_iload_n (n := 52) K dX12_behindOne_51 rfl rfl ?_
  refine wp_bipush (n := 54) K dX12_behindOne_52 rfl rfl ?_
  refine wp_icmp_ne (n := 57) K dX12_behindOne_54 rfl (tgt := 86) (by decide) ⟨by omega, by omega⟩ ⟨by omega, by omega⟩ (fun c54 => ?_) (fun c54 => ?_)
  rotate_left
  · exact l3 (Or.inr c54)
  have n26 : k ≠ 26 := fun q => c48 ((hT.is (c := 42) (by decide)).mpr q)
  have n27 : k ≠ 27 := fun q => c54 ((hT.is (c := 47) (by decide)).mpr q)
  have hg2 := hg
  unfold goF at hg2
  rw [decide_eq_false (by omega), Bool.false_or] at hg2
  have hm : 40 ∈ pl := of_decide_eq_true (Bool.and_eq_true_iff.mp hg2).2
  have e29 : k = 29 := of_decide_eq_true (Bool.and_eq_true_iff.mp hg2).1
  obtain ⟨xs, ex⟩ := stl_40 (c := c) hpl hd2 hm
  refine wp_aload_n (n := 87) K dX12_behindOne_86 rfl rfl ?_
  refine wp_iconst (n := 88) K dX12_behindOne_87 rfl ?_
  refine wp_invV_qn (n := 91) K dX12_behindOne_88 rfl cf_X12_179 (m_settle t0 3 ⟨by decide, by decide⟩ pl c ht0 (by omega) (by omega) hi _ _ hRS.2.1) rfl rfl rfl (liS rfl) rfl (by decide) ⟨Nat.le_refl _, Nat.le_refl _⟩ (Nat.le_of_ble_eq_true rfl) (fun M88 hM88 gM88 => ?_)
  try simp only [up_same, up_up, up_ne, ne_eq, Nat.reduceEqDiff, not_false_eq_true, Int.reduceToNat, Int.toNat_natCast]
  obtain ⟨s1, s2, s3, s4⟩ := gM88
  have R1 := hRS.ps s4 s1 (by rw [s2, h18, q2]) (hM88 _ (by decide))
  have eb : behP k pl c = whl xs (stl 3 pl c).2 := by unfold behP; rw [if_neg n24, if_neg n25, if_neg n26, if_neg n27, ex]; rfl
  rw [eb] at fin
  rw [ex] at R1 q1 q2 q3 q5
  have eo : opn (40 :: xs) = opn xs + 1 := rfl
  have el : (40 :: xs).length = xs.length + 1 := rfl
  have h17 : M88 77 17 = ((xs.length + 1 : Nat) : Int) := R1.2.1.2.2.2.1
  have h18b := R1.2.2.1
  refine wp_aload_n (n := 92) K dX12_behindOne_91 rfl rfl ?_
  refine wp_dup (n := 93) K dX12_behindOne_92 rfl rfl ?_
  refine wp_getI (n := 96) K dX12_behindOne_93 rfl fl_X12_135 rfl (liS rfl) rfl ?_
  try simp only [up_same, up_up, up_ne, ne_eq, Nat.reduceEqDiff, not_false_eq_true, Int.reduceToNat, Int.toNat_natCast]
  refine wp_iconst (n := 97) K dX12_behindOne_96 rfl ?_
  refine wp_isub (n := 98) K dX12_behindOne_97 rfl ?_
  refine wp_putI (n := 101) K dX12_behindOne_98 rfl fl_X12_135 rfl (liS rfl) (Or.inl rfl) rfl rfl ?_
  try simp only [up_same, up_up, up_ne, ne_eq, Nat.reduceEqDiff, not_false_eq_true, Int.reduceToNat, Int.toNat_natCast]
  refine wp_aload_n (n := 102) K dX12_behindOne_101 rfl rfl ?_
  refine wp_dup (n := 103) K dX12_behindOne_102 rfl rfl ?_
  refine wp_getI (n := 106) K dX12_behindOne_103 rfl fl_X12_142 rfl (liS rfl) rfl ?_
  try simp only [up_same, up_up, up_ne, ne_eq, Nat.reduceEqDiff, not_false_eq_true, Int.reduceToNat, Int.toNat_natCast]
  refine wp_iconst (n := 107) K dX12_behindOne_106 rfl ?_
  refine wp_isub (n := 108) K dX12_behindOne_107 rfl ?_
  refine wp_putI (n := 111) K dX12_behindOne_108 rfl fl_X12_142 rfl (liS rfl) (Or.inl rfl) rfl rfl ?_
  try simp only [up_same, up_up, up_ne, ne_eq, Nat.reduceEqDiff, not_false_eq_true, Int.reduceToNat, Int.toNat_natCast]
  refine wp_aload_n (n := 112) K dX12_behindOne_111 rfl rfl ?_
  have hp2 := R1.2.1.pop (M1 := up M88 77 (up (up (M88 77) 17 (M88 77 17 - 1)) 18 (M88 77 18 - 1))) rfl rfl rfl rfl (by show M88 77 17 - 1 = _; omega)
  have f2 : FR t0 M88 (up M88 77 (up (up (M88 77) 17 (M88 77 17 - 1)) 18 (M88 77 18 - 1))) := ⟨fun j _ p q _ => by rw [up_same, up_ne _ _ q, up_ne _ _ p], fun j _ => rfl⟩
  have R2 := R1.ps f2 hp2 (by rw [up_same, up_same, h18b, eo]; omega) rfl
  have okx : okP xs := q1.1
  have okl := okx.ln.1
  refine wp_invV_qn (n := 115) K dX12_behindOne_112 rfl cf_X12_163 (m_whole t0 o xs (stl 3 pl c).2 ht0 (by omega) (by omega) okx.i _ _ R2.2.1 R2.2.2.1) rfl rfl rfl (liS rfl) rfl (by decide) ⟨Nat.le_refl _, Nat.le_refl _⟩ (Nat.le_of_ble_eq_true rfl) (fun M112 hM112 gM112 => ?_)
  try simp only [up_same, up_up, up_ne, ne_eq, Nat.reduceEqDiff, not_false_eq_true, Int.reduceToNat, Int.toNat_natCast]
  obtain ⟨w1, w2, w3, w4⟩ := gM112
  have R3 := R2.ps w4 w1 w2 (hM112 _ (by decide))
  refine fin _ _ ((s4.n.trans f2.n).trans w4.n) R3 (by rw [w3]; unfold behW; rw [if_pos e29]) (fun a ha => ?_)
  rw [hM112 a (in1 a ha).1, up_ne _ _ (fun q => (in1 a ha).2.1 (by rw [q]; decide)), hM88 a (in1 a ha).1]
