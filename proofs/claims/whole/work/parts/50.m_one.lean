/-! a ONE, of the reference -/
def okP : List Int → Prop
  | [] => True
  | x :: xs => okP xs ∧ (x = 2 ∨ x = 40 ∨ ((x = 3 ∨ x = 4) ∧ (xs = [] ∨ xs.head? = some 40)) ∨ ((x = 5 ∨ x = 6) ∧ (xs = [] ∨ xs.head? = some 40 ∨ xs.head? = some 3 ∨ xs.head? = some 4)))
theorem okP.ln : ∀ {l : List Int}, okP l → l.length ≤ 3 * opn l + 2 ∧ ((l = [] ∨ l.head? = some 40) → l.length ≤ 3 * opn l) ∧ ((l.head? = some 3 ∨ l.head? = some 4) → l.length ≤ 3 * opn l + 1) := by
  intro l
  induction l with
  | nil => intro _; exact ⟨Nat.zero_le _, fun _ => Nat.zero_le _, fun _ => Nat.zero_le _⟩
  | cons x xs ih =>
    intro h
    obtain ⟨h1, h2⟩ := h
    obtain ⟨i1, i2, i3⟩ := ih h1
    have hl : (x :: xs).length = xs.length + 1 := rfl
    have ho : opn (x :: xs) = opn xs + if x = 40 ∨ x = 2 then 1 else 0 := rfl
    rw [hl, ho]
    rcases h2 with e | e | ⟨e, q⟩ | ⟨e, q⟩
    · rw [if_pos (Or.inr e)]
      refine ⟨by omega, fun q => ?_, fun q => by omega⟩
      omega
    · rw [if_pos (Or.inl e)]
      refine ⟨by omega, fun q => ?_, fun q => by omega⟩
      omega
    · have := i2 q
      rw [if_neg (by omega)]
      refine ⟨by omega, fun r => ?_, fun r => by omega⟩
      rcases r with r | r
      · cases r
      · have : x = 40 := Option.some.inj r
        omega
    · have i4 : xs.length ≤ 3 * opn xs + 1 := by
        rcases q with q | q | q
        · have := i2 (Or.inl q); omega
        · have := i2 (Or.inr q); omega
        · exact i3 q
      rw [if_neg (by omega)]
      refine ⟨by omega, fun r => ?_, fun r => ?_⟩
      · rcases r with r | r
        · cases r
        · have : x = 40 := Option.some.inj r
          omega
      · rcases r with r | r
        · have : x = 3 := Option.some.inj r
          omega
        · have : x = 4 := Option.some.inj r
          omega
theorem okP.i : ∀ {l : List Int}, okP l → okI l := by
  intro l
  induction l with
  | nil => intro _ x hx; cases hx
  | cons y ys ih =>
    intro h x hx
    rcases List.mem_cons.mp hx with e | e
    · have h2 := h.2
      rw [e]; unfold InR; omega
    · exact ih h.1 x e
theorem whl_r : ∀ (pl : List Int) (c : List (Int × Int)), okP pl → okP (whl pl c).1 ∧ opn (whl pl c).1 ≤ opn pl ∧ (whl pl c).1.length + (whl pl c).2.length = pl.length + c.length ∧ (whl pl c).1.head? ≠ some 2 := by
  intro pl
  induction pl with
  | nil => intro c _; exact ⟨trivial, Nat.le_refl _, rfl, by intro h; cases h⟩
  | cons x xs ih =>
    intro c h
    by_cases e : x = 2
    · have e1 : whl (x :: xs) c = whl xs ((2, 0) :: c) := if_pos e
      rw [e1]
      obtain ⟨i1, i2, i3, i4⟩ := ih ((2, 0) :: c) h.1
      refine ⟨i1, Nat.le_trans i2 (Nat.le_add_right _ _), ?_, i4⟩
      rw [i3]
      show xs.length + (c.length + 1) = xs.length + 1 + c.length
      omega
    · have e1 : whl (x :: xs) c = (x :: xs, c) := if_neg e
      rw [e1]
      exact ⟨h, Nat.le_refl _, rfl, fun q => e (Option.some.inj q)⟩
theorem stl_r : ∀ (least : Int) (pl : List Int) (c : List (Int × Int)), (least = 3 ∨ least = 5) → okP pl → okP (stl least pl c).1 ∧ opn (stl least pl c).1 = opn pl ∧ (stl least pl c).1.length + (stl least pl c).2.length = pl.length + c.length ∧ ((stl least pl c).1 = [] ∨ (stl least pl c).1.head? = some 40 ∨ (stl least pl c).1.head? = some 2 ∨ (least = 5 ∧ ((stl least pl c).1.head? = some 3 ∨ (stl least pl c).1.head? = some 4))) := by
  intro least pl
  induction pl with
  | nil => intro c _ _; exact ⟨trivial, rfl, rfl, Or.inl rfl⟩
  | cons x xs ih =>
    intro c hl h
    have h2 := h.2
    by_cases e : x < 40 ∧ least ≤ x
    · have e1 : stl least (x :: xs) c = stl least xs ((x, 0) :: c) := if_pos e
      rw [e1]
      obtain ⟨i1, i2, i3, i4⟩ := ih ((x, 0) :: c) hl h.1
      refine ⟨i1, ?_, ?_, i4⟩
      · rw [i2]
        show opn xs = opn xs + if x = 40 ∨ x = 2 then 1 else 0
        rw [if_neg (by omega)]; rfl
      · rw [i3]
        show xs.length + (c.length + 1) = xs.length + 1 + c.length
        omega
    · have e1 : stl least (x :: xs) c = (x :: xs, c) := if_neg e
      rw [e1]
      refine ⟨h, rfl, rfl, ?_⟩
      by_cases h40 : x = 40
      · exact Or.inr (Or.inl (by rw [h40]; rfl))
      by_cases h20 : x = 2
      · exact Or.inr (Or.inr (Or.inl (by rw [h20]; rfl)))
      refine Or.inr (Or.inr (Or.inr ⟨by omega, ?_⟩))
      by_cases h3 : x = 3
      · exact Or.inl (by rw [h3]; rfl)
      · exact Or.inr (by rw [show x = 4 by omega]; rfl)
/-- the FAULT of the TOKEN where a ONE begins -/
def oneF (so k : Nat) (v : Int) (o : Nat) : Nat := if k = 40 then (if 9999 < v then 2 else 0) else if k < 8 then (if barF so k = true then 5 else 0) else if k = 28 ∨ k = 25 then (if o = 8 then 3 else 0) else 1
def oneP (k : Nat) (v : Int) (pl : List Int) (c : List (Int × Int)) : List Int × List (Int × Int) := if k = 40 then whl pl ((0, v) :: c) else if k < 8 then whl pl ((1, (k : Int)) :: c) else if k = 28 then (40 :: pl, c) else (2 :: pl, c)
def oneW (k : Nat) : Int := if k = 40 ∨ k < 8 then 1 else 0
/-- the reference, reading -/
def RS (b : Nat → Int) (n t0 so o : Nat) (M : MT) (t : Nat) (pl : List Int) (c : List (Int × Int)) : Prop := AT b n M t ∧ PS M t0 pl c ∧ M 77 18 = ((o + opn pl : Nat) : Int) ∧ M 77 20 = (so : Int)
def FRN (t0 : Nat) (M M1 : MT) : Prop := (∀ j, (j < 7 ∨ j = 12 ∨ j = 13 ∨ j = 15 ∨ 20 ≤ j) → M1 77 j = M 77 j) ∧ (∀ j, j < t0 + 75 → M1 80 j = M 80 j)
theorem FRN.refl (t0 : Nat) (M : MT) : FRN t0 M M := ⟨fun _ _ => rfl, fun _ _ => rfl⟩
theorem FRN.trans {t0 : Nat} {M M1 M2 : MT} (h : FRN t0 M M1) (h' : FRN t0 M1 M2) : FRN t0 M M2 := ⟨fun j a => (h'.1 j a).trans (h.1 j a), fun j a => (h'.2 j a).trans (h.2 j a)⟩
theorem FR.n {t0 : Nat} {M M1 : MT} (h : FR t0 M M1) : FRN t0 M M1 := ⟨fun j a => h.1 j (by omega) (by omega) (by omega) (by omega), h.2⟩
theorem OtN.n {t0 : Nat} {M M1 : MT} (h : OtN M M1) (hb : ∀ a, a ∉ [77] → M1 a = M a) : FRN t0 M M1 := ⟨fun j a => h j (by omega) (by omega) (by omega) (by omega) (by omega), fun j _ => by rw [hb 80 (by decide)]⟩
theorem RS.ps {b : Nat → Int} {n t0 so o t : Nat} {M M1 : MT} {pl pl' : List Int} {c c' : List (Int × Int)} (h : RS b n t0 so o M t pl c) (hf : FR t0 M M1) (hp : PS M1 t0 pl' c') (h18 : M1 77 18 = ((o + opn pl' : Nat) : Int)) (ht : M1 81 = M 81) : RS b n t0 so o M1 t pl' c' :=
  ⟨h.1.of ht (fun j p q => hf.1 j (by omega) (by omega) (by omega) (by omega)), hp, h18, (hf.1 20 (by decide) (by decide) (by decide) (by decide)).trans h.2.2.2⟩
theorem RS.nx {b : Nat → Int} {n t0 so o t : Nat} {M M1 : MT} {pl : List Int} {c : List (Int × Int)} (h : RS b n t0 so o M t pl c) (hb : ∀ a, a ∉ [77] → M1 a = M a) (g : NT M n (PT b n (t + 1)) M1) : RS b n t0 so o M1 (t + 1) pl c ∧ OtN M M1 := by
  obtain ⟨h1, h2, h3, h4⟩ := h
  obtain ⟨a1, a2⟩ := h1.nx hb g
  refine ⟨⟨a1, h2.of (hb _ (by decide)) (hb _ (by decide)) (a2 12 (by decide) (by decide) (by decide) (by decide) (by decide)) (a2 14 (by decide) (by decide) (by decide) (by decide) (by decide)) (a2 17 (by decide) (by decide) (by decide) (by decide) (by decide)), (a2 18 (by decide) (by decide) (by decide) (by decide) (by decide)).trans h3, (a2 20 (by decide) (by decide) (by decide) (by decide) (by decide)).trans h4⟩, a2⟩
theorem TK.num {M : MT} {k : Nat} {v : Int} (h : TK M k v) (hk : k = 40) : 0 ≤ M 77 10 ∧ M 77 10 ≤ 1000010 ∧ ((M 77 10 ≤ 9999 ∧ v = M 77 10) ∨ (9999 < M 77 10 ∧ v = 10000)) := by
  subst hk
  exact tk_nu h

set_option maxHeartbeats 2000000 in
theorem m_beginOne {b : Nat → Int} {n t0 so o t : Nat} {pl : List Int} {c : List (Int × Int)} (hok : okTp b n) (ht0 : t0 ≤ 2040) (hso : so ≤ 5) (hpl : okP pl) (hop : o + opn pl ≤ 8) (hln : pl.length + c.length ≤ 300) (S : ST) (M : MT) (hRS : RS b n t0 so o M t pl c) : Ct E1 yX12_beginOne cX12_beginOne 2 (some .int) rm_X12_beginOne [.ref 77] S M (Qi (oneF so (KT b n t) (VT b n t) (o + opn pl) : Int) [77, 80, 82] S M (fun M1 => FRN t0 M M1 ∧ (oneF so (KT b n t) (VT b n t) (o + opn pl) = 0 → RS b n t0 so o M1 (t + 1) (oneP (KT b n t) (VT b n t) pl c).1 (oneP (KT b n t) (VT b n t) pl c).2 ∧ (oneW (KT b n t) = 1 → M1 77 19 = 1) ∧ (oneW (KT b n t) = 0 → M1 77 19 = M 77 19)) ∧ (oneF so (KT b n t) (VT b n t) (o + opn pl) ≠ 0 → M1 77 8 = (BT b n t : Int)))) := by
  refine Ct.mk [.ref 77, mkV] (by decide) rfl (Nat.le_of_ble_eq_true rfl) (fun X K => ?_)
  have hT := hRS.1.2.2.2.2
  have h8 := hRS.1.2.2.2.1
  have h18 := hRS.2.2.1
  have h20 := hRS.2.2.2
  have hlp := hpl.ln.1
  have hr := hT.r
  have hi := hpl.i
  generalize KT b n t = k at *
  generalize VT b n t = v at *
  refine wp_aload_n (n := 1) K dX12_beginOne_0 rfl rfl ?_
  refine wp_getI (n := 4) K dX12_beginOne_1 rfl fl_X12_104 rfl (liS rfl) rfl ?_
  try simp only [up_same, up_up, up_ne, ne_eq, Nat.reduceEqDiff, not_false_eq_true, Int.reduceToNat, Int.toNat_natCast]
  refine wp_iconst (n := 5) K dX12_beginOne_4 rfl ?_
  refine wp_icmp_ne (n := 8) K dX12_beginOne_5 rfl (tgt := 39) (by decide) ⟨by omega, by omega⟩ ⟨by omega, by omega⟩ (fun c5 => ?_) (fun c5 => ?_)
  rotate_left
  · -- a number
    have hk : k = 40 := (hT.is (j := 40) (by decide)).mp c5
    have hnu := hT.num hk
    refine wp_aload_n (n := 9) K dX12_beginOne_8 rfl rfl ?_
    refine wp_getI (n := 12) K dX12_beginOne_9 rfl fl_X12_110 rfl (liS rfl) rfl ?_
    try simp only [up_same, up_up, up_ne, ne_eq, Nat.reduceEqDiff, not_false_eq_true, Int.reduceToNat, Int.toNat_natCast]
    refine wp_sipush (n := 15) K dX12_beginOne_12 rfl rfl ?_
    refine wp_icmp_le (n := 18) K dX12_beginOne_15 rfl (tgt := 20) (by decide) ⟨by omega, by omega⟩ ⟨by omega, by omega⟩ (fun c15 => ?_) (fun c15 => ?_)
    rotate_left
    · have e : oneF so k v (o + opn pl) = 2 := by unfold oneF; rw [if_pos hk, if_pos (by omega)]
      rw [e] at K
      refine wp_iconst (n := 19) K dX12_beginOne_18 rfl ?_
      refine ret_qi K dX12_beginOne_19 ?_ rfl ?_ ?_ ⟨Nat.le_refl _, Nat.le_refl _⟩
      · rfl
      · intro a _; rfl
      · exact ⟨FRN.refl _ _, fun q => (by cases q), fun _ => h8⟩
    · have e : oneF so k v (o + opn pl) = 0 := by unfold oneF; rw [if_pos hk, if_neg (by omega)]
      have e2 : oneP k v pl c = whl pl ((0, v) :: c) := if_pos hk
      have e3 : oneW k = 1 := if_pos (Or.inl hk)
      have ev : M 77 10 = v := by omega
      rw [e, e2, e3] at K
      refine wp_aload_n (n := 21) K dX12_beginOne_20 rfl rfl ?_
      refine wp_iconst (n := 22) K dX12_beginOne_21 rfl ?_
      refine wp_aload_n (n := 23) K dX12_beginOne_22 rfl rfl ?_
      refine wp_getI (n := 26) K dX12_beginOne_23 rfl fl_X12_110 rfl (liS rfl) rfl ?_
      try simp only [up_same, up_up, up_ne, ne_eq, Nat.reduceEqDiff, not_false_eq_true, Int.reduceToNat, Int.toNat_natCast]
      rw [ev]
      obtain ⟨p1, p2, p3, p4⟩ := hRS.2.1.em 0 v
      have R1 := hRS.ps p2 p1 (by rw [p4 18 (by decide)]; exact h18) (p3 _ (by decide))
      refine wp_invV_n (n := 29) K dX12_beginOne_26 rfl cf_X12_145 (m_emit t0 c.length 0 v ht0 (by omega) _ _ hRS.2.1.1 hRS.2.1.2.1) rfl rfl rfl (liS rfl) rfl (by decide) ⟨Nat.le_refl _, Nat.le_refl _⟩ (Nat.le_of_ble_eq_true rfl) ?_
      try simp only [up_same, up_up, up_ne, ne_eq, Nat.reduceEqDiff, not_false_eq_true, Int.reduceToNat, Int.toNat_natCast]
      refine wp_aload_n (n := 30) K dX12_beginOne_29 rfl rfl ?_
      refine wp_invV_qn (n := 33) K dX12_beginOne_30 rfl cf_X12_160 (m_next hok _ _ R1.1) rfl rfl rfl (liS rfl) rfl (by decide) ⟨Nat.le_refl _, Nat.le_refl _⟩ (Nat.le_of_ble_eq_true rfl) (fun M30 hM30 gM30 => ?_)
      try simp only [up_same, up_up, up_ne, ne_eq, Nat.reduceEqDiff, not_false_eq_true, Int.reduceToNat, Int.toNat_natCast]
      obtain ⟨R2, o2⟩ := R1.nx hM30 gM30
      refine wp_aload_n (n := 34) K dX12_beginOne_33 rfl rfl ?_
      refine wp_invV_qn (n := 37) K dX12_beginOne_34 rfl cf_X12_163 (m_whole t0 o pl ((0, v) :: c) ht0 (by show _ + (c.length + 1) ≤ 301; omega) (by omega) hi _ _ R2.2.1 R2.2.2.1) rfl rfl rfl (liS rfl) rfl (by decide) ⟨Nat.le_refl _, Nat.le_refl _⟩ (Nat.le_of_ble_eq_true rfl) (fun M34 hM34 gM34 => ?_)
      try simp only [up_same, up_up, up_ne, ne_eq, Nat.reduceEqDiff, not_false_eq_true, Int.reduceToNat, Int.toNat_natCast]
      obtain ⟨w1, w2, w3, w4⟩ := gM34
      have R3 := R2.ps w4 w1 w2 (hM34 _ (by decide))
      refine wp_iconst (n := 38) K dX12_beginOne_37 rfl ?_
      refine ret_qi K dX12_beginOne_38 ?_ rfl ?_ ?_ ⟨Nat.le_refl _, Nat.le_refl _⟩
      · rfl
      · intro a ha
        have h1 : a ∉ [77, 80] := fun q => ha (by simp only [List.mem_cons, List.mem_nil_iff, or_false] at q ⊢; omega)
        have h2 : a ∉ [77] := fun q => ha (by simp only [List.mem_cons, List.mem_nil_iff, or_false] at q ⊢; omega)
        rw [hM34 a h1, hM30 a h2, p3 a h1]
      · exact ⟨(p2.n.trans (o2.n hM30)).trans w4.n, fun _ => ⟨R3, fun _ => w3, fun q => (by cases q)⟩, fun q => absurd rfl q⟩
  have hk : k ≠ 40 := fun q => c5 ((hT.is (c := 1) (by decide)).mpr q)
  have hnm : -1 ≤ (if k < 8 then (k : Int) else -1) ∧ (if k < 8 then (k : Int) else -1) ≤ 7 := by split <;> omega
  refine wp_aload_n (n := 40) K dX12_beginOne_39 rfl rfl ?_
  refine wp_invV_i (n := 43) K dX12_beginOne_40 rfl cf_X12_166 (m_nameOf k v _ _ hT) rfl rfl rfl (liS rfl) rfl (by decide) ⟨Nat.le_refl _, Nat.le_refl _⟩ (Nat.le_of_ble_eq_true rfl) ?_
  try simp only [up_same, up_up, up_ne, ne_eq, Nat.reduceEqDiff, not_false_eq_true, Int.reduceToNat, Int.toNat_natCast]
  refine wp_if_lt (n := 46) K dX12_beginOne_43 rfl (tgt := 78) (by decide) ⟨by omega, by omega⟩ (fun c43 => ?_) (fun c43 => ?_)
  rotate_left
  · -- a NAME
    have hk8 : k < 8 := by
      rcases Nat.lt_or_ge k 8 with q | q
      · exact q
      · rw [if_neg (by omega)] at c43; omega
    rw [if_pos hk8] at hnm
    refine wp_aload_n (n := 47) K dX12_beginOne_46 rfl rfl ?_
    refine wp_aload_n (n := 48) K dX12_beginOne_47 rfl rfl ?_
    refine wp_invV_i (n := 51) K dX12_beginOne_48 rfl cf_X12_166 (m_nameOf k v _ _ hT) rfl rfl rfl (liS rfl) rfl (by decide) ⟨Nat.le_refl _, Nat.le_refl _⟩ (Nat.le_of_ble_eq_true rfl) ?_
    try simp only [up_same, up_up, up_ne, ne_eq, Nat.reduceEqDiff, not_false_eq_true, Int.reduceToNat, Int.toNat_natCast]
    rw [if_pos hk8]
    refine wp_invV_i (n := 54) K dX12_beginOne_51 rfl cf_X12_169 (m_isBarred _ ⟨by omega, by omega⟩ _ _ ⟨by omega, by omega⟩) rfl rfl rfl (liS rfl) rfl (by decide) ⟨Nat.le_refl _, Nat.le_refl _⟩ (Nat.le_of_ble_eq_true rfl) ?_
    try simp only [up_same, up_up, up_ne, ne_eq, Nat.reduceEqDiff, not_false_eq_true, Int.reduceToNat, Int.toNat_natCast]
    rw [h20]
    refine wp_if_eq_b (n := 57) K dX12_beginOne_54 rfl (tgt := 59) (by decide) (fun c54 => ?_) (fun c54 => ?_)
    rotate_left
    · have e : oneF so k v (o + opn pl) = 5 := by unfold oneF; rw [if_neg hk, if_pos hk8, if_pos c54]
      rw [e] at K
      refine wp_iconst (n := 58) K dX12_beginOne_57 rfl ?_
      refine ret_qi K dX12_beginOne_58 ?_ rfl ?_ ?_ ⟨Nat.le_refl _, Nat.le_refl _⟩
      · rfl
      · intro a _; rfl
      · exact ⟨FRN.refl _ _, fun q => (by cases q), fun _ => h8⟩
    · have e : oneF so k v (o + opn pl) = 0 := by unfold oneF; rw [if_neg hk, if_pos hk8, if_neg (by rw [c54]; decide)]
      have e2 : oneP k v pl c = whl pl ((1, (k : Int)) :: c) := by unfold oneP; rw [if_neg hk, if_pos hk8]
      have e3 : oneW k = 1 := if_pos (Or.inr hk8)
      rw [e, e2, e3] at K
      refine wp_aload_n (n := 60) K dX12_beginOne_59 rfl rfl ?_
      refine wp_iconst (n := 61) K dX12_beginOne_60 rfl ?_
      refine wp_aload_n (n := 62) K dX12_beginOne_61 rfl rfl ?_
      refine wp_invV_i (n := 65) K dX12_beginOne_62 rfl cf_X12_166 (m_nameOf k v _ _ hT) rfl rfl rfl (liS rfl) rfl (by decide) ⟨Nat.le_refl _, Nat.le_refl _⟩ (Nat.le_of_ble_eq_true rfl) ?_
      try simp only [up_same, up_up, up_ne, ne_eq, Nat.reduceEqDiff, not_false_eq_true, Int.reduceToNat, Int.toNat_natCast]
      rw [if_pos hk8]
      obtain ⟨p1, p2, p3, p4⟩ := hRS.2.1.em 1 (k : Int)
      have R1 := hRS.ps p2 p1 (by rw [p4 18 (by decide)]; exact h18) (p3 _ (by decide))
      refine wp_invV_n (n := 68) K dX12_beginOne_65 rfl cf_X12_145 (m_emit t0 c.length 1 k ht0 (by omega) _ _ hRS.2.1.1 hRS.2.1.2.1) rfl rfl rfl (liS rfl) rfl (by decide) ⟨Nat.le_refl _, Nat.le_refl _⟩ (Nat.le_of_ble_eq_true rfl) ?_
      try simp only [up_same, up_up, up_ne, ne_eq, Nat.reduceEqDiff, not_false_eq_true, Int.reduceToNat, Int.toNat_natCast]
      refine wp_aload_n (n := 69) K dX12_beginOne_68 rfl rfl ?_
      refine wp_invV_qn (n := 72) K dX12_beginOne_69 rfl cf_X12_160 (m_next hok _ _ R1.1) rfl rfl rfl (liS rfl) rfl (by decide) ⟨Nat.le_refl _, Nat.le_refl _⟩ (Nat.le_of_ble_eq_true rfl) (fun M69 hM69 gM69 => ?_)
      try simp only [up_same, up_up, up_ne, ne_eq, Nat.reduceEqDiff, not_false_eq_true, Int.reduceToNat, Int.toNat_natCast]
      obtain ⟨R2, o2⟩ := R1.nx hM69 gM69
      refine wp_aload_n (n := 73) K dX12_beginOne_72 rfl rfl ?_
      refine wp_invV_qn (n := 76) K dX12_beginOne_73 rfl cf_X12_163 (m_whole t0 o pl ((1, (k : Int)) :: c) ht0 (by show _ + (c.length + 1) ≤ 301; omega) (by omega) hi _ _ R2.2.1 R2.2.2.1) rfl rfl rfl (liS rfl) rfl (by decide) ⟨Nat.le_refl _, Nat.le_refl _⟩ (Nat.le_of_ble_eq_true rfl) (fun M73 hM73 gM73 => ?_)
      try simp only [up_same, up_up, up_ne, ne_eq, Nat.reduceEqDiff, not_false_eq_true, Int.reduceToNat, Int.toNat_natCast]
      obtain ⟨w1, w2, w3, w4⟩ := gM73
      have R3 := R2.ps w4 w1 w2 (hM73 _ (by decide))
      refine wp_iconst (n := 77) K dX12_beginOne_76 rfl ?_
      refine ret_qi K dX12_beginOne_77 ?_ rfl ?_ ?_ ⟨Nat.le_refl _, Nat.le_refl _⟩
      · rfl
      · intro a ha
        have h1 : a ∉ [77, 80] := fun q => ha (by simp only [List.mem_cons, List.mem_nil_iff, or_false] at q ⊢; omega)
        have h2 : a ∉ [77] := fun q => ha (by simp only [List.mem_cons, List.mem_nil_iff, or_false] at q ⊢; omega)
        rw [hM73 a h1, hM69 a h2, p3 a h1]
      · exact ⟨(p2.n.trans (o2.n hM69)).trans w4.n, fun _ => ⟨R3, fun _ => w3, fun q => (by cases q)⟩, fun q => absurd rfl q⟩
  have hk8 : ¬ k < 8 := fun q => by rw [if_pos q] at c43; omega
  have e3 : oneW k = 0 := if_neg (by omega)
  -- '(' and '-'
  have open1 : ∀ w : Int, (w = 40 ∧ k = 28) ∨ (w = 2 ∧ k = 25) → Wp E1 X 106 [.ref 77, mkV] [.int (z w)] S M := by
    intro w hw
    have e : oneF so k v (o + opn pl) = if o + opn pl = 8 then 3 else 0 := by unfold oneF; rw [if_neg hk, if_neg hk8, if_pos (by omega)]
    have e2 : oneP k v pl c = (w :: pl, c) := by
      unfold oneP; rw [if_neg hk, if_neg hk8]
      rcases hw with ⟨w1, w2⟩ | ⟨w1, w2⟩
      · rw [if_pos w2, w1]
      · rw [if_neg (by omega), w1]
    refine wp_istore_n (n := 107) K dX12_beginOne_106 rfl (by decide) ?_
    refine wp_iload_n (n := 108) K dX12_beginOne_107 rfl rfl ?_
    refine wp_if_ne (n := 111) K dX12_beginOne_108 rfl (tgt := 113) (by decide) ⟨by omega, by omega⟩ (fun c108 => ?_) (fun c108 => ?_)
    rotate_left
    · omega
    refine wp_aload_n (n := 114) K dX12_beginOne_113 rfl rfl ?_
    refine wp_getI (n := 117) K dX12_beginOne_114 rfl fl_X12_142 rfl (liS rfl) rfl ?_
    try simp only [up_same, up_up, up_ne, ne_eq, Nat.reduceEqDiff, not_false_eq_true, Int.reduceToNat, Int.toNat_natCast]
    refine wp_bipush (n := 119) K dX12_beginOne_117 rfl rfl ?_
    refine wp_icmp_ne (n := 122) K dX12_beginOne_119 rfl (tgt := 124) (by decide) ⟨by omega, by omega⟩ ⟨by omega, by omega⟩ (fun c119 => ?_) (fun c119 => ?_)
    rotate_left
    · rw [e, if_pos (by omega)] at K
      refine wp_iconst (n := 123) K dX12_beginOne_122 rfl ?_
      refine ret_qi K dX12_beginOne_123 ?_ rfl ?_ ?_ ⟨Nat.le_refl _, Nat.le_refl _⟩
      · rfl
      · intro a _; rfl
      · exact ⟨FRN.refl _ _, fun q => (by cases q), fun _ => h8⟩
    · rw [e, if_neg (by omega), e2, e3] at K
      refine wp_aload_n (n := 125) K dX12_beginOne_124 rfl rfl ?_
      refine wp_dup (n := 126) K dX12_beginOne_125 rfl rfl ?_
      refine wp_getI (n := 129) K dX12_beginOne_126 rfl fl_X12_142 rfl (liS rfl) rfl ?_
      try simp only [up_same, up_up, up_ne, ne_eq, Nat.reduceEqDiff, not_false_eq_true, Int.reduceToNat, Int.toNat_natCast]
      refine wp_iconst (n := 130) K dX12_beginOne_129 rfl ?_
      refine wp_iadd (n := 131) K dX12_beginOne_130 rfl ?_
      refine wp_putI (n := 134) K dX12_beginOne_131 rfl fl_X12_142 rfl (liS rfl) (Or.inl rfl) rfl rfl ?_
      try simp only [up_same, up_up, up_ne, ne_eq, Nat.reduceEqDiff, not_false_eq_true, Int.reduceToNat, Int.toNat_natCast]
      refine wp_aload_n (n := 135) K dX12_beginOne_134 rfl rfl ?_
      refine wp_iload_n (n := 136) K dX12_beginOne_135 rfl rfl ?_
      have hps := hRS.2.1.of (M1 := up M 77 (up (M 77) 18 (M 77 18 + 1))) rfl rfl rfl rfl rfl
      obtain ⟨p1, p2, p3, p4⟩ := hps.pu w
      have f0 : FR t0 M (up M 77 (up (M 77) 18 (M 77 18 + 1))) := ⟨fun j _ _ q _ => by rw [up_same, up_ne _ _ q], fun j _ => rfl⟩
      have eo : opn (w :: pl) = opn pl + 1 := by show opn pl + (if w = 40 ∨ w = 2 then 1 else 0) = _; rw [if_pos (by omega)]
      have R1 := hRS.ps (f0.trans p2) p1 (by rw [p4 18 (by decide), up_same, up_same, h18, eo]; omega) (p3 _ (by decide))
      refine wp_invV_n (n := 139) K dX12_beginOne_136 rfl cf_X12_172 (m_push pl.length w (by omega) _ _ hps.2.2.2.1) rfl rfl rfl (liS rfl) rfl (by decide) ⟨Nat.le_refl _, Nat.le_refl _⟩ (Nat.le_of_ble_eq_true rfl) ?_
      try simp only [up_same, up_up, up_ne, ne_eq, Nat.reduceEqDiff, not_false_eq_true, Int.reduceToNat, Int.toNat_natCast]
      refine wp_aload_n (n := 140) K dX12_beginOne_139 rfl rfl ?_
      refine wp_invV_qn (n := 143) K dX12_beginOne_140 rfl cf_X12_160 (m_next hok _ _ R1.1) rfl rfl rfl (liS rfl) rfl (by decide) ⟨Nat.le_refl _, Nat.le_refl _⟩ (Nat.le_of_ble_eq_true rfl) (fun M140 hM140 gM140 => ?_)
      try simp only [up_same, up_up, up_ne, ne_eq, Nat.reduceEqDiff, not_false_eq_true, Int.reduceToNat, Int.toNat_natCast]
      obtain ⟨R2, o2⟩ := R1.nx hM140 gM140
      refine wp_iconst (n := 144) K dX12_beginOne_143 rfl ?_
      refine ret_qi K dX12_beginOne_144 ?_ rfl ?_ ?_ ⟨Nat.le_refl _, Nat.le_refl _⟩
      · rfl
      · intro a ha
        have h1 : a ∉ [77, 82] := fun q => ha (by simp only [List.mem_cons, List.mem_nil_iff, or_false] at q ⊢; omega)
        have h2 : a ∉ [77] := fun q => ha (by simp only [List.mem_cons, List.mem_nil_iff, or_false] at q ⊢; omega)
        rw [hM140 a h2, p3 a h1, up_ne _ _ (fun q => h2 (by rw [q]; decide))]
      · exact ⟨(f0.n.trans p2.n).trans (o2.n hM140), fun _ => ⟨R2, fun q => (by cases q), fun _ => by rw [o2 19 (by decide) (by decide) (by decide) (by decide) (by decide), p4 19 (by decide)]; rfl⟩, fun q => absurd rfl q⟩
  refine wp_aload_n (n := 79) K dX12_beginOne_78 rfl rfl ?_
  refine wp_getI (n := 82) K dX12_beginOne_79 rfl fl_X12_104 rfl (liS rfl) rfl ?_
  try simp only [up_same, up_up, up_ne, ne_eq, Nat.reduceEqDiff, not_false_eq_true, Int.reduceToNat, Int.toNat_natCast]
  refine wp_bipush (n := 84) K dX12_beginOne_82 rfl rfl ?_
  refine wp_icmp_ne (n := 87) K dX12_beginOne_84 rfl (tgt := 92) (by decide) ⟨by omega, by omega⟩ ⟨by omega, by omega⟩ (fun c84 => ?_) (fun c84 => ?_)
  rotate_left
  · have e28 : k = 28 := (hT.is (j := 28) (by decide)).mp c84
    refine wp_bipush (n := 89) K dX12_beginOne_87 rfl rfl ?_
    refine wp_goto K dX12_beginOne_89 (tgt := 106) (by decide) ?_
    exact open1 40 (Or.inl ⟨rfl, e28⟩)
  have n28 : k ≠ 28 := fun q => c84 ((hT.is (c := 40) (by decide)).mpr q)
  refine wp_aload_n (n := 93) K dX12_beginOne_92 rfl rfl ?_
  refine wp_getI (n := 96) K dX12_beginOne_93 rfl fl_X12_104 rfl (liS rfl) rfl ?_
  try simp only [up_same, up_up, up_ne, ne_eq, Nat.reduceEqDiff, not_false_eq_true, Int.reduceToNat, Int.toNat_natCast]
  refine wp_bipush (n := 98) K dX12_beginOne_96 rfl rfl ?_
  refine wp_icmp_ne (n := 101) K dX12_beginOne_98 rfl (tgt := 105) (by decide) ⟨by omega, by omega⟩ ⟨by omega, by omega⟩ (fun c98 => ?_) (fun c98 => ?_)
  rotate_left
  · have e25 : k = 25 := (hT.is (j := 25) (by decide)).mp c98
    refine wp_iconst (n := 102) K dX12_beginOne_101 rfl ?_
    refine wp_goto K dX12_beginOne_102 (tgt := 106) (by decide) ?_
    exact open1 2 (Or.inr ⟨rfl, e25⟩)
  have n25 : k ≠ 25 := fun q => c98 ((hT.is (c := 45) (by decide)).mpr q)
  have e : oneF so k v (o + opn pl) = 1 := by unfold oneF; rw [if_neg hk, if_neg hk8, if_neg (by omega)]
  rw [e] at K
  refine wp_iconst (n := 106) K dX12_beginOne_105 rfl ?_
  refine wp_istore_n (n := 107) K dX12_beginOne_106 rfl (by decide) ?_
  refine wp_iload_n (n := 108) K dX12_beginOne_107 rfl rfl ?_
  refine wp_if_ne (n := 111) K dX12_beginOne_108 rfl (tgt := 113) (by decide) ⟨by omega, by omega⟩ (fun c108 => ?_) (fun c108 => ?_)
  · omega
  · refine wp_iconst (n := 112) K dX12_beginOne_111 rfl ?_
    refine ret_qi K dX12_beginOne_112 ?_ rfl ?_ ?_ ⟨Nat.le_refl _, Nat.le_refl _⟩
    · rfl
    · intro a _; rfl
    · exact ⟨FRN.refl _ _, fun q => (by cases q), fun _ => h8⟩
