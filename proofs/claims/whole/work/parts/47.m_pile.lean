/-! the pile and the code of the reference -/
/-- a row of numbers, the last first -/
def PR (r : Nat → Int) : List Int → Prop
  | [] => True
  | x :: xs => r xs.length = x ∧ PR r xs
/-- deeds with their numbers, the last first -/
def CR (r : Nat → Int) : List (Int × Int) → Prop
  | [] => True
  | x :: xs => r (2 * xs.length) = x.1 ∧ r (2 * xs.length + 1) = x.2 ∧ CR r xs
theorem PR.of {r r' : Nat → Int} : ∀ {l : List Int}, PR r l → (∀ j, j < l.length → r' j = r j) → PR r' l := by
  intro l
  induction l with
  | nil => intro _ _; trivial
  | cons x xs ih =>
    intro h e
    exact ⟨by rw [e xs.length (Nat.lt_succ_self _)]; exact h.1, ih h.2 (fun j hj => e j (Nat.lt_succ_of_lt hj))⟩
theorem CR.of {r r' : Nat → Int} : ∀ {l : List (Int × Int)}, CR r l → (∀ j, j < 2 * l.length → r' j = r j) → CR r' l := by
  intro l
  induction l with
  | nil => intro _ _; trivial
  | cons x xs ih =>
    intro h e
    have hl : (x :: xs).length = xs.length + 1 := rfl
    exact ⟨by rw [e _ (by omega)]; exact h.1, by rw [e _ (by omega)]; exact h.2.1, ih h.2.2 (fun j hj => e j (by omega))⟩
/-- the code cells behind text0 -/
def cs (M : MT) (t0 : Nat) : Nat → Int := fun j => M 80 (t0 + 75 + j)
def PS (M : MT) (t0 : Nat) (pl : List Int) (c : List (Int × Int)) : Prop := M 77 12 = t0 ∧ M 77 14 = c.length ∧ CR (cs M t0) c ∧ M 77 17 = pl.length ∧ PR (M 82) pl
/-- what neither of these touches -/
def FR (t0 : Nat) (M M1 : MT) : Prop := (∀ j, j ≠ 14 → j ≠ 17 → j ≠ 18 → j ≠ 19 → M1 77 j = M 77 j) ∧ (∀ j, j < t0 + 75 → M1 80 j = M 80 j)
theorem FR.refl (t0 : Nat) (M : MT) : FR t0 M M := ⟨fun _ _ _ _ _ => rfl, fun _ _ => rfl⟩
theorem FR.trans {t0 : Nat} {M M1 M2 : MT} (h : FR t0 M M1) (h' : FR t0 M1 M2) : FR t0 M M2 := ⟨fun j a b c d => (h'.1 j a b c d).trans (h.1 j a b c d), fun j a => (h'.2 j a).trans (h.2 j a)⟩
def emM (M : MT) (t0 w : Nat) (o v : Int) : MT := up (up M 80 (up (up (M 80) (t0 + 75 + 2 * w) o) (t0 + 75 + 2 * w + 1) v)) 77 (up (M 77) 14 ((w : Int) + 1))
def puM (M : MT) (p : Nat) (o : Int) : MT := up (up M 82 (up (M 82) p o)) 77 (up (M 77) 17 ((p : Int) + 1))

theorem m_emit (t0 w : Nat) (o v : Int) (ht : t0 ≤ 2040) (hw : w ≤ 301) (S : ST) (M : MT) (h12 : M 77 12 = t0) (h14 : M 77 14 = w) : Ct E1 yX12_emit cX12_emit 3 none rm_X12_emit [.ref 77, .int (z o), .int (z v)] S M (Pn S (emM M t0 w o v)) := by
  refine Ct.mk [.ref 77, .int (z o), .int (z v)] (by decide) rfl (Nat.le_of_ble_eq_true rfl) (fun X K => ?_)
  unfold emM at K
  have e1 : ((t0 : Int) + 75 + 2 * (w : Int)).toNat = t0 + 75 + 2 * w := by omega
  have e2 : ((t0 : Int) + 75 + 2 * (w : Int) + 1).toNat = t0 + 75 + 2 * w + 1 := by omega
  refine wp_aload_n (n := 1) K dX12_emit_0 rfl rfl ?_
  refine wp_getF (n := 4) K dX12_emit_1 rfl fl_X12_16 rfl (liS rfl) rfl rfl ?_
  refine wp_aload_n (n := 5) K dX12_emit_4 rfl rfl ?_
  refine wp_getI (n := 8) K dX12_emit_5 rfl fl_X12_129 rfl (liS rfl) rfl ?_
  try simp only [up_same, up_up, up_ne, ne_eq, Nat.reduceEqDiff, not_false_eq_true, Int.reduceToNat, Int.toNat_natCast]
  refine wp_bipush (n := 10) K dX12_emit_8 rfl rfl ?_
  refine wp_iadd (n := 11) K dX12_emit_10 rfl ?_
  refine wp_iconst (n := 12) K dX12_emit_11 rfl ?_
  refine wp_aload_n (n := 13) K dX12_emit_12 rfl rfl ?_
  refine wp_getI (n := 16) K dX12_emit_13 rfl fl_X12_132 rfl (liS rfl) rfl ?_
  try simp only [up_same, up_up, up_ne, ne_eq, Nat.reduceEqDiff, not_false_eq_true, Int.reduceToNat, Int.toNat_natCast]
  refine wp_imul (n := 17) K dX12_emit_16 rfl ?_
  refine wp_iadd (n := 18) K dX12_emit_17 rfl ?_
  refine wp_iload_n (n := 19) K dX12_emit_18 rfl rfl ?_
  rw [h12, h14]
  refine wp_iast (n := 20) K dX12_emit_19 rfl rfl (liS rfl) (fun _ => rfl) ⟨by omega, by omega, by omega⟩ ?_
  try simp only [up_same, up_up, up_ne, ne_eq, Nat.reduceEqDiff, not_false_eq_true, Int.reduceToNat, Int.toNat_natCast]
  refine wp_aload_n (n := 21) K dX12_emit_20 rfl rfl ?_
  refine wp_getF (n := 24) K dX12_emit_21 rfl fl_X12_16 rfl (liS rfl) rfl rfl ?_
  refine wp_aload_n (n := 25) K dX12_emit_24 rfl rfl ?_
  refine wp_getI (n := 28) K dX12_emit_25 rfl fl_X12_129 rfl (liS rfl) rfl ?_
  try simp only [up_same, up_up, up_ne, ne_eq, Nat.reduceEqDiff, not_false_eq_true, Int.reduceToNat, Int.toNat_natCast]
  refine wp_bipush (n := 30) K dX12_emit_28 rfl rfl ?_
  refine wp_iadd (n := 31) K dX12_emit_30 rfl ?_
  refine wp_iconst (n := 32) K dX12_emit_31 rfl ?_
  refine wp_aload_n (n := 33) K dX12_emit_32 rfl rfl ?_
  refine wp_getI (n := 36) K dX12_emit_33 rfl fl_X12_132 rfl (liS rfl) rfl ?_
  try simp only [up_same, up_up, up_ne, ne_eq, Nat.reduceEqDiff, not_false_eq_true, Int.reduceToNat, Int.toNat_natCast]
  refine wp_imul (n := 37) K dX12_emit_36 rfl ?_
  refine wp_iadd (n := 38) K dX12_emit_37 rfl ?_
  refine wp_iconst (n := 39) K dX12_emit_38 rfl ?_
  refine wp_iadd (n := 40) K dX12_emit_39 rfl ?_
  refine wp_iload_n (n := 41) K dX12_emit_40 rfl rfl ?_
  rw [h12, h14, e1]
  refine wp_iast (n := 42) K dX12_emit_41 rfl rfl (liS rfl) (fun _ => rfl) ⟨by omega, by omega, by omega⟩ ?_
  try simp only [up_same, up_up, up_ne, ne_eq, Nat.reduceEqDiff, not_false_eq_true, Int.reduceToNat, Int.toNat_natCast]
  refine wp_aload_n (n := 43) K dX12_emit_42 rfl rfl ?_
  refine wp_dup (n := 44) K dX12_emit_43 rfl rfl ?_
  refine wp_getI (n := 47) K dX12_emit_44 rfl fl_X12_132 rfl (liS rfl) rfl ?_
  try simp only [up_same, up_up, up_ne, ne_eq, Nat.reduceEqDiff, not_false_eq_true, Int.reduceToNat, Int.toNat_natCast]
  refine wp_iconst (n := 48) K dX12_emit_47 rfl ?_
  refine wp_iadd (n := 49) K dX12_emit_48 rfl ?_
  refine wp_putI (n := 52) K dX12_emit_49 rfl fl_X12_132 rfl (liS rfl) (Or.inl rfl) rfl rfl ?_
  try simp only [up_same, up_up, up_ne, ne_eq, Nat.reduceEqDiff, not_false_eq_true, Int.reduceToNat, Int.toNat_natCast]
  rw [h14, e2]
  refine ret_n K dX12_emit_52 rfl ?_ ⟨Nat.le_refl _, Nat.le_refl _⟩
  all_goals rfl

theorem m_push (p : Nat) (o : Int) (hp : p < 160) (S : ST) (M : MT) (h17 : M 77 17 = p) : Ct E1 yX12_push cX12_push 2 none rm_X12_push [.ref 77, .int (z o)] S M (Pn S (puM M p o)) := by
  refine Ct.mk [.ref 77, .int (z o)] (by decide) rfl (Nat.le_of_ble_eq_true rfl) (fun X K => ?_)
  unfold puM at K
  refine wp_aload_n (n := 1) K dX12_push_0 rfl rfl ?_
  refine wp_getF (n := 4) K dX12_push_1 rfl fl_X12_29 rfl (liS rfl) rfl rfl ?_
  refine wp_aload_n (n := 5) K dX12_push_4 rfl rfl ?_
  refine wp_getI (n := 8) K dX12_push_5 rfl fl_X12_135 rfl (liS rfl) rfl ?_
  try simp only [up_same, up_up, up_ne, ne_eq, Nat.reduceEqDiff, not_false_eq_true, Int.reduceToNat, Int.toNat_natCast]
  refine wp_iload_n (n := 9) K dX12_push_8 rfl rfl ?_
  rw [h17]
  refine wp_iast (n := 10) K dX12_push_9 rfl rfl (liS rfl) (fun _ => rfl) ⟨by omega, by omega, by omega⟩ ?_
  try simp only [up_same, up_up, up_ne, ne_eq, Nat.reduceEqDiff, not_false_eq_true, Int.reduceToNat, Int.toNat_natCast]
  refine wp_aload_n (n := 11) K dX12_push_10 rfl rfl ?_
  refine wp_dup (n := 12) K dX12_push_11 rfl rfl ?_
  refine wp_getI (n := 15) K dX12_push_12 rfl fl_X12_135 rfl (liS rfl) rfl ?_
  try simp only [up_same, up_up, up_ne, ne_eq, Nat.reduceEqDiff, not_false_eq_true, Int.reduceToNat, Int.toNat_natCast]
  refine wp_iconst (n := 16) K dX12_push_15 rfl ?_
  refine wp_iadd (n := 17) K dX12_push_16 rfl ?_
  refine wp_putI (n := 20) K dX12_push_17 rfl fl_X12_135 rfl (liS rfl) (Or.inl rfl) rfl rfl ?_
  try simp only [up_same, up_up, up_ne, ne_eq, Nat.reduceEqDiff, not_false_eq_true, Int.reduceToNat, Int.toNat_natCast]
  rw [h17]
  refine ret_n K dX12_push_20 rfl ?_ ⟨Nat.le_refl _, Nat.le_refl _⟩
  all_goals rfl
theorem PS.em {M : MT} {t0 : Nat} {pl : List Int} {c : List (Int × Int)} (h : PS M t0 pl c) (o v : Int) : PS (emM M t0 c.length o v) t0 pl ((o, v) :: c) ∧ FR t0 M (emM M t0 c.length o v) ∧ (∀ a, a ∉ [77, 80] → emM M t0 c.length o v a = M a) ∧ (∀ j, j ≠ 14 → emM M t0 c.length o v 77 j = M 77 j) := by
  obtain ⟨h1, h2, h3, h4, h5⟩ := h
  have ho : ∀ j, j ≠ 14 → emM M t0 c.length o v 77 j = M 77 j := fun j hj => by unfold emM; rw [up_same, up_ne _ _ hj]
  have ht : emM M t0 c.length o v 80 = up (up (M 80) (t0 + 75 + 2 * c.length) o) (t0 + 75 + 2 * c.length + 1) v := by unfold emM; rw [up_ne _ _ (by decide), up_same]
  have hf : ∀ a, a ∉ [77, 80] → emM M t0 c.length o v a = M a := fun a ha => by
    unfold emM
    rw [up_ne _ _ (fun e => ha (by rw [e]; decide)), up_ne _ _ (fun e => ha (by rw [e]; decide))]
  refine ⟨⟨by rw [ho 12 (by decide)]; exact h1, by unfold emM; rw [up_same, up_same]; rfl, ⟨?_, ?_, ?_⟩, by rw [ho 17 (by decide)]; exact h4, by rw [hf 82 (by decide)]; exact h5⟩, ⟨fun j a _ _ _ => ho j a, fun j hj => by rw [ht, up_ne _ _ (by omega), up_ne _ _ (by omega)]⟩, hf, ho⟩
  · show emM M t0 c.length o v 80 (t0 + 75 + 2 * c.length) = o
    rw [ht, up_ne _ _ (by omega), up_same]
  · show emM M t0 c.length o v 80 (t0 + 75 + (2 * c.length + 1)) = v
    rw [ht, show t0 + 75 + (2 * c.length + 1) = t0 + 75 + 2 * c.length + 1 by omega, up_same]
  · refine h3.of (fun j hj => ?_)
    unfold cs
    rw [ht, up_ne _ _ (by omega), up_ne _ _ (by omega)]
theorem PS.pu {M : MT} {t0 : Nat} {pl : List Int} {c : List (Int × Int)} (h : PS M t0 pl c) (o : Int) : PS (puM M pl.length o) t0 (o :: pl) c ∧ FR t0 M (puM M pl.length o) ∧ (∀ a, a ∉ [77, 82] → puM M pl.length o a = M a) ∧ (∀ j, j ≠ 17 → puM M pl.length o 77 j = M 77 j) := by
  obtain ⟨h1, h2, h3, h4, h5⟩ := h
  have ho : ∀ j, j ≠ 17 → puM M pl.length o 77 j = M 77 j := fun j hj => by unfold puM; rw [up_same, up_ne _ _ hj]
  have ht : puM M pl.length o 82 = up (M 82) pl.length o := by unfold puM; rw [up_ne _ _ (by decide), up_same]
  have hf : ∀ a, a ∉ [77, 82] → puM M pl.length o a = M a := fun a ha => by
    unfold puM
    rw [up_ne _ _ (fun e => ha (by rw [e]; decide)), up_ne _ _ (fun e => ha (by rw [e]; decide))]
  have hx : puM M pl.length o 80 = M 80 := hf 80 (by decide)
  refine ⟨⟨by rw [ho 12 (by decide)]; exact h1, by rw [ho 14 (by decide)]; exact h2, ?_, by unfold puM; rw [up_same, up_same]; rfl, ?_, ?_⟩, ⟨fun j _ b _ _ => ho j b, fun j hj => by rw [hx]⟩, hf, ho⟩
  · unfold cs; rw [hx]; exact h3
  · rw [ht, up_same]
  · rw [ht]
    exact h5.of (fun j hj => up_ne _ _ (by omega))
def opn : List Int → Nat
  | [] => 0
  | x :: xs => opn xs + if x = 40 ∨ x = 2 then 1 else 0
def stl (least : Int) : List Int → List (Int × Int) → List Int × List (Int × Int)
  | [], c => ([], c)
  | x :: xs, c => if x < 40 ∧ least ≤ x then stl least xs ((x, 0) :: c) else (x :: xs, c)
def whl : List Int → List (Int × Int) → List Int × List (Int × Int)
  | [], c => ([], c)
  | x :: xs, c => if x = 2 then whl xs ((2, 0) :: c) else (x :: xs, c)
theorem PS.pop {M : MT} {t0 : Nat} {x : Int} {pl : List Int} {c : List (Int × Int)} (h : PS M t0 (x :: pl) c) {M1 : MT} (h1 : M1 80 = M 80) (h2 : M1 82 = M 82) (h3 : M1 77 12 = M 77 12) (h4 : M1 77 14 = M 77 14) (h5 : M1 77 17 = pl.length) : PS M1 t0 pl c := by
  obtain ⟨q1, q2, q3, q4, q5⟩ := h
  exact ⟨h3.trans q1, h4.trans q2, by unfold cs; rw [h1]; exact q3, h5, by rw [h2]; exact q5.2⟩
/-- numbers that stand on the pile -/
def okI (l : List Int) : Prop := ∀ x ∈ l, InR x

theorem m_whole (t0 o : Nat) (pl : List Int) (c : List (Int × Int)) (ht : t0 ≤ 2040) (hl : pl.length + c.length ≤ 301) (hp : pl.length ≤ 160) (hi : okI pl) (S : ST) (M : MT) (hps : PS M t0 pl c) (h18 : M 77 18 = ((o + opn pl : Nat) : Int)) : Ct E1 yX12_whole cX12_whole 1 none rm_X12_whole [.ref 77] S M (Qn [77, 80] S M (fun M1 => PS M1 t0 (whl pl c).1 (whl pl c).2 ∧ M1 77 18 = ((o + opn (whl pl c).1 : Nat) : Int) ∧ M1 77 19 = 1 ∧ FR t0 M M1)) := by
  refine Ct.mk [.ref 77] (by decide) rfl (Nat.le_of_ble_eq_true rfl) (fun X K => ?_)
  have loop : ∀ (pl : List Int) (c : List (Int × Int)) (M1 : MT), pl.length + c.length ≤ 301 → pl.length ≤ 160 → okI pl → PS M1 t0 pl c → M1 77 18 = ((o + opn pl : Nat) : Int) → M1 77 19 = 1 → FR t0 M M1 → (∀ a, a ∉ [77, 80] → M1 a = M a) → (∀ M2 : MT, PS M2 t0 (whl pl c).1 (whl pl c).2 → M2 77 18 = ((o + opn (whl pl c).1 : Nat) : Int) → M2 77 19 = 1 → FR t0 M M2 → (∀ a, a ∉ [77, 80] → M2 a = M a) → Wp E1 X 56 [.ref 77] [] S M2) → Wp E1 X 5 [.ref 77] [] S M1 := by
    intro pl
    induction pl with
    | nil =>
      intro c M1 hl hp hi hps h18 h19 hfr hfa k
      have h17 : M1 77 17 = 0 := hps.2.2.2.1
      refine wp_aload_n (n := 6) K dX12_whole_5 rfl rfl ?_
      refine wp_getI (n := 9) K dX12_whole_6 rfl fl_X12_135 rfl (liS rfl) rfl ?_
      try simp only [up_same, up_up, up_ne, ne_eq, Nat.reduceEqDiff, not_false_eq_true, Int.reduceToNat, Int.toNat_natCast]
      refine wp_if_le (n := 12) K dX12_whole_9 rfl (tgt := 56) (by decide) ⟨by omega, by omega⟩ (fun c9 => ?_) (fun c9 => ?_)
      · exact k M1 hps h18 h19 hfr hfa
      · omega
    | cons x xs ih =>
      intro c M1 hl hp hi hps h18 h19 hfr hfa k
      have hll : (x :: xs).length = xs.length + 1 := rfl
      have h17 : M1 77 17 = ((x :: xs).length : Nat) := hps.2.2.2.1
      have hx : M1 82 xs.length = x := hps.2.2.2.2.1
      have hxr : InR x := hi x List.mem_cons_self
      have hxr2 := hxr.1
      have hxr3 := hxr.2
      refine wp_aload_n (n := 6) K dX12_whole_5 rfl rfl ?_
      refine wp_getI (n := 9) K dX12_whole_6 rfl fl_X12_135 rfl (liS rfl) rfl ?_
      try simp only [up_same, up_up, up_ne, ne_eq, Nat.reduceEqDiff, not_false_eq_true, Int.reduceToNat, Int.toNat_natCast]
      refine wp_if_le (n := 12) K dX12_whole_9 rfl (tgt := 56) (by decide) ⟨by omega, by omega⟩ (fun c9 => ?_) (fun c9 => ?_)
      · omega
      refine wp_aload_n (n := 13) K dX12_whole_12 rfl rfl ?_
      refine wp_getF (n := 16) K dX12_whole_13 rfl fl_X12_29 rfl (liS rfl) rfl rfl ?_
      refine wp_aload_n (n := 17) K dX12_whole_16 rfl rfl ?_
      refine wp_getI (n := 20) K dX12_whole_17 rfl fl_X12_135 rfl (liS rfl) rfl ?_
      try simp only [up_same, up_up, up_ne, ne_eq, Nat.reduceEqDiff, not_false_eq_true, Int.reduceToNat, Int.toNat_natCast]
      refine wp_iconst (n := 21) K dX12_whole_20 rfl ?_
      refine wp_isub (n := 22) K dX12_whole_21 rfl ?_
      rw [h17, show (((x :: xs).length : Nat) : Int) - 1 = ((xs.length : Nat) : Int) by omega]
      refine wp_iald (n := 23) K dX12_whole_22 rfl rfl (liS rfl) ⟨by omega, by omega, by omega⟩ ?_
      try simp only [up_same, up_up, up_ne, ne_eq, Nat.reduceEqDiff, not_false_eq_true, Int.reduceToNat, Int.toNat_natCast]
      rw [hx]
      refine wp_iconst (n := 24) K dX12_whole_23 rfl ?_
      refine wp_icmp_ne (n := 27) K dX12_whole_24 rfl (tgt := 56) (by decide) ⟨by omega, by omega⟩ ⟨by omega, by omega⟩ (fun c24 => ?_) (fun c24 => ?_)
      · have e : whl (x :: xs) c = (x :: xs, c) := if_neg c24
        rw [e] at k
        exact k M1 hps h18 h19 hfr hfa
      · have e : whl (x :: xs) c = whl xs ((2, 0) :: c) := if_pos c24
        rw [e] at k
        have eo : opn (x :: xs) = opn xs + 1 := by show opn xs + (if x = 40 ∨ x = 2 then 1 else 0) = _; rw [if_pos (Or.inr c24)]
        refine wp_aload_n (n := 28) K dX12_whole_27 rfl rfl ?_
        refine wp_dup (n := 29) K dX12_whole_28 rfl rfl ?_
        refine wp_getI (n := 32) K dX12_whole_29 rfl fl_X12_135 rfl (liS rfl) rfl ?_
        try simp only [up_same, up_up, up_ne, ne_eq, Nat.reduceEqDiff, not_false_eq_true, Int.reduceToNat, Int.toNat_natCast]
        refine wp_iconst (n := 33) K dX12_whole_32 rfl ?_
        refine wp_isub (n := 34) K dX12_whole_33 rfl ?_
        refine wp_putI (n := 37) K dX12_whole_34 rfl fl_X12_135 rfl (liS rfl) (Or.inl rfl) rfl rfl ?_
        try simp only [up_same, up_up, up_ne, ne_eq, Nat.reduceEqDiff, not_false_eq_true, Int.reduceToNat, Int.toNat_natCast]
        refine wp_aload_n (n := 38) K dX12_whole_37 rfl rfl ?_
        refine wp_dup (n := 39) K dX12_whole_38 rfl rfl ?_
        refine wp_getI (n := 42) K dX12_whole_39 rfl fl_X12_142 rfl (liS rfl) rfl ?_
        try simp only [up_same, up_up, up_ne, ne_eq, Nat.reduceEqDiff, not_false_eq_true, Int.reduceToNat, Int.toNat_natCast]
        refine wp_iconst (n := 43) K dX12_whole_42 rfl ?_
        refine wp_isub (n := 44) K dX12_whole_43 rfl ?_
        refine wp_putI (n := 47) K dX12_whole_44 rfl fl_X12_142 rfl (liS rfl) (Or.inl rfl) rfl rfl ?_
        try simp only [up_same, up_up, up_ne, ne_eq, Nat.reduceEqDiff, not_false_eq_true, Int.reduceToNat, Int.toNat_natCast]
        refine wp_aload_n (n := 48) K dX12_whole_47 rfl rfl ?_
        refine wp_iconst (n := 49) K dX12_whole_48 rfl ?_
        refine wp_iconst (n := 50) K dX12_whole_49 rfl ?_
        have hps := hps.pop (M1 := up M1 77 (up (up (M1 77) 17 (M1 77 17 - 1)) 18 (M1 77 18 - 1))) rfl rfl rfl rfl (by show M1 77 17 - 1 = _; omega)
        refine wp_invV_n (n := 53) K dX12_whole_50 rfl cf_X12_145 (m_emit t0 c.length 2 0 ht (by omega) _ _ hps.1 hps.2.1) rfl rfl rfl (liS rfl) rfl (by decide) ⟨Nat.le_refl _, Nat.le_refl _⟩ (Nat.le_of_ble_eq_true rfl) ?_
        refine wp_goto K dX12_whole_53 (tgt := 5) (by decide) ?_
        obtain ⟨e1, e2, e3, e4⟩ := hps.em 2 0
        refine ih ((2, 0) :: c) _ (by show _ + (c.length + 1) ≤ 301; omega) (by omega) (fun y hy => hi y (List.mem_cons_of_mem _ hy)) e1 ?_ ?_ (hfr.trans (FR.trans ?_ e2)) (fun a ha => by rw [e3 a ha, up_ne _ _ (fun q => ha (by rw [q]; decide))]; exact hfa a ha) k
        · rw [e4 18 (by decide), up_same, up_same, h18, eo]; omega
        · rw [e4 19 (by decide)]; exact h19
        · exact ⟨fun j _ b c _ => by rw [up_same, up_ne _ _ c, up_ne _ _ b], fun j _ => rfl⟩
  refine wp_aload_n (n := 1) K dX12_whole_0 rfl rfl ?_
  refine wp_iconst (n := 2) K dX12_whole_1 rfl ?_
  refine wp_putZ (n := 5) K dX12_whole_2 rfl fl_X12_138 rfl (liS rfl) (Or.inl rfl) rfl rfl (by first | exact Or.inl rfl | exact Or.inr rfl) ?_
  try simp only [up_same, up_up, up_ne, ne_eq, Nat.reduceEqDiff, not_false_eq_true, Int.reduceToNat, Int.toNat_natCast]
  refine loop pl c _ hl hp hi ?_ h18 rfl ⟨fun j _ _ _ d => by rw [up_same, up_ne _ _ d], fun j _ => rfl⟩ (fun a ha => up_ne _ _ (fun q => ha (by rw [q]; decide))) ?_
  · exact hps
  intro M2 q1 q2 q3 q4 q5
  refine ret_qn K dX12_whole_56 rfl ?_ ?_ ⟨Nat.le_refl _, Nat.le_refl _⟩
  · exact q5
  · exact ⟨q1, q2, q3, q4⟩
