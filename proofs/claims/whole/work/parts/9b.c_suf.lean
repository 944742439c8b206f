/-! what was read stays -/
theorem suf_whl : ∀ (pl : List Int) (c : List (Int × Int)), c <:+ (whl pl c).2 := by
  intro pl
  induction pl with
  | nil => intro c; exact List.suffix_refl _
  | cons x xs ih =>
    intro c
    show c <:+ (if x = 2 then whl xs ((2, 0) :: c) else (x :: xs, c)).2
    split
    · exact (List.suffix_cons _ _).trans (ih _)
    · exact List.suffix_refl _
theorem suf_stl (sl : Int) : ∀ (pl : List Int) (c : List (Int × Int)), c <:+ (stl sl pl c).2 := by
  intro pl
  induction pl with
  | nil => intro c; exact List.suffix_refl _
  | cons x xs ih =>
    intro c
    show c <:+ (if x < 40 ∧ sl ≤ x then stl sl xs ((x, 0) :: c) else (x :: xs, c)).2
    split
    · exact (List.suffix_cons _ _).trans (ih _)
    · exact List.suffix_refl _
theorem suf_nts : ∀ (no : Nat) (c : List (Int × Int)), c <:+ nts no c := by
  intro no
  induction no with
  | zero => intro c; exact List.suffix_refl _
  | succ no ih => intro c; exact (List.suffix_cons _ _).trans (ih _)
theorem suf_oneP (k : Nat) (v : Int) (pl : List Int) (c : List (Int × Int)) : c <:+ (oneP k v pl c).2 := by
  unfold oneP
  split
  · exact (List.suffix_cons _ _).trans (suf_whl _ _)
  · split
    · exact (List.suffix_cons _ _).trans (suf_whl _ _)
    · split <;> exact List.suffix_refl _
theorem suf_behP (k : Nat) (pl : List Int) (c : List (Int × Int)) : c <:+ (behP k pl c).2 := by
  unfold behP
  (repeat' split) <;> first | exact suf_stl _ _ _ | exact (suf_stl _ _ _).trans (suf_whl _ _)
theorem suf_if (a : Bool) (x : Int × Int) (c : List (Int × Int)) : c <:+ (if a = true then x :: c else c) := by
  split
  · exact List.suffix_cons _ _
  · exact List.suffix_refl _
def SUF (c0 : List (Int × Int)) (x : Cf) : Prop := x.1 = 8 ∨ c0 <:+ x.2.2.2.2.2.1
theorem SUF.ite {c0 : List (Int × Int)} {p : Prop} [Decidable p] {a b : Cf} (h1 : SUF c0 a) (h2 : SUF c0 b) : SUF c0 (if p then a else b) := by
  split
  · exact h1
  · exact h2
theorem SUF.stp {K : Nat → Nat} {V : Nat → Int} {c0 : List (Int × Int)} {x : Cf} (h : SUF c0 x) : SUF c0 (stp K V x) := by
  obtain ⟨md, t, f, so, pl, c, cm, no, an, od, fr, cR, nc, on⟩ := x
  rcases h with h | h
  · have h : md = 8 := h
    subst h; exact Or.inl rfl
  · have h : c0 <:+ c := h
    show SUF c0 (sp K V md t f so pl c cm no an od fr cR nc on)
    unfold sp
    (repeat' apply SUF.ite) <;> first | exact Or.inl rfl | exact Or.inr h | exact Or.inr (h.trans (suf_oneP _ _ _ _)) | exact Or.inr (h.trans (suf_behP _ _ _)) | exact Or.inr (h.trans (suf_stl _ _ _)) | exact Or.inr (h.trans ((List.suffix_cons _ _).trans (suf_nts _ _))) | exact Or.inr (h.trans (suf_if _ _ _)) | exact Or.inr (h.trans ((suf_if _ _ _).trans (suf_if _ _ _)))
theorem SUF.rch {K : Nat → Nat} {V : Nat → Int} {c0 : List (Int × Int)} {x y : Cf} (h : SUF c0 x) (hr : Rch K V x y) : SUF c0 y := by
  obtain ⟨k, rfl⟩ := hr
  induction k generalizing x with
  | zero => exact h
  | succ k ih => exact ih h.stp
theorem cAt_suf {c0 c : List (Int × Int)} (h : c0 <:+ c) {i : Nat} (hi : i < c0.length) : cAt c i = cAt c0 i := by
  obtain ⟨p, rfl⟩ := h
  induction p with
  | nil => rfl
  | cons x p ih => rw [List.cons_append, cAt_lt x _ (by rw [List.length_append]; omega)]; exact ih
theorem PR_at {r : Nat → Int} : ∀ {l : List Int}, PR r l → ∀ i, i < l.length → r i = l.getD (l.length - 1 - i) 0 := by
  intro l
  induction l with
  | nil => intro _ i hi; exact absurd hi (by simp)
  | cons x xs ih =>
    intro h i hi
    rcases Nat.lt_or_ge i xs.length with q | q
    · rw [show (x :: xs).length - 1 - i = (xs.length - 1 - i) + 1 by simp; omega]
      exact ih h.2 i q
    · have e : i = xs.length := by simp at hi; omega
      subst e
      rw [show (x :: xs).length - 1 - xs.length = 0 by simp]
      exact h.1
theorem cE_at {r : Nat → Int} {c : List (Int × Int)} {fr : Nat} (hfr : fr ≤ c.length) (h : PR r (cE c fr)) {i : Nat} (hi : i < c.length - fr) : r i = encF (gS c fr i) := by
  have hl := cE_len c hfr
  rw [PR_at h i (by omega), hl]
  unfold cE gS cAt
  rw [show c.length - 1 - (fr + i) = c.length - fr - 1 - i by omega, List.getD_eq_getElem?_getD, List.getD_eq_getElem?_getD, List.getElem?_map, List.getElem?_take, if_pos (by omega), List.getElem?_eq_getElem (by omega)]
  rfl
