/-! what holds of every state that reading comes to -/
def cAt (c : List (Int × Int)) (i : Nat) : Int × Int := c.getD (c.length - 1 - i) (0, 0)
theorem cAt_lt (x : Int × Int) (c : List (Int × Int)) {i : Nat} (h : i < c.length) : cAt (x :: c) i = cAt c i := by
  unfold cAt
  rw [show (x :: c).length - 1 - i = (c.length - 1 - i) + 1 by simp; omega]; rfl
theorem cAt_eq (x : Int × Int) (c : List (Int × Int)) : cAt (x :: c) c.length = x := by
  unfold cAt
  rw [show (x :: c).length - 1 - c.length = 0 by simp]; rfl
def gS (c : List (Int × Int)) (fr : Nat) : Nat → Int × Int := fun i => cAt c (fr + i)
theorem dpRun_cg {g g' : Nat → Int × Int} : ∀ len, (∀ i, i < len → g i = g' i) → dpRun g len = dpRun g' len := by
  intro len
  induction len with
  | zero => intro _; rfl
  | succ n ih => intro h; show dpStep (g n).1 (dpRun g n) = dpStep (g' n).1 (dpRun g' n); rw [ih (fun i hi => h i (by omega)), h n (by omega)]
def OKS (so : Nat) (c : List (Int × Int)) (fr e : Nat) : Prop := fr ≤ e ∧ e ≤ c.length ∧ (∀ i, i < e - fr → okOp2 (gS c fr i).1 (gS c fr i).2 (dpRun (gS c fr) i)) ∧ (∀ i, i ≤ e - fr → (dpRun (gS c fr) i).1 + (dpRun (gS c fr) i).2 ≤ 38) ∧ okNm (gS c fr) (e - fr) (decide (so = 2))
theorem OKS.cons {so : Nat} {c : List (Int × Int)} {fr e : Nat} (h : OKS so c fr e) (x : Int × Int) : OKS so (x :: c) fr e ∧ dpRun (gS (x :: c) fr) (e - fr) = dpRun (gS c fr) (e - fr) := by
  obtain ⟨h1, h2, h3, h4, h5⟩ := h
  have hg : ∀ i, i < e - fr → gS (x :: c) fr i = gS c fr i := fun i hi => cAt_lt x c (by omega)
  have hd : ∀ i, i ≤ e - fr → dpRun (gS (x :: c) fr) i = dpRun (gS c fr) i := fun i hi => dpRun_cg i (fun k hk => hg k (by omega))
  refine ⟨⟨h1, by simp; omega, fun i hi => ?_, fun i hi => ?_, fun i hi => ?_⟩, hd _ (Nat.le_refl _)⟩
  · rw [hg i hi, hd i (by omega)]; exact h3 i hi
  · rw [hd i hi]; exact h4 i hi
  · rw [hg i hi]; exact h5 i hi
def DG (c : List (Int × Int)) (fr : Nat) : Nat × Nat := dpRun (gS c fr) (c.length - fr)
theorem OKS.sum {so : Nat} {c : List (Int × Int)} {fr : Nat} (h : OKS so c fr c.length) : (DG c fr).1 + (DG c fr).2 ≤ 38 := h.2.2.2.1 _ (Nat.le_refl _)
theorem OKS.push {so : Nat} {c : List (Int × Int)} {fr : Nat} (x : Int × Int) (h : OKS so c fr c.length) (ho : okOp2 x.1 x.2 (DG c fr)) (hd : (dpStep x.1 (DG c fr)).1 + (dpStep x.1 (DG c fr)).2 ≤ 38) (hn : x.1 = 1 → if so = 2 then (x.2 ≤ 3 ∨ x.2 = 7) else x.2 ≤ 6) : OKS so (x :: c) fr (x :: c).length ∧ DG (x :: c) fr = dpStep x.1 (DG c fr) := by
  obtain ⟨⟨g1, g2, g3, g4, g5⟩, ge⟩ := h.cons x
  have hl : (x :: c).length - fr = (c.length - fr) + 1 := by have := h.1; simp; omega
  have hx : gS (x :: c) fr (c.length - fr) = x := by
    show cAt (x :: c) (fr + (c.length - fr)) = x
    rw [show fr + (c.length - fr) = c.length by have := h.1; omega]; exact cAt_eq x c
  have he : DG (x :: c) fr = dpStep x.1 (DG c fr) := by
    show dpRun (gS (x :: c) fr) ((x :: c).length - fr) = _
    rw [hl]
    show dpStep (gS (x :: c) fr (c.length - fr)).1 (dpRun (gS (x :: c) fr) (c.length - fr)) = _
    rw [hx, ge]; rfl
  refine ⟨⟨by simp; omega, Nat.le_refl _, fun i hi => ?_, fun i hi => ?_, fun i hi h1 => ?_⟩, he⟩
  · rw [hl] at hi
    rcases Nat.lt_or_ge i (c.length - fr) with q | q
    · exact g3 i q
    · rw [show i = c.length - fr by omega, hx, ge]; exact ho
  · rw [hl] at hi
    rcases Nat.lt_or_ge i (c.length - fr + 1) with q | q
    · exact g4 i (by omega)
    · have e1 : i = (x :: c).length - fr := by omega
      rw [e1]
      show (DG (x :: c) fr).1 + (DG (x :: c) fr).2 ≤ 38
      rw [he]; exact hd
  · rw [hl] at hi
    rcases Nat.lt_or_ge i (c.length - fr) with q | q
    · exact g5 i q h1
    · rw [show i = c.length - fr by omega, hx] at h1 ⊢
      have := hn h1
      by_cases h2 : so = 2
      · rw [if_pos h2] at this; rw [decide_eq_true h2, if_pos rfl]; exact this
      · rw [if_neg h2] at this; rw [decide_eq_false h2, if_neg (by decide)]; exact this
def vl : List Int → Nat
  | [] => 0
  | x :: xs => vl xs + if 3 ≤ x ∧ x ≤ 6 then 1 else 0
theorem vl_le : ∀ pl : List Int, vl pl ≤ pl.length := by
  intro pl
  induction pl with
  | nil => exact Nat.le_refl _
  | cons x xs ih => show vl xs + _ ≤ xs.length + 1; split <;> omega
theorem OKS_whl {so fr : Nat} : ∀ (pl : List Int) (c : List (Int × Int)), OKS so c fr c.length → 1 ≤ (DG c fr).1 → OKS so (whl pl c).2 fr (whl pl c).2.length ∧ DG (whl pl c).2 fr = DG c fr ∧ vl (whl pl c).1 = vl pl := by
  intro pl
  induction pl with
  | nil => intro c h _; exact ⟨h, rfl, rfl⟩
  | cons x xs ih =>
    intro c h h1
    by_cases e : x = 2
    · have e1 : whl (x :: xs) c = whl xs ((2, 0) :: c) := if_pos e
      rw [e1]
      have hs : dpStep 2 (DG c fr) = DG c fr := rfl
      have hp := h.push (2, 0) (by unfold okOp2; omega) (by show (dpStep 2 (DG c fr)).1 + (dpStep 2 (DG c fr)).2 ≤ 38; rw [hs]; exact h.sum) (fun q => absurd q (by decide))
      have hD : DG ((2, 0) :: c) fr = DG c fr := hp.2
      obtain ⟨i1, i2, i3⟩ := ih ((2, 0) :: c) hp.1 (by rw [hD]; exact h1)
      refine ⟨i1, i2.trans hD, ?_⟩
      rw [i3, e]; rfl
    · have e1 : whl (x :: xs) c = (x :: xs, c) := if_neg e
      rw [e1]; exact ⟨h, rfl, rfl⟩
theorem OKS_stl {so fr : Nat} (sl : Int) (hsl : sl = 3 ∨ sl = 5) (k : Nat) : ∀ (pl : List Int) (c : List (Int × Int)), okP pl → OKS so c fr c.length → (DG c fr).1 = vl pl + 1 + k → OKS so (stl sl pl c).2 fr (stl sl pl c).2.length ∧ DG (stl sl pl c).2 fr = (vl (stl sl pl c).1 + 1 + k, (DG c fr).2) := by
  intro pl
  induction pl with
  | nil => intro c _ h hd; exact ⟨h, Prod.ext hd rfl⟩
  | cons x xs ih =>
    intro c hp h hd
    by_cases e : x < 40 ∧ sl ≤ x
    · have e1 : stl sl (x :: xs) c = stl sl xs ((x, 0) :: c) := if_pos e
      rw [e1]
      have hx : 3 ≤ x ∧ x ≤ 6 := by
        have := okP.x hp x List.mem_cons_self
        unfold okX at this; omega
      have hv : vl (x :: xs) = vl xs + 1 := by show vl xs + _ = _; rw [if_pos hx]
      rw [hv] at hd
      have hs : dpStep x (DG c fr) = ((DG c fr).1 - 1, (DG c fr).2) := by unfold dpStep; rw [if_neg (by omega), if_neg (by omega), if_pos (by omega)]
      have hsum := h.sum
      have hq := h.push (x, 0) (by unfold okOp2; dsimp only; omega) (by show (dpStep x (DG c fr)).1 + (dpStep x (DG c fr)).2 ≤ 38; rw [hs]; dsimp only; omega) (fun q => by dsimp only at q; omega)
      have hD : DG ((x, 0) :: c) fr = ((DG c fr).1 - 1, (DG c fr).2) := hq.2.trans hs
      obtain ⟨i1, i2⟩ := ih ((x, 0) :: c) hp.1 hq.1 (by rw [hD]; dsimp only; omega)
      refine ⟨i1, i2.trans ?_⟩
      rw [hD]
    · have e1 : stl sl (x :: xs) c = (x :: xs, c) := if_neg e
      rw [e1]; exact ⟨h, Prod.ext hd rfl⟩
theorem OKS_nts {so fr m : Nat} (hm : 1 ≤ m) : ∀ (no : Nat) (c : List (Int × Int)), OKS so c fr c.length → DG c fr = (0, m) → OKS so (nts no c) fr (nts no c).length ∧ DG (nts no c) fr = (0, m) := by
  intro no
  induction no with
  | zero => intro c h hd; exact ⟨h, hd⟩
  | succ no ih =>
    intro c h hd
    have hs : dpStep 20 (DG c fr) = DG c fr := rfl
    have hq := h.push (20, 0) (by unfold okOp2; rw [hd]; dsimp only; omega) (by show (dpStep 20 (DG c fr)).1 + (dpStep 20 (DG c fr)).2 ≤ 38; rw [hs]; exact h.sum) (fun q => absurd q (by decide))
    exact ih ((20, 0) :: c) hq.1 (hq.2.trans (hs.trans hd))
theorem OKS_emI {so fr m : Nat} (a : Bool) (o : Int) (ho : 21 ≤ o ∧ o ≤ 22) (hm : b1 a + 1 ≤ m) (c : List (Int × Int)) (h : OKS so c fr c.length) (hd : DG c fr = (0, m)) : OKS so (emI a o c) fr (emI a o c).length ∧ DG (emI a o c) fr = (0, m - b1 a) := by
  cases a with
  | false => exact ⟨h, hd⟩
  | true =>
    have hm2 : 2 ≤ m := hm
    have hs : dpStep o (DG c fr) = (0, m - 1) := by rw [hd]; unfold dpStep; rw [if_neg (by omega), if_neg (by omega), if_neg (by omega), if_neg (by omega), if_neg (by omega)]
    have hsum := h.sum
    rw [hd] at hsum
    have hq := h.push (o, 0) (by unfold okOp2; rw [hd]; dsimp only; omega) (by show (dpStep o (DG c fr)).1 + (dpStep o (DG c fr)).2 ≤ 38; rw [hs]; dsimp only at hsum ⊢; omega) (fun q => by dsimp only at q; omega)
    exact ⟨hq.1, hq.2.trans hs⟩
/-- a clause that was read -/
def okCl (c : List (Int × Int)) (s f e : Int) : Prop := (0 ≤ s ∧ s ≤ 5) ∧ (s ≤ 2 → ∃ sN fN eN : Nat, s = (sN : Int) ∧ f = (fN : Int) ∧ e = (eN : Int) ∧ eN ≤ 299 ∧ OKS sN c fN eN ∧ dpRun (gS c fN) (eN - fN) = if sN = 0 then (1, 0) else (0, 1)) ∧ (3 ≤ s → 0 ≤ f ∧ f ≤ 11) ∧ (s = 5 → 0 ≤ e ∧ e ≤ 9)
theorem okCl.cons {c : List (Int × Int)} {s f e : Int} (h : okCl c s f e) (x : Int × Int) : okCl (x :: c) s f e := by
  refine ⟨h.1, fun q => ?_, h.2.2⟩
  obtain ⟨sN, fN, eN, h1, h2, h3, h4, h5, h6⟩ := h.2.1 q
  exact ⟨sN, fN, eN, h1, h2, h3, h4, (h5.cons x).1, (h5.cons x).2.trans h6⟩
def CLS (c : List (Int × Int)) (cR : Nat → Int) (nc : Nat) : Prop := ∀ k, k < nc → okCl c (cR (3 * k)) (cR (3 * k + 1)) (cR (3 * k + 2))
theorem CLS.cons {c : List (Int × Int)} {cR : Nat → Int} {nc : Nat} (h : CLS c cR nc) (x : Int × Int) : CLS (x :: c) cR nc := fun k hk => (h k hk).cons x
theorem CLS_whl {cR : Nat → Int} {nc : Nat} : ∀ (pl : List Int) (c : List (Int × Int)), CLS c cR nc → CLS (whl pl c).2 cR nc := by
  intro pl
  induction pl with
  | nil => intro c h; exact h
  | cons x xs ih =>
    intro c h
    show CLS (if x = 2 then whl xs ((2, 0) :: c) else (x :: xs, c)).2 cR nc
    split
    · exact ih _ (h.cons _)
    · exact h
theorem CLS_stl {cR : Nat → Int} {nc : Nat} (sl : Int) : ∀ (pl : List Int) (c : List (Int × Int)), CLS c cR nc → CLS (stl sl pl c).2 cR nc := by
  intro pl
  induction pl with
  | nil => intro c h; exact h
  | cons x xs ih =>
    intro c h
    show CLS (if x < 40 ∧ sl ≤ x then stl sl xs ((x, 0) :: c) else (x :: xs, c)).2 cR nc
    split
    · exact ih _ (h.cons _)
    · exact h
theorem CLS_nts {cR : Nat → Int} {nc : Nat} : ∀ (no : Nat) (c : List (Int × Int)), CLS c cR nc → CLS (nts no c) cR nc := by
  intro no
  induction no with
  | zero => intro c h; exact h
  | succ no ih => intro c h; exact ih _ (h.cons _)
theorem CLS_emI {cR : Nat → Int} {nc : Nat} {c : List (Int × Int)} (h : CLS c cR nc) (a : Bool) (o : Int) : CLS (emI a o c) cR nc := by
  cases a
  · exact h
  · exact h.cons _
theorem CLS_oneP {cR : Nat → Int} {nc : Nat} {c : List (Int × Int)} (h : CLS c cR nc) (k : Nat) (v : Int) (pl : List Int) : CLS (oneP k v pl c).2 cR nc := by
  unfold oneP
  split
  · exact CLS_whl _ _ (h.cons _)
  · split
    · exact CLS_whl _ _ (h.cons _)
    · split
      · exact h
      · exact h
theorem CLS_behP {cR : Nat → Int} {nc : Nat} {c : List (Int × Int)} (h : CLS c cR nc) (k : Nat) (pl : List Int) : CLS (behP k pl c).2 cR nc := by
  unfold behP
  split
  · exact CLS_stl _ _ _ h
  · split
    · exact CLS_stl _ _ _ h
    · split
      · exact CLS_stl _ _ _ h
      · split
        · exact CLS_stl _ _ _ h
        · exact CLS_whl _ _ (CLS_stl _ _ _ h)
theorem CLS_up {cR : Nat → Int} {nc : Nat} {c : List (Int × Int)} (h : CLS c cR nc) {j : Nat} (hj : 3 * nc ≤ j) (v : Int) : CLS c (up cR j v) nc := fun k hk => by
  rw [up_ne _ _ (by omega), up_ne _ _ (by omega), up_ne _ _ (by omega)]; exact h k hk
def bc (cm : Int) : Nat := b1' (decide (cm ≠ 0))
theorem b1'_r (a : Bool) : b1' a ≤ 1 := by cases a <;> decide
def IVm (md so : Nat) (pl : List Int) (c : List (Int × Int)) (cm : Int) (no : Nat) (an od : Bool) (fr : Nat) : Prop :=
  OKS so c fr c.length ∧ okP pl ∧ no + opn pl ≤ 8 ∧ (cm = 0 ∨ (10 ≤ cm ∧ cm ≤ 15)) ∧ (so = 0 → no = 0 ∧ cm = 0 ∧ an = false ∧ od = false) ∧
  (md = 1 ∧ pl = [] ∧ cm = 0 ∧ so ≠ 0 ∧ DG c fr = (0, b1' an + b1' od) ∨ md = 2 ∧ DG c fr = (vl pl + bc cm, b1' an + b1' od) ∨ md = 3 ∧ pl.head? ≠ some 2 ∧ DG c fr = (vl pl + 1 + bc cm, b1' an + b1' od) ∨ md = 4 ∧ pl = [] ∧ DG c fr = (1 + bc cm, b1' an + b1' od) ∨ md = 5 ∧ pl = [] ∧ cm = 0 ∧ no = 0 ∧ so ≠ 0 ∧ DG c fr = (0, b1' an + b1' od + 1) ∨ md = 6 ∧ pl = [] ∧ DG c fr = if so = 0 then (1, 0) else (0, 1))
def IVC (K : Nat → Nat) (md t so : Nat) (pl : List Int) (c : List (Int × Int)) (cm : Int) (no : Nat) (an od : Bool) (fr : Nat) (cR : Nat → Int) (nc : Nat) : Prop :=
  (∀ j, j < t → K j ≠ 41) ∧ CLS c cR nc ∧ nc ≤ 24 ∧
  ((md = 0 ∨ md = 9) ∧ c.length ≤ t ∨ (1 ≤ md ∧ md ≤ 6) ∧ so ≤ 2 ∧ nc < 24 ∧ cR (3 * nc) = (so : Int) ∧ lnW pl c cm no an od + 1 ≤ t ∧ IVm md so pl c cm no an od fr ∨
   (3 ≤ so ∧ so ≤ 5) ∧ nc < 24 ∧ cR (3 * nc) = (so : Int) ∧ c.length + 1 ≤ t ∧ (md = 7 ∨ so = 5 ∧ (md = 10 ∨ md = 11) ∧ (0 ≤ cR (3 * nc + 1) ∧ cR (3 * nc + 1) ≤ 9) ∨ md = 6 ∧ (0 ≤ cR (3 * nc + 1) ∧ cR (3 * nc + 1) ≤ 11) ∧ (so = 5 → 0 ≤ cR (3 * nc + 2) ∧ cR (3 * nc + 2) ≤ 9)) ∨ md = 8)
def INV (K : Nat → Nat) (x : Cf) : Prop := IVC K x.1 x.2.1 x.2.2.2.1 x.2.2.2.2.1 x.2.2.2.2.2.1 x.2.2.2.2.2.2.1 x.2.2.2.2.2.2.2.1 x.2.2.2.2.2.2.2.2.1 x.2.2.2.2.2.2.2.2.2.1 x.2.2.2.2.2.2.2.2.2.2.1 x.2.2.2.2.2.2.2.2.2.2.2.1 x.2.2.2.2.2.2.2.2.2.2.2.2.1
theorem INV.flt {K : Nat → Nat} {t f nc on : Nat} {cR : Nat → Int} (h : ∀ j, j < t → K j ≠ 41) : INV K (flt t f cR nc on) := ⟨h, fun k hk => absurd hk (by show ¬ k < 0; omega), Nat.zero_le _, Or.inr (Or.inr (Or.inr rfl))⟩
