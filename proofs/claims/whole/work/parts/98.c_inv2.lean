section IV
variable {K : Nat → Nat} {V : Nat → Int} {t f so : Nat} {pl : List Int} {c : List (Int × Int)} {cm : Int} {no : Nat} {an od : Bool} {fr : Nat} {cR : Nat → Int} {nc on : Nat}
theorem INV.of {md : Nat} (h : IVC K md t so pl c cm no an od fr cR nc) : INV K (cf md t f so pl c cm no an od fr cR nc on) := h
theorem nx41 (h : ∀ j, j < t → K j ≠ 41) (hk : K t ≠ 41) : ∀ j, j < t + 1 → K j ≠ 41 := fun j hj => by
  rcases Nat.lt_or_ge j t with q | q
  · exact h j q
  · rw [show j = t by omega]; exact hk
theorem IV0 (h : IVC K 0 t so pl c cm no an od fr cR nc) : INV K (stp K V (cf 0 t f so pl c cm no an od fr cR nc on)) := by
  obtain ⟨h1, h2, h3, h4⟩ := h
  have hl : c.length ≤ t := by
    rcases h4 with ⟨_, q⟩ | ⟨q, _⟩ | ⟨_, _, _, _, q⟩ | q <;> first | exact q | omega
  by_cases k1 : K t = 41
  · rw [s0_e k1]
    exact INV.of ⟨h1, h2, h3, Or.inl ⟨Or.inr rfl, hl⟩⟩
  by_cases k2 : 8 ≤ K t ∧ K t ≤ 13
  · by_cases k3 : K t ≤ 10 ∧ on / 2 ^ (K t - 8) % 2 = 1
    · rw [s0_4 k2 k3]; exact INV.flt h1
    by_cases k4 : nc = 24
    · rw [s0_6 k2 k3 k4]; exact INV.flt h1
    obtain ⟨s, es⟩ : ∃ s, K t = s + 8 := ⟨K t - 8, by omega⟩
    have e8 : K t - 8 = s := by omega
    rw [s0_y (s := s) (by omega) es (by rw [e8] at k3; intro q; exact k3 ⟨by omega, q.2⟩) k4]
    refine INV.of ⟨nx41 h1 k1, CLS_up h2 (Nat.le_refl _) _, h3, ?_⟩
    have hok : OKS s c c.length c.length := by
      refine ⟨Nat.le_refl _, Nat.le_refl _, fun i hi => by omega, fun i hi => ?_, fun i hi => by omega⟩
      rw [show i = 0 by omega]; exact Nat.zero_le _
    have hD : DG c c.length = (0, 0) := by unfold DG; rw [Nat.sub_self]; rfl
    rcases (show s = 0 ∨ s = 1 ∨ s = 2 ∨ 3 ≤ s by omega) with q | q | q | q
    · subst q
      refine Or.inr (Or.inl ⟨by decide, by decide, by omega, up_same _ _ _, by show c.length + 0 + 0 + 0 + 0 + 0 + 1 ≤ t + 1; omega, hok, trivial, by decide, Or.inl rfl, fun _ => ⟨rfl, rfl, rfl, rfl⟩, Or.inr (Or.inl ⟨rfl, hD⟩)⟩)
    · subst q
      refine Or.inr (Or.inl ⟨by decide, by decide, by omega, up_same _ _ _, by show c.length + 0 + 0 + 0 + 0 + 0 + 1 ≤ t + 1; omega, hok, trivial, by decide, Or.inl rfl, fun q => absurd q (by decide), Or.inl ⟨rfl, rfl, rfl, by decide, hD⟩⟩)
    · subst q
      refine Or.inr (Or.inl ⟨by decide, by decide, by omega, up_same _ _ _, by show c.length + 0 + 0 + 0 + 0 + 0 + 1 ≤ t + 1; omega, hok, trivial, by decide, Or.inl rfl, fun q => absurd q (by decide), Or.inl ⟨rfl, rfl, rfl, by decide, hD⟩⟩)
    · have e7 : bgM s = 7 := by unfold bgM; rw [if_neg (by omega), if_neg (by omega)]
      exact Or.inr (Or.inr (Or.inl ⟨⟨q, by show s ≤ 5; omega⟩, by show nc < 24; omega, up_same _ _ _, by show c.length + 1 ≤ t + 1; omega, Or.inl e7⟩))
  · rw [s0_1 k1 k2]; exact INV.flt h1
/-- within a law -/
theorem IVC.law {md : Nat} (hm : md = 1 ∨ md = 2 ∨ md = 3 ∨ md = 4 ∨ md = 5) (h : IVC K md t so pl c cm no an od fr cR nc) : so ≤ 2 ∧ nc < 24 ∧ cR (3 * nc) = (so : Int) ∧ lnW pl c cm no an od + 1 ≤ t ∧ IVm md so pl c cm no an od fr := by
  obtain ⟨h1, h2, h3, h4⟩ := h
  rcases h4 with ⟨q, _⟩ | ⟨q1, q2, q3, q4, q5, q6⟩ | ⟨_, _, _, _, q⟩ | q
  · omega
  · exact ⟨q2, q3, q4, q5, q6⟩
  · omega
  · omega
theorem IV1 (h : IVC K 1 t so pl c cm no an od fr cR nc) : INV K (stp K V (cf 1 t f so pl c cm no an od fr cR nc on)) := by
  obtain ⟨l1, l2, l3, l4, l5⟩ := h.law (Or.inl rfl)
  obtain ⟨h1, h2, h3, -⟩ := h
  obtain ⟨m1, m2, m3, m4, m5, m6⟩ := l5
  obtain ⟨e1, e2, e3, e4⟩ : pl = [] ∧ cm = 0 ∧ so ≠ 0 ∧ DG c fr = (0, b1' an + b1' od) := by
    rcases m6 with ⟨_, q⟩ | ⟨q, _⟩ | ⟨q, _⟩ | ⟨q, _⟩ | ⟨q, _⟩ | ⟨q, _⟩ <;> first | exact q | omega
  subst e1; subst e2
  by_cases k : K t = 17
  · by_cases k8 : no = 8
    · rw [s1_8 k k8]; exact INV.flt h1
    · rw [s1_y k k8]
      refine INV.of ⟨nx41 h1 (by omega), h2, h3, Or.inr (Or.inl ⟨by decide, l1, l2, l3, ?_, m1, m2, ?_, m4, fun q => absurd q e3, Or.inl ⟨rfl, rfl, rfl, e3, e4⟩⟩)⟩
      · show lnW [] c 0 (no + 1) an od + 1 ≤ t + 1
        unfold lnW at l4 ⊢; omega
      · have : opn [] = 0 := rfl
        show no + 1 + opn [] ≤ 8
        omega
  · rw [s1_n k]
    exact INV.of ⟨h1, h2, h3, Or.inr (Or.inl ⟨by decide, l1, l2, l3, l4, m1, m2, m3, m4, m5, Or.inr (Or.inl ⟨rfl, by rw [show vl [] + bc 0 = 0 from rfl]; exact e4⟩)⟩)⟩
theorem IV2 (hV : ∀ t, 0 ≤ V t) (h : IVC K 2 t so pl c cm no an od fr cR nc) : INV K (stp K V (cf 2 t f so pl c cm no an od fr cR nc on)) := by
  obtain ⟨l1, l2, l3, l4, l5⟩ := h.law (Or.inr (Or.inl rfl))
  obtain ⟨h1, h2, h3, -⟩ := h
  obtain ⟨m1, m2, m3, m4, m5, m6⟩ := l5
  have e4 : DG c fr = (vl pl + bc cm, b1' an + b1' od) := by
    rcases m6 with ⟨q, _⟩ | ⟨_, q⟩ | ⟨q, _⟩ | ⟨q, _⟩ | ⟨q, _⟩ | ⟨q, _⟩ <;> first | exact q | omega
  by_cases k0 : oneF so (K t) (V t) (no + opn pl) = 0
  · rw [s2_y k0]
    obtain ⟨o1, o2, o3, o4, o5, o6⟩ := oneP_r (c := c) m2 k0 m3
    have hvl := vl_le pl
    have hpl := (okP.ln m2).1
    have hbc : bc cm ≤ 1 := b1'_r _
    have hba := b1'_r an
    have hbo := b1'_r od
    refine INV.of ⟨nx41 h1 o5, CLS_oneP h2 _ _ _, h3, Or.inr (Or.inl ⟨?_, l1, l2, l3, ?_, ?_⟩)⟩
    · show 1 ≤ (if oneW (K t) = 1 then 3 else 2) ∧ (if oneW (K t) = 1 then 3 else 2) ≤ 6
      split <;> decide
    · show lnW (oneP (K t) (V t) pl c).1 (oneP (K t) (V t) pl c).2 cm no an od + 1 ≤ t + 1
      unfold lnW at l4 ⊢; omega
    · have fin : ∀ x : Int × Int, okOp2 x.1 x.2 (DG c fr) → dpStep x.1 (DG c fr) = ((DG c fr).1 + 1, (DG c fr).2) → (x.1 = 1 → if so = 2 then (x.2 ≤ 3 ∨ x.2 = 7) else x.2 ≤ 6) → oneP (K t) (V t) pl c = whl pl (x :: c) → oneW (K t) = 1 → IVm (if oneW (K t) = 1 then 3 else 2) so (oneP (K t) (V t) pl c).1 (oneP (K t) (V t) pl c).2 cm no an od fr := by
        intro x x1 x2 x3 x4 x5
        rw [if_pos x5, x4]
        rw [x4] at o1 o2 o4
        have hp := m1.push x x1 (by rw [x2, e4]; dsimp only; omega) x3
        have hD : DG (x :: c) fr = (vl pl + bc cm + 1, b1' an + b1' od) := by rw [hp.2, x2, e4]
        obtain ⟨w1, w2, w3⟩ := OKS_whl pl (x :: c) hp.1 (by rw [hD]; dsimp only; omega)
        refine ⟨w1, o1, o2, m4, m5, Or.inr (Or.inr (Or.inl ⟨rfl, o4 x5, ?_⟩))⟩
        rw [w2, hD, w3]
        exact Prod.ext (by dsimp only; omega) rfl
      unfold oneF at k0
      by_cases k1 : K t = 40
      · rw [if_pos k1] at k0
        have hv := hV t
        have hv2 : ¬ 9999 < V t := fun q => by rw [if_pos q] at k0; cases k0
        exact fin (0, V t) (by unfold okOp2; dsimp only; omega) rfl (fun q => absurd (show (0 : Int) = 1 from q) (by decide)) (by unfold oneP; rw [if_pos k1]) (by unfold oneW; rw [if_pos (Or.inl k1)])
      rw [if_neg k1] at k0
      by_cases k2 : K t < 8
      · rw [if_pos k2] at k0
        have hb : barF so (K t) = false := by
          cases q : barF so (K t) with
          | false => rfl
          | true => rw [if_pos q] at k0; cases k0
        refine fin (1, (K t : Int)) (by unfold okOp2; dsimp only; omega) rfl (fun _ => ?_) (by unfold oneP; rw [if_neg k1, if_pos k2]) (by unfold oneW; rw [if_pos (Or.inr k2)])
        unfold barF at hb
        by_cases q2 : so = 2
        · rw [if_pos q2]
          rw [if_pos (by omega)] at hb
          have := of_decide_eq_false hb
          dsimp only; omega
        · rw [if_neg q2]
          rw [if_neg (by omega)] at hb
          have := of_decide_eq_false hb
          dsimp only; omega
      · have hw : oneW (K t) ≠ 1 := by unfold oneW; rw [if_neg (by omega)]; decide
        rw [if_neg hw]
        by_cases k4 : K t = 28
        · have hP : oneP (K t) (V t) pl c = (40 :: pl, c) := by unfold oneP; rw [if_neg k1, if_neg k2, if_pos k4]
          rw [hP] at o1 o2 ⊢
          exact ⟨m1, o1, o2, m4, m5, Or.inr (Or.inl ⟨rfl, e4⟩)⟩
        · have hP : oneP (K t) (V t) pl c = (2 :: pl, c) := by unfold oneP; rw [if_neg k1, if_neg k2, if_neg k4]
          rw [hP] at o1 o2 ⊢
          exact ⟨m1, o1, o2, m4, m5, Or.inr (Or.inl ⟨rfl, e4⟩)⟩
  · rw [s2_n k0]; exact INV.flt h1
theorem IV3 (h : IVC K 3 t so pl c cm no an od fr cR nc) : INV K (stp K V (cf 3 t f so pl c cm no an od fr cR nc on)) := by
  obtain ⟨l1, l2, l3, l4, l5⟩ := h.law (Or.inr (Or.inr (Or.inl rfl)))
  obtain ⟨h1, h2, h3, -⟩ := h
  obtain ⟨m1, m2, m3, m4, m5, m6⟩ := l5
  obtain ⟨hd, e4⟩ : pl.head? ≠ some 2 ∧ DG c fr = (vl pl + 1 + bc cm, b1' an + b1' od) := by
    rcases m6 with ⟨q, _⟩ | ⟨q, _⟩ | ⟨_, q⟩ | ⟨q, _⟩ | ⟨q, _⟩ | ⟨q, _⟩ <;> first | exact q | omega
  by_cases k0 : goF (K t) pl = true
  · rw [s3_g k0]
    obtain ⟨o1, o2, o3, o4⟩ := behP_r (c := c) m2 hd k0
    have k41 : K t ≠ 41 := fun q => by unfold goF at k0; rw [q] at k0; cases k0
    refine INV.of ⟨nx41 h1 k41, CLS_behP h2 _ _, h3, Or.inr (Or.inl ⟨?_, l1, l2, l3, ?_, ?_⟩)⟩
    · show 1 ≤ (if behW (K t) = 1 then 3 else 2) ∧ (if behW (K t) = 1 then 3 else 2) ≤ 6
      split <;> decide
    · show lnW (behP (K t) pl c).1 (behP (K t) pl c).2 cm no an od + 1 ≤ t + 1
      unfold lnW at l4 ⊢; omega
    · have fin : ∀ (sl x : Int), (sl = 3 ∨ sl = 5) → (3 ≤ x ∧ x ≤ 6) → behP (K t) pl c = (x :: (stl sl pl c).1, (stl sl pl c).2) → behW (K t) ≠ 1 → IVm (if behW (K t) = 1 then 3 else 2) so (behP (K t) pl c).1 (behP (K t) pl c).2 cm no an od fr := by
        intro sl x hs hx hP hw
        rw [if_neg hw, hP]
        rw [hP] at o1 o2
        obtain ⟨s1, s2⟩ := OKS_stl sl hs (bc cm) pl c m2 m1 (by rw [e4])
        refine ⟨s1, o1, by omega, m4, m5, Or.inr (Or.inl ⟨rfl, ?_⟩)⟩
        show DG (stl sl pl c).2 fr = (vl (stl sl pl c).1 + (if 3 ≤ x ∧ x ≤ 6 then 1 else 0) + bc cm, _)
        rw [s2, if_pos hx, e4]
      by_cases k1 : K t = 24
      · exact fin 3 3 (Or.inl rfl) (by decide) (by unfold behP; rw [if_pos k1]) (by unfold behW; rw [if_neg (by omega)]; decide)
      by_cases k2 : K t = 25
      · exact fin 3 4 (Or.inl rfl) (by decide) (by unfold behP; rw [if_neg k1, if_pos k2]) (by unfold behW; rw [if_neg (by omega)]; decide)
      by_cases k3 : K t = 26
      · exact fin 5 5 (Or.inr rfl) (by decide) (by unfold behP; rw [if_neg k1, if_neg k2, if_pos k3]) (by unfold behW; rw [if_neg (by omega)]; decide)
      by_cases k4 : K t = 27
      · exact fin 5 6 (Or.inr rfl) (by decide) (by unfold behP; rw [if_neg k1, if_neg k2, if_neg k3, if_pos k4]) (by unfold behW; rw [if_neg (by omega)]; decide)
      have hg2 := k0
      unfold goF at hg2
      rw [decide_eq_false (by omega), Bool.false_or] at hg2
      have hm : 40 ∈ pl := of_decide_eq_true (Bool.and_eq_true_iff.mp hg2).2
      have e29 : K t = 29 := of_decide_eq_true (Bool.and_eq_true_iff.mp hg2).1
      obtain ⟨xs, ex⟩ := stl_40 (c := c) m2 hd hm
      have hw : behW (K t) = 1 := by unfold behW; rw [if_pos e29]
      have hP : behP (K t) pl c = whl xs (stl 3 pl c).2 := by unfold behP; rw [if_neg k1, if_neg k2, if_neg k3, if_neg k4, ex]; rfl
      have o4' := o4 hw
      rw [if_pos hw, hP]
      rw [hP] at o1 o2 o4'
      obtain ⟨s1, s2⟩ := OKS_stl 3 (Or.inl rfl) (bc cm) pl c m2 m1 (by rw [e4])
      rw [ex] at s2
      obtain ⟨w1, w2, w3⟩ := OKS_whl xs (stl 3 pl c).2 s1 (by rw [s2]; dsimp only; omega)
      refine ⟨w1, o1, by omega, m4, m5, Or.inr (Or.inr (Or.inl ⟨rfl, o4', ?_⟩))⟩
      rw [w2, s2, w3, e4]; rfl
  · have k0' : goF (K t) pl = false := by cases q : goF (K t) pl <;> first | rfl | exact absurd q k0
    by_cases k1 : (stl 3 pl c).1 = []
    · rw [s3_y k0' k1]
      obtain ⟨s1, s2⟩ := OKS_stl 3 (Or.inl rfl) (bc cm) pl c m2 m1 (by rw [e4])
      have hr := stl_r 3 pl c (Or.inl rfl) m2
      rw [k1] at s2
      have hl : (stl 3 pl c).2.length = pl.length + c.length := by have := hr.2.2.1; rw [k1] at this; simpa using this
      have hop : opn pl = 0 := by rw [← hr.2.1, k1]; rfl
      refine INV.of ⟨h1, CLS_stl _ _ _ h2, h3, Or.inr (Or.inl ⟨by decide, l1, l2, l3, ?_, s1, trivial, by show no + 0 ≤ 8; omega, m4, m5, Or.inr (Or.inr (Or.inr (Or.inl ⟨rfl, rfl, ?_⟩)))⟩)⟩
      · show lnW [] (stl 3 pl c).2 cm no an od + 1 ≤ t
        unfold lnW at l4 ⊢
        have : ([] : List Int).length = 0 := rfl
        omega
      · rw [s2, e4]
        exact Prod.ext (by show 0 + 1 + bc cm = 1 + bc cm; omega) rfl
    · rw [s3_n k0' k1]; exact INV.flt h1
theorem IV4 (h : IVC K 4 t so pl c cm no an od fr cR nc) : INV K (stp K V (cf 4 t f so pl c cm no an od fr cR nc on)) := by
  obtain ⟨l1, l2, l3, l4, l5⟩ := h.law (Or.inr (Or.inr (Or.inr (Or.inl rfl))))
  obtain ⟨h1, h2, h3, -⟩ := h
  obtain ⟨m1, m2, m3, m4, m5, m6⟩ := l5
  obtain ⟨e1, e4⟩ : pl = [] ∧ DG c fr = (1 + bc cm, b1' an + b1' od) := by
    rcases m6 with ⟨q, _⟩ | ⟨q, _⟩ | ⟨q, _⟩ | ⟨_, q⟩ | ⟨q, _⟩ | ⟨q, _⟩ <;> first | exact q | omega
  subst e1
  by_cases k0 : so = 0
  · rw [s4_0 k0]
    obtain ⟨r1, r2, r3, r4⟩ := m5 k0
    subst r1; subst r2; subst r3; subst r4
    refine INV.of ⟨h1, h2, h3, Or.inr (Or.inl ⟨by decide, l1, l2, l3, l4, m1, m2, m3, m4, m5, Or.inr (Or.inr (Or.inr (Or.inr (Or.inr ⟨rfl, rfl, ?_⟩))))⟩)⟩
    rw [if_pos k0, e4]; rfl
  by_cases k1 : cm = 0
  · subst k1
    by_cases k2 : cmpF (K t) < 0
    · rw [s4_n k0 k2]; exact INV.flt h1
    · rw [s4_y k0 k2]
      have hc := cmpF_r (K t)
      refine INV.of ⟨nx41 h1 (by omega), h2, h3, Or.inr (Or.inl ⟨by decide, l1, l2, l3, ?_, m1, m2, m3, Or.inr (by show 10 ≤ cmpF (K t) ∧ cmpF (K t) ≤ 15; omega), fun q => absurd q k0, Or.inr (Or.inl ⟨rfl, ?_⟩)⟩)⟩
      · show lnW [] c (cmpF (K t)) no an od + 1 ≤ t + 1
        have := b1'_r (decide (cmpF (K t) ≠ 0))
        unfold lnW at l4 ⊢; omega
      · show DG c fr = (vl [] + bc (cmpF (K t)), b1' an + b1' od)
        have hb : bc (cmpF (K t)) = 1 := by unfold bc; rw [decide_eq_true (by omega)]; rfl
        rw [e4, hb]; rfl
  · rw [s4_c k0 k1]
    have hb : bc cm = 1 := by unfold bc; rw [decide_eq_true k1]; rfl
    rw [hb] at e4
    have hs : dpStep cm (DG c fr) = (0, b1' an + b1' od + 1) := by rw [e4]; unfold dpStep; rw [if_neg (by omega), if_neg (by omega), if_neg (by omega), if_pos (by omega)]; rfl
    have hba := b1'_r an
    have hbo := b1'_r od
    have hp := m1.push (cm, 0) (by unfold okOp2; rw [e4]; dsimp only; omega) (by show (dpStep cm (DG c fr)).1 + (dpStep cm (DG c fr)).2 ≤ 38; rw [hs]; dsimp only; omega) (fun q => by dsimp only at q; omega)
    obtain ⟨n1, n2⟩ := OKS_nts (m := b1' an + b1' od + 1) (by omega) no ((cm, 0) :: c) hp.1 (hp.2.trans hs)
    refine INV.of ⟨h1, CLS_nts _ _ (h2.cons _), h3, Or.inr (Or.inl ⟨by decide, l1, l2, l3, ?_, n1, trivial, by show 0 + 0 ≤ 8; omega, Or.inl rfl, fun q => absurd q k0, Or.inr (Or.inr (Or.inr (Or.inr (Or.inl ⟨rfl, rfl, rfl, rfl, k0, n2⟩))))⟩)⟩
    show lnW [] (nts no ((cm, 0) :: c)) 0 0 an od + 1 ≤ t
    unfold lnW at l4 ⊢
    rw [nts_len]
    have e0 : b1' (decide ((0 : Int) ≠ 0)) = 0 := rfl
    have e5 : b1' (decide (cm ≠ 0)) = 1 := hb
    rw [e0]
    rw [e5] at l4
    have : ((cm, (0 : Int)) :: c).length = c.length + 1 := rfl
    omega
theorem b1_b (a : Bool) : b1 a = b1' a := rfl
theorem IV5 (h : IVC K 5 t so pl c cm no an od fr cR nc) : INV K (stp K V (cf 5 t f so pl c cm no an od fr cR nc on)) := by
  obtain ⟨l1, l2, l3, l4, l5⟩ := h.law (Or.inr (Or.inr (Or.inr (Or.inr rfl))))
  obtain ⟨h1, h2, h3, -⟩ := h
  obtain ⟨m1, m2, m3, m4, m5, m6⟩ := l5
  obtain ⟨e1, e2, e3, k0, e4⟩ : pl = [] ∧ cm = 0 ∧ no = 0 ∧ so ≠ 0 ∧ DG c fr = (0, b1' an + b1' od + 1) := by
    rcases m6 with ⟨q, _⟩ | ⟨q, _⟩ | ⟨q, _⟩ | ⟨q, _⟩ | ⟨_, q⟩ | ⟨q, _⟩ <;> first | exact q | omega
  subst e1; subst e2; subst e3
  have hA := OKS_emI (m := b1' an + b1' od + 1) an 21 (by decide) (by rw [b1_b]; omega) c m1 e4
  have hB := OKS_emI (m := b1' an + b1' od + 1 - b1 an) od 22 (by decide) (by rw [b1_b, b1_b]; omega) (emI an 21 c) hA.1 hA.2
  have e0 : b1' (decide ((0 : Int) ≠ 0)) = 0 := rfl
  by_cases k1 : K t = 16
  · rw [s5_a k1]
    refine INV.of ⟨nx41 h1 (by omega), CLS_emI h2 _ _, h3, Or.inr (Or.inl ⟨by decide, l1, l2, l3, ?_, hA.1, trivial, by show 0 + 0 ≤ 8; omega, Or.inl rfl, fun q => absurd q k0, Or.inl ⟨rfl, rfl, rfl, k0, ?_⟩⟩)⟩
    · show lnW [] (emI an 21 c) 0 0 true od + 1 ≤ t + 1
      unfold lnW at l4 ⊢
      rw [emI_len, b1_b, e0]
      have : b1' true = 1 := rfl
      omega
    · rw [hA.2]
      exact Prod.ext rfl (by show b1' an + b1' od + 1 - b1 an = 1 + b1' od; rw [b1_b]; omega)
  by_cases k2 : K t = 15
  · rw [s5_o k2]
    refine INV.of ⟨nx41 h1 (by omega), CLS_emI (CLS_emI h2 _ _) _ _, h3, Or.inr (Or.inl ⟨by decide, l1, l2, l3, ?_, hB.1, trivial, by show 0 + 0 ≤ 8; omega, Or.inl rfl, fun q => absurd q k0, Or.inl ⟨rfl, rfl, rfl, k0, ?_⟩⟩)⟩
    · show lnW [] (emI od 22 (emI an 21 c)) 0 0 false true + 1 ≤ t + 1
      unfold lnW at l4 ⊢
      rw [emI_len, emI_len, b1_b, b1_b, e0]
      have : b1' true = 1 := rfl
      have : b1' false = 0 := rfl
      omega
    · rw [hB.2]
      exact Prod.ext rfl (by show b1' an + b1' od + 1 - b1 an - b1 od = 0 + 1; rw [b1_b, b1_b]; omega)
  · rw [s5_n k1 k2]
    refine INV.of ⟨h1, CLS_emI (CLS_emI h2 _ _) _ _, h3, Or.inr (Or.inl ⟨by decide, l1, l2, l3, ?_, hB.1, trivial, by show 0 + 0 ≤ 8; omega, Or.inl rfl, fun q => absurd q k0, Or.inr (Or.inr (Or.inr (Or.inr (Or.inr ⟨rfl, rfl, ?_⟩))))⟩)⟩
    · show lnW [] (emI od 22 (emI an 21 c)) 0 0 false false + 1 ≤ t
      unfold lnW at l4 ⊢
      rw [emI_len, emI_len, b1_b, b1_b, e0]
      have : b1' false = 0 := rfl
      omega
    · rw [hB.2, if_neg k0]
      exact Prod.ext rfl (by show b1' an + b1' od + 1 - b1 an - b1 od = 1; rw [b1_b, b1_b]; omega)
theorem IV6 (hT : ∀ t, (∀ j, j < t → K j ≠ 41) → t ≤ 300) (h : IVC K 6 t so pl c cm no an od fr cR nc) : INV K (stp K V (cf 6 t f so pl c cm no an od fr cR nc on)) := by
  obtain ⟨h1, h2, h3, h4⟩ := h
  have ht := hT t h1
  by_cases k0 : K t = 30
  · rw [s6_y k0]
    rcases h4 with ⟨q, _⟩ | ⟨_, q2, q3, q4, q5, q6⟩ | ⟨q1, q2, q3, q4, q5⟩ | q
    · omega
    · have hD : DG c fr = if so = 0 then (1, 0) else (0, 1) := by
        rcases q6.2.2.2.2.2 with ⟨q, _⟩ | ⟨q, _⟩ | ⟨q, _⟩ | ⟨q, _⟩ | ⟨q, _⟩ | ⟨_, _, q⟩ <;> first | exact q | omega
      have hl : c.length + 1 ≤ t := by unfold lnW at q5; omega
      refine INV.of ⟨nx41 h1 (by omega), fun k hk => ?_, by show nc + 1 ≤ 24; omega, Or.inl ⟨Or.inl rfl, by show c.length ≤ t + 1; omega⟩⟩
      show okCl c ((if so < 3 then up (up cR (3 * nc + 1) (fr : Int)) (3 * nc + 2) (c.length : Int) else cR) (3 * k)) _ _
      rw [if_pos (by omega)]
      have hk' : k < nc + 1 := hk
      rcases Nat.lt_or_ge k nc with q | q
      · rw [up_ne _ _ (by omega), up_ne _ _ (by omega), up_ne _ _ (by omega), up_ne _ _ (by omega), up_ne _ _ (by omega), up_ne _ _ (by omega)]
        exact h2 k q
      · rw [show k = nc by omega, up_same, up_ne _ _ (by omega), up_ne _ _ (by omega), up_ne _ _ (by omega), up_same, q4]
        exact ⟨by omega, fun _ => ⟨so, fr, c.length, rfl, rfl, rfl, by omega, q6.1, hD⟩, fun q => by omega, fun q => by omega⟩
    · refine INV.of ⟨nx41 h1 (by omega), fun k hk => ?_, by show nc + 1 ≤ 24; omega, Or.inl ⟨Or.inl rfl, by show c.length ≤ t + 1; omega⟩⟩
      show okCl c ((if so < 3 then up (up cR (3 * nc + 1) (fr : Int)) (3 * nc + 2) (c.length : Int) else cR) (3 * k)) _ _
      rw [if_neg (by omega)]
      have hk' : k < nc + 1 := hk
      rcases Nat.lt_or_ge k nc with q | q
      · exact h2 k q
      · rw [show k = nc by omega, q3]
        rcases q5 with q5 | ⟨_, q5, _⟩ | ⟨_, q6, q7⟩
        · omega
        · omega
        · exact ⟨by omega, fun q => by omega, fun _ => q6, fun q => q7 (by omega)⟩
    · omega
  · rw [s6_n k0]; exact INV.flt h1
theorem IV7 (hV : ∀ t, 0 ≤ V t) {md : Nat} (hm : md = 7 ∨ md = 10 ∨ md = 11) (h : IVC K md t so pl c cm no an od fr cR nc) : INV K (stp K V (cf md t f so pl c cm no an od fr cR nc on)) := by
  obtain ⟨h1, h2, h3, h4⟩ := h
  have hv := hV t
  rcases h4 with ⟨q, _⟩ | ⟨q, _⟩ | ⟨q1, q2, q3, q4, q5⟩ | q
  · omega
  · omega
  · rcases hm with rfl | rfl | rfl
    · by_cases k0 : figF (K t) (V t) (topF so) = 0
      · rw [s7_y k0]
        have hk : K t = 40 ∧ V t ≤ topF so := by
          unfold figF at k0
          (repeat' split at k0) <;> first | omega | (exact absurd k0 (by decide))
        have h41 : K t ≠ 41 := by omega
        refine INV.of ⟨nx41 h1 h41, CLS_up h2 (by omega) _, h3, Or.inr (Or.inr (Or.inl ⟨q1, q2, ?_, by show c.length + 1 ≤ t + 1; omega, ?_⟩))⟩
        · show up cR (3 * nc + 1) (V t) (3 * nc) = _
          rw [up_ne _ _ (by omega)]; exact q3
        · have ht : topF so = if so = 5 then 9 else 11 := by unfold topF; (repeat' split) <;> omega
          rw [ht] at hk
          by_cases k5 : so = 5
          · rw [if_pos k5] at hk
            refine Or.inr (Or.inl ⟨k5, Or.inl (by show (if so = 5 then 10 else 6) = 10; rw [if_pos k5]), ?_⟩)
            show 0 ≤ up cR (3 * nc + 1) (V t) (3 * nc + 1) ∧ up cR (3 * nc + 1) (V t) (3 * nc + 1) ≤ 9
            rw [up_same]; omega
          · rw [if_neg k5] at hk
            refine Or.inr (Or.inr ⟨by show (if so = 5 then 10 else 6) = 6; rw [if_neg k5], ?_, fun q => absurd q k5⟩)
            show 0 ≤ up cR (3 * nc + 1) (V t) (3 * nc + 1) ∧ up cR (3 * nc + 1) (V t) (3 * nc + 1) ≤ 11
            rw [up_same]; omega
      · rw [s7_n k0]; exact INV.flt h1
    · have q6 : so = 5 ∧ (0 ≤ cR (3 * nc + 1) ∧ cR (3 * nc + 1) ≤ 9) := by
        rcases q5 with q5 | ⟨u1, _, u2⟩ | ⟨u1, _⟩
        · omega
        · exact ⟨u1, u2⟩
        · omega
      by_cases k0 : K t = 14
      · rw [s10_y k0]
        exact INV.of ⟨nx41 h1 (by omega), h2, h3, Or.inr (Or.inr (Or.inl ⟨q1, q2, q3, by show c.length + 1 ≤ t + 1; omega, Or.inr (Or.inl ⟨q6.1, Or.inr rfl, q6.2⟩)⟩))⟩
      · rw [s10_n k0]; exact INV.flt h1
    · have q6 : so = 5 ∧ (0 ≤ cR (3 * nc + 1) ∧ cR (3 * nc + 1) ≤ 9) := by
        rcases q5 with q5 | ⟨u1, _, u2⟩ | ⟨u1, _⟩
        · omega
        · exact ⟨u1, u2⟩
        · omega
      by_cases k0 : figF (K t) (V t) 9 = 0
      · rw [s11_y k0]
        have hk : K t = 40 ∧ V t ≤ 9 := by
          unfold figF at k0
          (repeat' split at k0) <;> first | omega | (exact absurd k0 (by decide))
        have h41 : K t ≠ 41 := by omega
        refine INV.of ⟨nx41 h1 h41, CLS_up h2 (by omega) _, h3, Or.inr (Or.inr (Or.inl ⟨q1, q2, ?_, by show c.length + 1 ≤ t + 1; omega, Or.inr (Or.inr ⟨rfl, ?_, fun _ => ?_⟩)⟩))⟩
        · show up cR (3 * nc + 2) (V t) (3 * nc) = _
          rw [up_ne _ _ (by omega)]; exact q3
        · show 0 ≤ up cR (3 * nc + 2) (V t) (3 * nc + 1) ∧ up cR (3 * nc + 2) (V t) (3 * nc + 1) ≤ 11
          rw [up_ne _ _ (by omega)]; omega
        · show 0 ≤ up cR (3 * nc + 2) (V t) (3 * nc + 2) ∧ up cR (3 * nc + 2) (V t) (3 * nc + 2) ≤ 9
          rw [up_same]; omega
      · rw [s11_n k0]; exact INV.flt h1
  · omega
theorem INV.stp (hV : ∀ t, 0 ≤ V t) (hT : ∀ t, (∀ j, j < t → K j ≠ 41) → t ≤ 300) {x : Cf} (h : INV K x) : INV K (stp K V x) := by
  obtain ⟨md, t, f, so, pl, c, cm, no, an, od, fr, cR, nc, on⟩ := x
  have h' : IVC K md t so pl c cm no an od fr cR nc := h
  have hm : md = 0 ∨ md = 1 ∨ md = 2 ∨ md = 3 ∨ md = 4 ∨ md = 5 ∨ md = 6 ∨ (md = 7 ∨ md = 10 ∨ md = 11) ∨ (md = 8 ∨ md = 9) := by
    rcases h'.2.2.2 with ⟨q, _⟩ | ⟨q, _⟩ | ⟨_, _, _, _, q⟩ | q <;> omega
  rcases hm with rfl | rfl | rfl | rfl | rfl | rfl | rfl | hm | hm
  · exact IV0 h'
  · exact IV1 h'
  · exact IV2 hV h'
  · exact IV3 h'
  · exact IV4 h'
  · exact IV5 h'
  · exact IV6 hT h'
  · exact IV7 hV hm h'
  · rcases hm with rfl | rfl
    · exact h
    · exact h
theorem INV.rch (hV : ∀ t, 0 ≤ V t) (hT : ∀ t, (∀ j, j < t → K j ≠ 41) → t ≤ 300) {x y : Cf} (h : INV K x) (hr : Rch K V x y) : INV K y := by
  obtain ⟨k, rfl⟩ := hr
  induction k generalizing x with
  | zero => exact h
  | succ k ih => exact ih (h.stp hV hT)
theorem INV.top : INV K (cf 0 0 0 0 [] [] 0 0 false false 0 (fun _ => 0) 0 0) := ⟨fun j hj => absurd hj (by show ¬ j < 0; omega), fun k hk => absurd hk (by show ¬ k < 0; omega), Nat.zero_le _, Or.inl ⟨Or.inl rfl, Nat.zero_le _⟩⟩
end IV
theorem INV.kt {b : Nat → Int} {n : Nat} (hok : okTp b n) {x y : Cf} (h : INV (KT b n) x) (hr : Rch (KT b n) (VT b n) x y) : INV (KT b n) y := h.rch (fun t => (VT_r hok).1) (fun t ht => by have := Rd.ln (b := b) (n := n) (t := t) ht; have := hok.1; omega) hr
