/-- how a clause ends -/
def EndC (b : Nat → Int) (n t0 t : Nat) (x : Cf) (on : Nat) (v : Int) (M1 : MT) : Prop :=
  (v = 0 ∧ ∃ t' c' cR' nc' on', Rch (KT b n) (VT b n) x (cf 0 t' 0 0 [] c' 0 0 false false 0 cR' nc' on') ∧ TP b n t0 M1 t' c' cR' nc' on' ∧ Rd b n t' ∧ c'.length ≤ t' ∧ t < t' ∧ on' < 8 ∧ nc' ≤ 24) ∨ (∃ f' t' : Nat, v = (f' : Int) ∧ f' ≠ 0 ∧ f' ≤ 6 ∧ Rch (KT b n) (VT b n) x (flt t' f' (fun _ => 0) 0 0) ∧ M1 77 8 = (BT b n t' : Int))
theorem FRT.refl (t0 : Nat) (M : MT) : FRT t0 M M := ⟨fun _ _ => rfl, fun _ _ => rfl⟩
theorem CW.of {r r' : Nat → Int} {t0 : Nat} {cR : Nat → Int} {nc : Nat} (h : CW r t0 cR nc) (e : ∀ j, t0 + 1 ≤ j → j < t0 + 1 + 3 * nc → r' j = r j) : CW r' t0 cR nc := fun k hk => by
  obtain ⟨h1, h2, h3⟩ := h k hk
  exact ⟨by rw [e _ (by omega) (by omega)]; exact h1, by rw [e _ (by omega) (by omega)]; exact h2, fun a b => by rw [e _ (by omega) (by omega)]; exact h3 a b⟩
theorem CW.cr {r : Nat → Int} {t0 : Nat} {cR cR' : Nat → Int} {nc : Nat} (h : CW r t0 cR nc) (e : ∀ j, j < 3 * nc → cR' j = cR j) : CW r t0 cR' nc := fun k hk => by
  obtain ⟨h1, h2, h3⟩ := h k hk
  rw [e _ (by omega), e _ (by omega), e _ (by omega)]
  exact ⟨h1, h2, h3⟩

/-- the clause's body -/
theorem cl_body {X : XT} {S : ST} {M M2 : MT} {b : Nat → Int} {n t0 t t1 s : Nat} {x : Cf} {on0 : Nat} (K : Ok E1 X yX12_clause cX12_clause 6 (some .int) rm_X12_clause (Qe [77, 80, 82] S M (fun v M1 => FRT t0 M M1 ∧ EndC b n t0 t x on0 v M1)) S) {c : List (Int × Int)} {cR : Nat → Int} {nc on : Nat} (hok : okTp b n) (ht0 : t0 ≤ 2040) (hs : s ≤ 5) (hnc : nc < 24) (hon : on < 8) (hB : BD b n t0 M2 t1 s c cR nc on) (hrd : Rd b n t1) (hc : c.length ≤ t1) (htt : t < t1) (hrch : Rch (KT b n) (VT b n) x (cf (bgM s) t1 0 s [] c 0 0 false false c.length cR nc on)) (hft : FRT t0 M M2) (hfa : ∀ a, a ∉ [77, 80, 82] → M2 a = M a) : Wp E1 X 99 [.ref 77, .int (z (s : Int)), .int (z (nc : Int)), .int (z ((t0 + 1 + 3 * nc : Nat) : Int)), .int (z (c.length : Int)), mkV] [] S M2 := by
  have hln := hrd.ln
  have hn := hok.1
  have in2 : ∀ a, a ∉ [77, 80, 82] → a ∉ [77, 80] := fun a ha q => ha (by simp only [List.mem_cons, List.mem_nil_iff, or_false] at q ⊢; omega)
  -- ends
  have good : ∀ (M3 : MT) (t3 : Nat) (c3 : List (Int × Int)) (cR3 : Nat → Int), BD b n t0 M3 t3 s c3 cR3 nc on → (3 ≤ s → M3 80 (t0 + 1 + 3 * nc + 1) = cR3 (3 * nc + 1) ∧ (s = 5 → M3 80 (t0 + 1 + 3 * nc + 2) = cR3 (3 * nc + 2))) → Rd b n t3 → c3.length ≤ t3 → t < t3 → Rch (KT b n) (VT b n) x (cf 6 t3 0 s [] c3 0 0 false false c.length cR3 nc on) → FRT t0 M M3 → (∀ a, a ∉ [77, 80, 82] → M3 a = M a) → Wp E1 X 144 [.ref 77, .int (z (s : Int)), .int (z (nc : Int)), .int (z ((t0 + 1 + 3 * nc : Nat) : Int)), .int (z (c.length : Int)), mkV] [.int (z 0)] S M3 := by
    intro M3 t3 c3 cR3 hB3 hd3 r3 l3 tt3 rc3 ft3 fa3
    have hln3 := r3.ln
    refine cl_end K hok ht0 hs hnc hB3 hd3 (by omega) (by omega) fa3 (fun h30 M4 f4 h8 => ?_) (fun h30 M4 f4 hT4 => ?_) _
    · exact ⟨ft3.trans f4, Or.inr ⟨1, t3, rfl, by decide, by decide, rc3.trans (Rch.one (s6_n h30)), h8⟩⟩
    · exact ⟨ft3.trans f4, Or.inl ⟨rfl, t3 + 1, c3, _, nc + 1, on, rc3.trans (Rch.one (s6_y h30)), hT4, r3.nx (by omega), by omega, by omega, hon, by omega⟩⟩
  have bad : ∀ (M3 : MT) (f3 t3 : Nat), f3 ≠ 0 → f3 ≤ 6 → Rch (KT b n) (VT b n) x (flt t3 f3 (fun _ => 0) 0 0) → M3 77 8 = (BT b n t3 : Int) → FRT t0 M M3 → (∀ a, a ∉ [77, 80, 82] → M3 a = M a) → Wp E1 X 144 [.ref 77, .int (z (s : Int)), .int (z (nc : Int)), .int (z ((t0 + 1 + 3 * nc : Nat) : Int)), .int (z (c.length : Int)), mkV] [.int (z (f3 : Int))] S M3 := by
    intro M3 f3 t3 h1 h2 rc3 h8 ft3 fa3
    refine wp_istore (n := 146) K dX12_clause_144 rfl (by decide) ?_
    refine wp_iload (n := 148) K dX12_clause_146 rfl rfl ?_
    refine wp_if_eq (n := 151) K dX12_clause_148 rfl (tgt := 154) (by decide) ⟨by omega, by omega⟩ (fun c148 => ?_) (fun c148 => ?_)
    · omega
    refine wp_iload (n := 153) K dX12_clause_151 rfl rfl ?_
    refine ret_ei K dX12_clause_153 rfl ?_ ?_ ⟨Nat.le_refl _, Nat.le_refl _⟩
    · exact fa3
    · exact ⟨ft3, Or.inr ⟨f3, t3, rfl, h1, h2, rc3, h8⟩⟩
  obtain ⟨hA, ⟨h12, h14, hCR⟩, h18, h20, h21, htx, hCW, hx, hcx⟩ := hB
  have hZ : RZ b n t0 s 0 M2 t1 c := ⟨hA, ⟨h12, h14, hCR⟩, h18, h20⟩
  -- laws
  have law : ∀ (v : Int) (M3 : MT) (y : Nat → List (Int × Int) → Cf), s < 3 → (∀ t3 c3, Rch (KT b n) (VT b n) (y t3 c3) (cf 6 t3 0 s [] c3 0 0 false false c.length cR nc on)) → FRN t0 M2 M3 → (∀ a, a ∉ [77, 80, 82] → M3 a = M2 a) → EndS b n t0 s 0 t1 0 (cf (bgM s) t1 0 s [] c 0 0 false false c.length cR nc on) y cR nc on v M3 → Wp E1 X 144 [.ref 77, .int (z (s : Int)), .int (z (nc : Int)), .int (z ((t0 + 1 + 3 * nc : Nat) : Int)), .int (z (c.length : Int)), mkV] [.int (z v)] S M3 := by
    intro v M3 y hs3 hy hfn ha3 hE
    have fa3 : ∀ a, a ∉ [77, 80, 82] → M3 a = M a := fun a ha => (ha3 a ha).trans (hfa a ha)
    rcases hE with ⟨rfl, t3, c3, rc3, R3, r3, l3, tt3⟩ | ⟨f', t', rfl, e2, e3, e4, e5⟩
    · refine good M3 t3 c3 cR ⟨R3.1, ⟨R3.2.1.1, R3.2.1.2.1, R3.2.1.2.2.1⟩, R3.2.2.1, R3.2.2.2, (hfn.1 21 (by decide)).trans h21, (hfn.2 _ (by omega)).trans htx, hCW.of (fun j _ hj => hfn.2 j (by omega)), (hfn.2 _ (by omega)).trans hx, hcx⟩ (fun q => by omega) r3 (by omega) (by omega) ((hrch.trans rc3).trans (hy t3 c3)) (hft.trans hfn.t) fa3
    · exact bad M3 f' t' e2 e3 (hrch.trans e4) e5 (hft.trans hfn.t) fa3
  refine wp_iload_n (n := 100) K dX12_clause_99 rfl rfl ?_
  refine wp_iconst (n := 101) K dX12_clause_100 rfl ?_
  refine wp_icmp_ne (n := 104) K dX12_clause_101 rfl (tgt := 112) (by decide) ⟨by omega, by omega⟩ ⟨by omega, by omega⟩ (fun c101 => ?_) (fun c101 => ?_)
  rotate_left
  · -- lend
    have es : s = 5 := by omega
    subst es
    refine wp_aload_n (n := 105) K dX12_clause_104 rfl rfl ?_
    refine wp_iload_n (n := 106) K dX12_clause_105 rfl rfl ?_
    refine wp_invV_qe (n := 109) K dX12_clause_106 rfl cf_X12_218 (m_lent (t0 + 1 + 3 * nc) (by omega) 0 c 0 0 false false c.length cR nc on hok hrd _ _ hA) rfl rfl rfl (liS rfl) rfl (by decide) ⟨Nat.le_refl _, Nat.le_refl _⟩ (Nat.le_of_ble_eq_true rfl) (fun vM106 M106 hM106 gM106 => ?_)
    try simp only [up_same, up_up, up_ne, ne_eq, Nat.reduceEqDiff, not_false_eq_true, Int.reduceToNat, Int.toNat_natCast]
    refine wp_goto K dX12_clause_109 (tgt := 144) (by decide) ?_
    obtain ⟨o1, x1, g1⟩ := gM106
    have fa3 : ∀ a, a ∉ [77, 80, 82] → M106 a = M a := fun a ha => (hM106 a (in2 a ha)).trans (hfa a ha)
    have ot : ∀ j, 12 ≤ j → M106 77 j = M2 77 j := fun j hj => o1 j (by omega) (by omega) (by omega) (by omega) (by omega)
    rcases g1 with ⟨rfl, t3, v1, v2, rc3, A3, r3, tt3, tx⟩ | ⟨f', t', rfl, e2, e3, e4, e5⟩
    · have ft3 : FRT t0 M2 M106 := ⟨fun j hj => o1 j (by omega) (by omega) (by omega) (by omega) (by omega), fun j hj => by rw [tx, up_ne _ _ (by omega), up_ne _ _ (by omega)]⟩
      refine good M106 t3 c (up (up cR (3 * nc + 1) v1) (3 * nc + 2) v2) ⟨A3, ⟨(ot 12 (by decide)).trans h12, (ot 14 (by decide)).trans h14, ?_⟩, (ot 18 (by decide)).trans h18, (ot 20 (by decide)).trans h20, (ot 21 (by decide)).trans h21, ?_, ?_, ?_, ?_⟩ (fun _ => ⟨?_, fun _ => ?_⟩) r3 (by omega) (by omega) (hrch.trans rc3) (hft.trans ft3) fa3
      · refine hCR.of (fun j hj => ?_)
        unfold cs
        rw [tx, up_ne _ _ (by omega), up_ne _ _ (by omega)]
      · rw [tx, up_ne _ _ (by omega), up_ne _ _ (by omega)]; exact htx
      · refine (hCW.of (fun j _ hj => ?_)).cr (fun j hj => ?_)
        · rw [tx, up_ne _ _ (by omega), up_ne _ _ (by omega)]
        · rw [up_ne _ _ (by omega), up_ne _ _ (by omega)]
      · rw [tx, up_ne _ _ (by omega), up_ne _ _ (by omega)]; exact hx
      · rw [up_ne _ _ (by omega), up_ne _ _ (by omega)]; exact hcx
      · rw [tx, up_ne _ _ (by omega), up_same, up_ne _ _ (by omega), up_same]
      · rw [tx, up_same, up_same]
    · refine bad M106 f' t' e2 e3 (hrch.trans e4) e5 (hft.trans ?_) fa3
      exact ⟨fun j hj => o1 j (by omega) (by omega) (by omega) (by omega) (by omega), fun j hj => x1 j (by omega)⟩
  refine wp_iload_n (n := 113) K dX12_clause_112 rfl rfl ?_
  refine wp_iconst (n := 114) K dX12_clause_113 rfl ?_
  refine wp_icmp_lt (n := 117) K dX12_clause_114 rfl (tgt := 129) (by decide) ⟨by omega, by omega⟩ ⟨by omega, by omega⟩ (fun c114 => ?_) (fun c114 => ?_)
  · -- a law
    refine wp_iload_n (n := 130) K dX12_clause_129 rfl rfl ?_
    refine wp_if_ne (n := 133) K dX12_clause_130 rfl (tgt := 140) (by decide) ⟨by omega, by omega⟩ (fun c130 => ?_) (fun c130 => ?_)
    · have es : s ≠ 0 := by omega
      have eb : bgM s = 1 := by unfold bgM; rw [if_neg es, if_pos (by omega)]
      refine wp_aload_n (n := 141) K dX12_clause_140 rfl rfl ?_
      refine wp_invV_qe (n := 144) K dX12_clause_141 rfl cf_X12_221 (m_either 0 c.length cR nc on hok ht0 hs es hrd hc _ _ hZ) rfl rfl rfl (liS rfl) rfl (by decide) ⟨Nat.le_refl _, Nat.le_refl _⟩ (Nat.le_of_ble_eq_true rfl) (fun vM141 M141 hM141 gM141 => ?_)
      try simp only [up_same, up_up, up_ne, ne_eq, Nat.reduceEqDiff, not_false_eq_true, Int.reduceToNat, Int.toNat_natCast]
      obtain ⟨f1, g1⟩ := gM141
      exact law _ M141 _ (by omega) (fun t3 c3 => Rch.refl _) f1 hM141 (by rw [eb]; exact g1)
    · have es : s = 0 := by omega
      have eb : bgM s = 2 := by unfold bgM; rw [if_pos es]
      refine wp_aload_n (n := 134) K dX12_clause_133 rfl rfl ?_
      refine wp_invV_qe (n := 137) K dX12_clause_134 rfl cf_X12_195 (m_summed 0 0 0 false false c.length cR nc on hok ht0 hs (by decide) hrd (by omega) _ _ hZ) rfl rfl rfl (liS rfl) rfl (by decide) ⟨Nat.le_refl _, Nat.le_refl _⟩ (Nat.le_of_ble_eq_true rfl) (fun vM134 M134 hM134 gM134 => ?_)
      try simp only [up_same, up_up, up_ne, ne_eq, Nat.reduceEqDiff, not_false_eq_true, Int.reduceToNat, Int.toNat_natCast]
      refine wp_goto K dX12_clause_137 (tgt := 144) (by decide) ?_
      obtain ⟨f1, g1⟩ := gM134
      exact law _ M134 _ (by omega) (fun t3 c3 => Rch.one (s4_0 es)) f1 hM134 (by rw [eb]; exact g1)
  · -- lay, out
    have es : s = 3 ∨ s = 4 := by omega
    have eb : bgM s = 7 := by unfold bgM; rw [if_neg (by omega), if_neg (by omega)]
    have et : topF s = 11 := by unfold topF; rw [if_neg (by omega)]
    rw [eb] at hrch
    have hf1 := figF_r (KT b n t1) (VT b n t1) 11
    refine wp_aload_n (n := 118) K dX12_clause_117 rfl rfl ?_
    refine wp_iload_n (n := 119) K dX12_clause_118 rfl rfl ?_
    refine wp_iconst (n := 120) K dX12_clause_119 rfl ?_
    refine wp_iadd (n := 121) K dX12_clause_120 rfl ?_
    refine wp_bipush (n := 123) K dX12_clause_121 rfl rfl ?_
    rw [show ((t0 + 1 + 3 * nc : Nat) : Int) + 1 = ((t0 + 1 + 3 * nc + 1 : Nat) : Int) by omega]
    refine wp_invV_qi (n := 126) K dX12_clause_123 rfl cf_X12_206 (m_figure (t0 + 1 + 3 * nc + 1) 11 (by omega) ⟨by decide, by decide⟩ hok _ _ hA) rfl rfl rfl (liS rfl) rfl (by decide) ⟨Nat.le_refl _, Nat.le_refl _⟩ (Nat.le_of_ble_eq_true rfl) (fun M123 hM123 gM123 => ?_)
    try simp only [up_same, up_up, up_ne, ne_eq, Nat.reduceEqDiff, not_false_eq_true, Int.reduceToNat, Int.toNat_natCast]
    refine wp_goto K dX12_clause_126 (tgt := 144) (by decide) ?_
    obtain ⟨o1, g1, g2⟩ := gM123
    have fa3 : ∀ a, a ∉ [77, 80, 82] → M123 a = M a := fun a ha => (hM123 a (in2 a ha)).trans (hfa a ha)
    have ot : ∀ j, 12 ≤ j → M123 77 j = M2 77 j := fun j hj => o1 j (by omega) (by omega) (by omega) (by omega) (by omega)
    by_cases e : figF (KT b n t1) (VT b n t1) 11 = 0
    · obtain ⟨A3, tx⟩ := g1 e
      have ft3 : FRT t0 M2 M123 := ⟨fun j hj => o1 j (by omega) (by omega) (by omega) (by omega) (by omega), fun j hj => by rw [tx, up_ne _ _ (by omega)]⟩
      have rc := Rch.one (s7_y (K := KT b n) (V := VT b n) (f := 0) (pl := []) (c := c) (cm := 0) (no := 0) (an := false) (od := false) (fr := c.length) (cR := cR) (nc := nc) (on := on) (so := s) (t := t1) (by rw [et]; exact e))
      rw [if_neg (by omega : ¬ s = 5)] at rc
      rw [e]
      refine good M123 (t1 + 1) c (up cR (3 * nc + 1) (VT b n t1)) ⟨A3, ⟨(ot 12 (by decide)).trans h12, (ot 14 (by decide)).trans h14, ?_⟩, (ot 18 (by decide)).trans h18, (ot 20 (by decide)).trans h20, (ot 21 (by decide)).trans h21, ?_, ?_, ?_, ?_⟩ (fun _ => ⟨?_, fun q => by omega⟩) (hrd.nx (by have := (figF_40 e).1; omega)) (by omega) (by omega) (hrch.trans rc) (hft.trans ft3) fa3
      · refine hCR.of (fun j hj => ?_)
        unfold cs
        rw [tx, up_ne _ _ (by omega)]
      · rw [tx, up_ne _ _ (by omega)]; exact htx
      · refine (hCW.of (fun j _ hj => ?_)).cr (fun j hj => ?_)
        · rw [tx, up_ne _ _ (by omega)]
        · rw [up_ne _ _ (by omega)]
      · rw [tx, up_ne _ _ (by omega)]; exact hx
      · rw [up_ne _ _ (by omega)]; exact hcx
      · rw [tx, up_same, up_same]
    · rw [g2 e] at fa3 ⊢
      have rc := Rch.one (s7_n (K := KT b n) (V := VT b n) (f := 0) (pl := []) (c := c) (cm := 0) (no := 0) (an := false) (od := false) (fr := c.length) (cR := cR) (nc := nc) (on := on) (so := s) (t := t1) (by rw [et]; exact e))
      rw [et] at rc
      exact bad M2 _ t1 e hf1 (hrch.trans rc) hA.2.2.2.1 hft fa3
