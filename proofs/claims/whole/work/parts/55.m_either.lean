/-! ASKS with 'and' and 'or', of the reference -/
section ST
variable {K : Nat → Nat} {V : Nat → Int} {t f so : Nat} {pl : List Int} {c : List (Int × Int)} {cm : Int} {no : Nat} {an od : Bool} {fr : Nat} {cR : Nat → Int} {nc on : Nat}
def emI (a : Bool) (o : Int) (c : List (Int × Int)) : List (Int × Int) := if a = true then (o, 0) :: c else c
theorem s5_a (h : K t = 16) : stp K V (cf 5 t f so pl c cm no an od fr cR nc on) = cf 1 (t + 1) f so [] (emI an 21 c) 0 0 true od fr cR nc on := by
  show (if K t = 16 then _ else _) = _
  rw [if_pos h]; rfl
theorem s5_o (h : K t = 15) : stp K V (cf 5 t f so pl c cm no an od fr cR nc on) = cf 1 (t + 1) f so [] (emI od 22 (emI an 21 c)) 0 0 false true fr cR nc on := by
  show (if K t = 16 then _ else if K t = 15 then _ else _) = _
  rw [if_neg (by omega), if_pos h]; rfl
theorem s5_n (h : K t ≠ 16) (h2 : K t ≠ 15) : stp K V (cf 5 t f so pl c cm no an od fr cR nc on) = cf 6 t f so [] (emI od 22 (emI an 21 c)) 0 0 false false fr cR nc on := by
  show (if K t = 16 then _ else if K t = 15 then _ else _) = _
  rw [if_neg h, if_neg h2]; rfl
end ST
def b1 (a : Bool) : Nat := if a = true then 1 else 0
theorem emI_len (a : Bool) (o : Int) (c : List (Int × Int)) : (emI a o c).length = c.length + b1 a := by cases a <;> rfl
theorem b1_r (a : Bool) : b1 a ≤ 1 := by cases a <;> decide
theorem RS.em {b : Nat → Int} {n t0 so o t : Nat} {M : MT} {pl : List Int} {c : List (Int × Int)} (h : RS b n t0 so o M t pl c) (u v : Int) : RS b n t0 so o (emM M t0 c.length u v) t pl ((u, v) :: c) ∧ FRN t0 M (emM M t0 c.length u v) ∧ (∀ a, a ∉ [77, 80, 82] → emM M t0 c.length u v a = M a) := by
  obtain ⟨p1, p2, p3, p4⟩ := h.2.1.em u v
  exact ⟨h.ps p2 p1 (by rw [p4 18 (by decide)]; exact h.2.2.1) (p3 _ (by decide)), p2.n, fun a ha => p3 a (fun q => ha (by simp only [List.mem_cons, List.mem_nil_iff, or_false] at q ⊢; omega))⟩

set_option maxHeartbeats 4000000 in
theorem m_either {b : Nat → Int} {n t0 so t : Nat} {c : List (Int × Int)} (f : Nat) (fr : Nat) (cR : Nat → Int) (nc on : Nat) (hok : okTp b n) (ht0 : t0 ≤ 2040) (hso : so ≤ 5) (hs0 : so ≠ 0) (hrd : Rd b n t) (hex : c.length ≤ t) (S : ST) (M : MT) (hRS : RS b n t0 so 0 M t [] c) : Ct E1 yX12_either cX12_either 6 (some .int) rm_X12_either [.ref 77] S M (Qe [77, 80, 82] S M (fun v M1 => FRN t0 M M1 ∧ EndS b n t0 so 0 t 0 (cf 1 t f so [] c 0 0 false false fr cR nc on) (fun t1 c1 => cf 6 t1 f so [] c1 0 0 false false fr cR nc on) cR nc on v M1)) := by
  refine Ct.mk [.ref 77, mkV, mkV, mkV, mkV, mkV] (by decide) rfl (Nat.le_of_ble_eq_true rfl) (fun X K => ?_)
  have in1 : ∀ a, a ∉ [77, 80, 82] → a ∉ [77] := fun a ha => fun q => ha (by simp only [List.mem_cons, List.mem_nil_iff, or_false] at q ⊢; omega)
  have hn := hok.1
  have hex0 := hex
  have stop : ∀ (l1 l2 l4 l5 : Value) (t1 : Nat) (c1 : List (Int × Int)) (M1 : MT), t ≤ t1 → Rd b n t1 → c1.length ≤ t1 → Rch (KT b n) (VT b n) (cf 1 t f so [] c 0 0 false false fr cR nc on) (cf 6 t1 f so [] c1 0 0 false false fr cR nc on) → RS b n t0 so 0 M1 t1 [] c1 → FRN t0 M M1 → (∀ a, a ∉ [77, 80, 82] → M1 a = M a) → Wp E1 X 6 [.ref 77, l1, l2, .int (z (bI false)), l4, l5] [] S M1 := by
    intro l1 l2 l4 l5 t1 c1 M1 ht hr hl hrch hRS hfr hfa
    refine wp_iload_n (n := 7) K dX12_either_6 rfl rfl ?_
    refine wp_if_eq_b (n := 10) K dX12_either_7 rfl (tgt := 119) (by decide) (fun c7 => ?_) (fun c7 => ?_)
    · refine wp_iconst (n := 120) K dX12_either_119 rfl ?_
      refine ret_ei K dX12_either_120 rfl ?_ ?_ ⟨Nat.le_refl _, Nat.le_refl _⟩
      · exact hfa
      · exact ⟨hfr, Or.inl ⟨rfl, t1, c1, hrch, hRS, hr, by omega, ht⟩⟩
    · cases c7
  have loop : ∀ (d t1 : Nat) (an od : Bool) (c1 : List (Int × Int)) (M1 : MT) (l4 l5 : Value), l4.category = 1 → l5.category = 1 → t1 + d = n + 1 → t ≤ t1 → Rd b n t1 → c1.length + b1 an + b1 od ≤ t1 → Rch (KT b n) (VT b n) (cf 1 t f so [] c 0 0 false false fr cR nc on) (cf 1 t1 f so [] c1 0 0 an od fr cR nc on) → RS b n t0 so 0 M1 t1 [] c1 → FRN t0 M M1 → (∀ a, a ∉ [77, 80, 82] → M1 a = M a) → Wp E1 X 6 [.ref 77, .int (z (bI an)), .int (z (bI od)), .int (z (bI true)), l4, l5] [] S M1 := by
    sorry
  refine wp_iconst (n := 1) K dX12_either_0 rfl ?_
  refine wp_istore_n (n := 2) K dX12_either_1 rfl (by decide) ?_
  refine wp_iconst (n := 3) K dX12_either_2 rfl ?_
  refine wp_istore_n (n := 4) K dX12_either_3 rfl (by decide) ?_
  refine wp_iconst (n := 5) K dX12_either_4 rfl ?_
  refine wp_istore_n (n := 6) K dX12_either_5 rfl (by decide) ?_
  have hln := hrd.ln
  sorry
