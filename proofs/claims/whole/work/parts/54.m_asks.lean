/-! an ASK, of the reference -/
section ST
variable {K : Nat → Nat} {V : Nat → Int} {t f so : Nat} {pl : List Int} {c : List (Int × Int)} {cm : Int} {no : Nat} {an od : Bool} {fr : Nat} {cR : Nat → Int} {nc on : Nat}
theorem s1_8 (h : K t = 17) (h8 : no = 8) : stp K V (cf 1 t f so pl c cm no an od fr cR nc on) = flt t 3 cR nc on := by
  show (if K t = 17 then if no = 8 then _ else _ else _) = _
  rw [if_pos h, if_pos h8]; rfl
theorem s1_y (h : K t = 17) (h8 : no ≠ 8) : stp K V (cf 1 t f so pl c cm no an od fr cR nc on) = cf 1 (t + 1) f so pl c cm (no + 1) an od fr cR nc on := by
  show (if K t = 17 then if no = 8 then _ else _ else _) = _
  rw [if_pos h, if_neg h8]; rfl
theorem s1_n (h : K t ≠ 17) : stp K V (cf 1 t f so pl c cm no an od fr cR nc on) = cf 2 t f so pl c cm no an od fr cR nc on := by
  show (if K t = 17 then _ else _) = _
  rw [if_neg h]; rfl
theorem s4_0 (h : so = 0) : stp K V (cf 4 t f so pl c cm no an od fr cR nc on) = cf 6 t f so [] c cm no an od fr cR nc on := by
  show (if so = 0 then _ else _) = _
  rw [if_pos h]; rfl
theorem s4_n (h : so ≠ 0) (hc : cmpF (K t) < 0) : stp K V (cf 4 t f so pl c 0 no an od fr cR nc on) = flt t 1 cR nc on := by
  show (if so = 0 then _ else if (0 : Int) = 0 then if cmpF (K t) < 0 then _ else _ else _) = _
  rw [if_neg h, if_pos rfl, if_pos hc]; rfl
theorem s4_y (h : so ≠ 0) (hc : ¬ cmpF (K t) < 0) : stp K V (cf 4 t f so pl c 0 no an od fr cR nc on) = cf 2 (t + 1) f so [] c (cmpF (K t)) no an od fr cR nc on := by
  show (if so = 0 then _ else if (0 : Int) = 0 then if cmpF (K t) < 0 then _ else _ else _) = _
  rw [if_neg h, if_pos rfl, if_neg hc]; rfl
theorem s4_c (h : so ≠ 0) (hc : cm ≠ 0) : stp K V (cf 4 t f so pl c cm no an od fr cR nc on) = cf 5 t f so [] (nts no ((cm, 0) :: c)) 0 0 an od fr cR nc on := by
  show (if so = 0 then _ else if cm = 0 then _ else _) = _
  rw [if_neg h, if_neg hc]; rfl
end ST
theorem nts_len : ∀ (k : Nat) (c : List (Int × Int)), (nts k c).length = c.length + k := by
  intro k
  induction k with
  | zero => intro c; rfl
  | succ k ih =>
    intro c
    show (nts k ((20, 0) :: c)).length = _
    rw [ih]
    show c.length + 1 + k = _
    omega
theorem cmpF_r (k : Nat) : cmpF k = -1 ∨ (10 ≤ cmpF k ∧ cmpF k ≤ 15 ∧ k ≠ 41) := by
  unfold cmpF
  repeat' split
  all_goals omega

set_option maxHeartbeats 2000000 in
theorem m_asks {b : Nat → Int} {n t0 so t : Nat} {c : List (Int × Int)} (ex f : Nat) (an od : Bool) (fr : Nat) (cR : Nat → Int) (nc on : Nat) (hok : okTp b n) (ht0 : t0 ≤ 2040) (hso : so ≤ 5) (hs0 : so ≠ 0) (hrd : Rd b n t) (hex : c.length + ex ≤ t) (S : ST) (M : MT) (hRS : RZ b n t0 so 0 M t c) : Ct E1 yX12_asks cX12_asks 5 (some .int) rm_X12_asks [.ref 77] S M (Qe [77, 80, 82] S M (fun v M1 => FRN t0 M M1 ∧ EndS b n t0 so 0 t ex (cf 1 t f so [] c 0 0 an od fr cR nc on) (fun t1 c1 => cf 5 t1 f so [] c1 0 0 an od fr cR nc on) cR nc on v M1)) := by
  refine Ct.mk [.ref 77, mkV, mkV, mkV, mkV] (by decide) rfl (Nat.le_of_ble_eq_true rfl) (fun X K => ?_)
  have in1 : ∀ a, a ∉ [77, 80, 82] → a ∉ [77, 80] ∧ a ∉ [77] := fun a ha => ⟨fun q => ha (by simp only [List.mem_cons, List.mem_nil_iff, or_false] at q ⊢; omega), fun q => ha (by simp only [List.mem_cons, List.mem_nil_iff, or_false] at q ⊢; omega)⟩
  have hn := hok.1
  -- the NOTs at the end
  have tail : ∀ (d j no : Nat) (c1 : List (Int × Int)) (M1 : MT) (t1 : Nat) (l2 l3 : Int), j + d = no → no ≤ 8 → t ≤ t1 → t1 ≤ n → Rd b n t1 → c1.length + d + ex ≤ t1 → Rch (KT b n) (VT b n) (cf 1 t f so [] c 0 0 an od fr cR nc on) (cf 5 t1 f so [] (nts d c1) 0 0 an od fr cR nc on) → RS b n t0 so 0 M1 t1 [] c1 → FRN t0 M M1 → (∀ a, a ∉ [77, 80, 82] → M1 a = M a) → Wp E1 X 105 [.ref 77, .int (z (no : Int)), .int (z l2), .int (z l3), .int (z (j : Int))] [] S M1 := by
    intro d
    induction d with
    | zero =>
      intro j no c1 M1 t1 l2 l3 hj h8 ht htn hr hl hrch R hfr hfa
      refine wp_iload (n := 107) K dX12_asks_105 rfl rfl ?_
      refine wp_iload_n (n := 108) K dX12_asks_107 rfl rfl ?_
      refine wp_icmp_ge (n := 111) K dX12_asks_108 rfl (tgt := 124) (by decide) ⟨by omega, by omega⟩ ⟨by omega, by omega⟩ (fun c108 => ?_) (fun c108 => ?_)
      · refine wp_iconst (n := 125) K dX12_asks_124 rfl ?_
        refine ret_ei K dX12_asks_125 rfl ?_ ?_ ⟨Nat.le_refl _, Nat.le_refl _⟩
        · exact hfa
        · exact ⟨hfr, Or.inl ⟨rfl, t1, c1, hrch, R, hr, by omega, ht⟩⟩
      · omega
    | succ d ih =>
      intro j no c1 M1 t1 l2 l3 hj h8 ht htn hr hl hrch R hfr hfa
      refine wp_iload (n := 107) K dX12_asks_105 rfl rfl ?_
      refine wp_iload_n (n := 108) K dX12_asks_107 rfl rfl ?_
      refine wp_icmp_ge (n := 111) K dX12_asks_108 rfl (tgt := 124) (by decide) ⟨by omega, by omega⟩ ⟨by omega, by omega⟩ (fun c108 => ?_) (fun c108 => ?_)
      · omega
      obtain ⟨p1, p2, p3, p4⟩ := R.2.1.em 20 0
      have R2 := R.ps p2 p1 (by rw [p4 18 (by decide)]; exact R.2.2.1) (p3 _ (by decide))
      refine wp_aload_n (n := 112) K dX12_asks_111 rfl rfl ?_
      refine wp_bipush (n := 114) K dX12_asks_112 rfl rfl ?_
      refine wp_iconst (n := 115) K dX12_asks_114 rfl ?_
      refine wp_invV_n (n := 118) K dX12_asks_115 rfl cf_X12_145 (m_emit t0 c1.length 20 0 ht0 (by omega) _ _ R.2.1.1 R.2.1.2.1) rfl rfl rfl (liS rfl) rfl (by decide) ⟨Nat.le_refl _, Nat.le_refl _⟩ (Nat.le_of_ble_eq_true rfl) ?_
      try simp only [up_same, up_up, up_ne, ne_eq, Nat.reduceEqDiff, not_false_eq_true, Int.reduceToNat, Int.toNat_natCast]
      refine wp_iinc (n := 121) K dX12_asks_118 rfl rfl (by decide) ?_
      refine wp_goto K dX12_asks_121 (tgt := 105) (by decide) ?_
      rw [show (j : Int) + 1 = ((j + 1 : Nat) : Int) by omega]
      exact ih (j + 1) no ((20, 0) :: c1) _ t1 l2 l3 (by omega) h8 ht htn hr (by show c1.length + 1 + d + ex ≤ t1; omega) hrch R2 (hfr.trans p2.n) (fun a ha => (p3 a (in1 a ha).1).trans (hfa a ha))
  -- the SUMs
  have mid : ∀ (no t1 : Nat) (M1 : MT), no ≤ 8 → t ≤ t1 → Rd b n t1 → c.length + no + ex ≤ t1 → Rch (KT b n) (VT b n) (cf 1 t f so [] c 0 0 an od fr cR nc on) (cf 2 t1 f so [] c 0 no an od fr cR nc on) → RZ b n t0 so no M1 t1 c → FRN t0 M M1 → (∀ a, a ∉ [77, 80, 82] → M1 a = M a) → Wp E1 X 49 [.ref 77, .int (z (no : Int)), mkV, mkV, mkV] [] S M1 := by
    intro no t1 M1 h8 ht hr hl hrch R hfr hfa
    have hln := hr.ln
    refine wp_aload_n (n := 50) K dX12_asks_49 rfl rfl ?_
    refine wp_invV_qe (n := 53) K dX12_asks_50 rfl cf_X12_195 (m_summed (ex + no) f 0 an od fr cR nc on hok ht0 hso h8 hr (by omega) _ _ R) rfl rfl rfl (liS rfl) rfl (by decide) ⟨Nat.le_refl _, Nat.le_refl _⟩ (Nat.le_of_ble_eq_true rfl) (fun vM50 M50 hM50 gM50 => ?_)
    try simp only [up_same, up_up, up_ne, ne_eq, Nat.reduceEqDiff, not_false_eq_true, Int.reduceToNat, Int.toNat_natCast]
    refine wp_istore_n (n := 54) K dX12_asks_53 rfl (by decide) ?_
    obtain ⟨f1, g1⟩ := gM50
    have hfa1 : ∀ a, a ∉ [77, 80, 82] → M50 a = M a := fun a ha => (hM50 a ha).trans (hfa a ha)
    rcases g1 with ⟨rfl, t2, c2, rc2, R1, r2, l2, tt2⟩ | ⟨f', t', e1, e2, e3, e4, e5⟩
    rotate_left
    · rw [e1]
      refine wp_iload_n (n := 55) K dX12_asks_54 rfl rfl ?_
      refine wp_if_eq (n := 58) K dX12_asks_55 rfl (tgt := 60) (by decide) ⟨by omega, by omega⟩ (fun c55 => ?_) (fun c55 => ?_)
      · omega
      refine wp_iload_n (n := 59) K dX12_asks_58 rfl rfl ?_
      refine ret_ei K dX12_asks_59 rfl ?_ ?_ ⟨Nat.le_refl _, Nat.le_refl _⟩
      · exact hfa1
      · exact ⟨hfr.trans f1, Or.inr ⟨f', t', rfl, e2, e3, hrch.trans e4, e5⟩⟩
    refine wp_iload_n (n := 55) K dX12_asks_54 rfl rfl ?_
    refine wp_if_eq (n := 58) K dX12_asks_55 rfl (tgt := 60) (by decide) ⟨by omega, by omega⟩ (fun c55 => ?_) (fun c55 => ?_)
    rotate_left
    · exact absurd rfl c55
    have hcr := cmpF_r (KT b n t2)
    have hln2 := r2.ln
    refine wp_aload_n (n := 61) K dX12_asks_60 rfl rfl ?_
    refine wp_invV_i (n := 64) K dX12_asks_61 rfl cf_X12_198 (m_compareOf _ _ _ _ R1.1.2.2.2.2) rfl rfl rfl (liS rfl) rfl (by decide) ⟨Nat.le_refl _, Nat.le_refl _⟩ (Nat.le_of_ble_eq_true rfl) ?_
    try simp only [up_same, up_up, up_ne, ne_eq, Nat.reduceEqDiff, not_false_eq_true, Int.reduceToNat, Int.toNat_natCast]
    refine wp_istore_n (n := 65) K dX12_asks_64 rfl (by decide) ?_
    refine wp_iload_n (n := 66) K dX12_asks_65 rfl rfl ?_
    refine wp_if_ge (n := 69) K dX12_asks_66 rfl (tgt := 71) (by decide) ⟨by omega, by omega⟩ (fun c66 => ?_) (fun c66 => ?_)
    rotate_left
    · refine wp_iconst (n := 70) K dX12_asks_69 rfl ?_
      refine ret_ei K dX12_asks_70 rfl ?_ ?_ ⟨Nat.le_refl _, Nat.le_refl _⟩
      · exact hfa1
      · exact ⟨hfr.trans f1, Or.inr ⟨1, t2, rfl, by decide, by decide, hrch.trans (rc2.trans (Rch.one (s4_n hs0 c66))), R1.1.2.2.2.1⟩⟩
    have hcm : ¬ cmpF (KT b n t2) < 0 := by omega
    have hk41 : KT b n t2 ≠ 41 := by omega
    refine wp_aload_n (n := 72) K dX12_asks_71 rfl rfl ?_
    refine wp_invV_qn (n := 75) K dX12_asks_72 rfl cf_X12_160 (m_next hok _ _ R1.1) rfl rfl rfl (liS rfl) rfl (by decide) ⟨Nat.le_refl _, Nat.le_refl _⟩ (Nat.le_of_ble_eq_true rfl) (fun M72 hM72 gM72 => ?_)
    try simp only [up_same, up_up, up_ne, ne_eq, Nat.reduceEqDiff, not_false_eq_true, Int.reduceToNat, Int.toNat_natCast]
    obtain ⟨R2, o2⟩ := R1.nx hM72 gM72
    have r3 := r2.nx hk41
    refine wp_aload_n (n := 76) K dX12_asks_75 rfl rfl ?_
    refine wp_invV_qe (n := 79) K dX12_asks_76 rfl cf_X12_195 (m_summed (ex + no + 1) f (cmpF (KT b n t2)) an od fr cR nc on hok ht0 hso h8 r3 (by omega) _ _ R2.z) rfl rfl rfl (liS rfl) rfl (by decide) ⟨Nat.le_refl _, Nat.le_refl _⟩ (Nat.le_of_ble_eq_true rfl) (fun vM76 M76 hM76 gM76 => ?_)
    try simp only [up_same, up_up, up_ne, ne_eq, Nat.reduceEqDiff, not_false_eq_true, Int.reduceToNat, Int.toNat_natCast]
    refine wp_istore_n (n := 80) K dX12_asks_79 rfl (by decide) ?_
    obtain ⟨f3, g3⟩ := gM76
    have hfa2 : ∀ a, a ∉ [77, 80, 82] → M76 a = M a := fun a ha => (hM76 a ha).trans ((hM72 a (in1 a ha).2).trans (hfa1 a ha))
    have rch3 := (hrch.trans rc2).trans (Rch.one (s4_y (f := f) (pl := []) (c := c2) (no := no) (an := an) (od := od) (fr := fr) (cR := cR) (nc := nc) (on := on) (V := VT b n) hs0 hcm))
    rcases g3 with ⟨rfl, t4, c4, rc4, R4, r4, l4, tt4⟩ | ⟨f', t', e1, e2, e3, e4, e5⟩
    rotate_left
    · rw [e1]
      refine wp_iload_n (n := 81) K dX12_asks_80 rfl rfl ?_
      refine wp_if_eq (n := 84) K dX12_asks_81 rfl (tgt := 86) (by decide) ⟨by omega, by omega⟩ (fun c81 => ?_) (fun c81 => ?_)
      · omega
      refine wp_iload_n (n := 85) K dX12_asks_84 rfl rfl ?_
      refine ret_ei K dX12_asks_85 rfl ?_ ?_ ⟨Nat.le_refl _, Nat.le_refl _⟩
      · exact hfa2
      · exact ⟨((hfr.trans f1).trans (o2.n hM72)).trans f3, Or.inr ⟨f', t', rfl, e2, e3, rch3.trans e4, e5⟩⟩
    refine wp_iload_n (n := 81) K dX12_asks_80 rfl rfl ?_
    refine wp_if_eq (n := 84) K dX12_asks_81 rfl (tgt := 86) (by decide) ⟨by omega, by omega⟩ (fun c81 => ?_) (fun c81 => ?_)
    rotate_left
    · exact absurd rfl c81
    have hln4 := r4.ln
    obtain ⟨p1, p2, p3, p4⟩ := R4.2.1.em (cmpF (KT b n t2)) 0
    have R5 := R4.ps p2 p1 (by rw [p4 18 (by decide)]; exact R4.2.2.1) (p3 _ (by decide))
    have h18 := R5.2.2.1
    refine wp_aload_n (n := 87) K dX12_asks_86 rfl rfl ?_
    refine wp_iload_n (n := 88) K dX12_asks_87 rfl rfl ?_
    refine wp_iconst (n := 89) K dX12_asks_88 rfl ?_
    refine wp_invV_n (n := 92) K dX12_asks_89 rfl cf_X12_145 (m_emit t0 c4.length (cmpF (KT b n t2)) 0 ht0 (by omega) _ _ R4.2.1.1 R4.2.1.2.1) rfl rfl rfl (liS rfl) rfl (by decide) ⟨Nat.le_refl _, Nat.le_refl _⟩ (Nat.le_of_ble_eq_true rfl) ?_
    try simp only [up_same, up_up, up_ne, ne_eq, Nat.reduceEqDiff, not_false_eq_true, Int.reduceToNat, Int.toNat_natCast]
    refine wp_aload_n (n := 93) K dX12_asks_92 rfl rfl ?_
    refine wp_dup (n := 94) K dX12_asks_93 rfl rfl ?_
    refine wp_getI (n := 97) K dX12_asks_94 rfl fl_X12_142 rfl (liS rfl) rfl ?_
    try simp only [up_same, up_up, up_ne, ne_eq, Nat.reduceEqDiff, not_false_eq_true, Int.reduceToNat, Int.toNat_natCast]
    refine wp_iload_n (n := 98) K dX12_asks_97 rfl rfl ?_
    refine wp_isub (n := 99) K dX12_asks_98 rfl ?_
    refine wp_putI (n := 102) K dX12_asks_99 rfl fl_X12_142 rfl (liS rfl) (Or.inl rfl) rfl rfl ?_
    try simp only [up_same, up_up, up_ne, ne_eq, Nat.reduceEqDiff, not_false_eq_true, Int.reduceToNat, Int.toNat_natCast]
    refine wp_iconst (n := 103) K dX12_asks_102 rfl ?_
    refine wp_istore (n := 105) K dX12_asks_103 rfl (by decide) ?_
    generalize emM M76 t0 c4.length (cmpF (KT b n t2)) 0 = M9 at *
    have f9 : FR t0 M9 (up M9 77 (up (M9 77) 18 (M9 77 18 - (no : Int)))) := ⟨fun j _ _ q _ => by rw [up_same, up_ne _ _ q], fun j _ => rfl⟩
    have R6 : RS b n t0 so 0 (up M9 77 (up (M9 77) 18 (M9 77 18 - (no : Int)))) t4 [] ((cmpF (KT b n t2), 0) :: c4) := by
      refine ⟨R5.1.of rfl (fun j p q => f9.1 j (by omega) (by omega) (by omega) (by omega)), R5.2.1.of rfl rfl rfl rfl rfl, ?_, R5.2.2.2⟩
      rw [up_same, up_same, h18]
      show ((no + 0 : Nat) : Int) - (no : Int) = ((0 + 0 : Nat) : Int)
      omega
    exact tail no 0 no _ _ t4 _ _ (by omega) h8 (by omega) hln4 r4 (by show c4.length + 1 + no + ex ≤ t4; omega) (rch3.trans (rc4.trans (Rch.one (s4_c hs0 (by omega))))) R6 ((((hfr.trans f1).trans (o2.n hM72)).trans f3).trans (p2.n.trans f9.n)) (fun a ha => by rw [up_ne _ _ (fun q => (in1 a ha).2 (by rw [q]; decide)), p3 a (in1 a ha).1]; exact hfa2 a ha)
  have loop : ∀ (d no t1 : Nat) (M1 : MT), t1 + d = n + 1 → no ≤ 8 → t ≤ t1 → Rd b n t1 → c.length + no + ex ≤ t1 → Rch (KT b n) (VT b n) (cf 1 t f so [] c 0 0 an od fr cR nc on) (cf 1 t1 f so [] c 0 no an od fr cR nc on) → RZ b n t0 so no M1 t1 c → FRN t0 M M1 → (∀ a, a ∉ [77, 80, 82] → M1 a = M a) → Wp E1 X 2 [.ref 77, .int (z (no : Int)), mkV, mkV, mkV] [] S M1 := by
    intro d
    induction d with
    | zero => intro no t1 M1 hd _ _ hr; have := hr.ln; omega
    | succ d ih =>
      intro no t1 M1 hd h8 ht hr hl hrch hRS hfr hfa
      have h18 : M1 77 18 = (no : Int) := hRS.2.2.1
      refine wp_aload_n (n := 3) K dX12_asks_2 rfl rfl ?_
      refine wp_bipush (n := 5) K dX12_asks_3 rfl rfl ?_
      refine wp_bipush (n := 7) K dX12_asks_5 rfl rfl ?_
      refine wp_bipush (n := 9) K dX12_asks_7 rfl rfl ?_
      refine wp_invS_l (n := 12) K dX12_asks_9 rfl cf_X12_121 (m_w3 _ _ _ ⟨by decide, by decide⟩ ⟨by decide, by decide⟩ ⟨by decide, by decide⟩ _ _) rfl rfl (by decide) ⟨Nat.le_refl _, Nat.le_refl _⟩ (Nat.le_of_ble_eq_true rfl) ?_
      try simp only [up_same, up_up, up_ne, ne_eq, Nat.reduceEqDiff, not_false_eq_true, Int.reduceToNat, Int.toNat_natCast]
      refine wp_invV_i (n := 15) K dX12_asks_12 rfl cf_X12_191 (m_isWord 17 _ _ (by decide) _ _ hRS.1.2.2.2.2) rfl rfl rfl (liS rfl) rfl (by decide) ⟨Nat.le_refl _, Nat.le_refl _⟩ (Nat.le_of_ble_eq_true rfl) ?_
      try simp only [up_same, up_up, up_ne, ne_eq, Nat.reduceEqDiff, not_false_eq_true, Int.reduceToNat, Int.toNat_natCast]
      refine wp_if_eq_b (n := 18) K dX12_asks_15 rfl (tgt := 49) (by decide) (fun c15 => ?_) (fun c15 => ?_)
      · exact mid no t1 M1 h8 ht hr hl (hrch.trans (Rch.one (s1_n (of_decide_eq_false c15)))) hRS hfr hfa
      have k17 := of_decide_eq_true c15
      refine wp_aload_n (n := 19) K dX12_asks_18 rfl rfl ?_
      refine wp_getI (n := 22) K dX12_asks_19 rfl fl_X12_142 rfl (liS rfl) rfl ?_
      try simp only [up_same, up_up, up_ne, ne_eq, Nat.reduceEqDiff, not_false_eq_true, Int.reduceToNat, Int.toNat_natCast]
      refine wp_bipush (n := 24) K dX12_asks_22 rfl rfl ?_
      refine wp_icmp_ne (n := 27) K dX12_asks_24 rfl (tgt := 29) (by decide) ⟨by omega, by omega⟩ ⟨by omega, by omega⟩ (fun c24 => ?_) (fun c24 => ?_)
      rotate_left
      · refine wp_iconst (n := 28) K dX12_asks_27 rfl ?_
        refine ret_ei K dX12_asks_28 rfl ?_ ?_ ⟨Nat.le_refl _, Nat.le_refl _⟩
        · exact hfa
        · exact ⟨hfr, Or.inr ⟨3, t1, rfl, by decide, by decide, hrch.trans (Rch.one (s1_8 k17 (by omega))), hRS.1.2.2.2.1⟩⟩
      refine wp_aload_n (n := 30) K dX12_asks_29 rfl rfl ?_
      refine wp_dup (n := 31) K dX12_asks_30 rfl rfl ?_
      refine wp_getI (n := 34) K dX12_asks_31 rfl fl_X12_142 rfl (liS rfl) rfl ?_
      try simp only [up_same, up_up, up_ne, ne_eq, Nat.reduceEqDiff, not_false_eq_true, Int.reduceToNat, Int.toNat_natCast]
      refine wp_iconst (n := 35) K dX12_asks_34 rfl ?_
      refine wp_iadd (n := 36) K dX12_asks_35 rfl ?_
      refine wp_putI (n := 39) K dX12_asks_36 rfl fl_X12_142 rfl (liS rfl) (Or.inl rfl) rfl rfl ?_
      try simp only [up_same, up_up, up_ne, ne_eq, Nat.reduceEqDiff, not_false_eq_true, Int.reduceToNat, Int.toNat_natCast]
      refine wp_iinc (n := 42) K dX12_asks_39 rfl rfl (by decide) ?_
      refine wp_aload_n (n := 43) K dX12_asks_42 rfl rfl ?_
      have f9 : FR t0 M1 (up M1 77 (up (M1 77) 18 (M1 77 18 + 1))) := ⟨fun j _ _ q _ => by rw [up_same, up_ne _ _ q], fun j _ => rfl⟩
      have R6 : RZ b n t0 so (no + 1) (up M1 77 (up (M1 77) 18 (M1 77 18 + 1))) t1 c := by
        refine ⟨hRS.1.of rfl (fun j p q => f9.1 j (by omega) (by omega) (by omega) (by omega)), hRS.2.1, ?_, hRS.2.2.2⟩
        rw [up_same, up_same, h18]
        omega
      refine wp_invV_qn (n := 46) K dX12_asks_43 rfl cf_X12_160 (m_next hok _ _ R6.1) rfl rfl rfl (liS rfl) rfl (by decide) ⟨Nat.le_refl _, Nat.le_refl _⟩ (Nat.le_of_ble_eq_true rfl) (fun M43 hM43 gM43 => ?_)
      try simp only [up_same, up_up, up_ne, ne_eq, Nat.reduceEqDiff, not_false_eq_true, Int.reduceToNat, Int.toNat_natCast]
      refine wp_goto K dX12_asks_46 (tgt := 2) (by decide) ?_
      obtain ⟨R7, o7⟩ := R6.nx hM43 gM43
      rw [show (no : Int) + 1 = ((no + 1 : Nat) : Int) by omega]
      exact ih (no + 1) (t1 + 1) M43 (by omega) (by omega) (by omega) (hr.nx (by omega)) (by omega) (hrch.trans (Rch.one (s1_y k17 (by omega)))) R7 ((hfr.trans f9.n).trans (o7.n hM43)) (fun a ha => by rw [hM43 a (in1 a ha).2, up_ne _ _ (fun q => (in1 a ha).2 (by rw [q]; decide))]; exact hfa a ha)
  refine wp_iconst (n := 1) K dX12_asks_0 rfl ?_
  refine wp_istore_n (n := 2) K dX12_asks_1 rfl (by decide) ?_
  have hln := hrd.ln
  exact loop (n + 1 - t) 0 t M (by omega) (by decide) (Nat.le_refl _) hrd (by omega) (Rch.refl _) hRS (FRN.refl _ _) (fun a _ => rfl)
