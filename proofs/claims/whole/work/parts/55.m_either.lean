/-! ASKS with 'and' and 'or', of the reference -/
section ST
variable {K : Nat → Nat} {V : Nat → Int} {t f so : Nat} {pl : List Int} {c : List (Int × Int)} {cm : Int} {no : Nat} {an od : Bool} {fr : Nat} {cR : Nat → Int} {nc on : Nat}
def emI (a : Bool) (o : Int) (c : List (Int × Int)) : List (Int × Int) := if a = true then (o, 0) :: c else c
theorem s5_a (h : K t = 16) : stp K V (cf 5 t f so pl c cm no an od fr cR nc on) = cf 1 (t + 1) f so [] (emI an 21 c) 0 0 true od fr cR nc on := by
  show (if K t = 16 then _ else _) = _
  rw [if_pos h]; rfl
theorem s5_o (h : K t = 15) : stp K V (cf 5 t f so pl c cm no an od fr cR nc on) = cf 1 (t + 1) f so [] (emI od 22 (emI an 21 c)) 0 0 false true fr cR nc on := by
  show (if K t = 16 then _ else if K t = 15 then _ else _) = _
  rw [if_neg (by omega), if_pos h]; rfl
theorem s5_n (h : K t ≠ 16) (h2 : K t ≠ 15) : stp K V (cf 5 t f so pl c cm no an od fr cR nc on) = cf 6 t f so [] (emI od 22 (emI an 21 c)) 0 0 false false fr cR nc on := by
  show (if K t = 16 then _ else if K t = 15 then _ else _) = _
  rw [if_neg h, if_neg h2]; rfl
end ST
def b1 (a : Bool) : Nat := if a = true then 1 else 0
theorem emI_len (a : Bool) (o : Int) (c : List (Int × Int)) : (emI a o c).length = c.length + b1 a := by cases a <;> rfl
theorem b1_r (a : Bool) : b1 a ≤ 1 := by cases a <;> decide
theorem RS.em {b : Nat → Int} {n t0 so o t : Nat} {M : MT} {pl : List Int} {c : List (Int × Int)} (h : RS b n t0 so o M t pl c) (u v : Int) : RS b n t0 so o (emM M t0 c.length u v) t pl ((u, v) :: c) ∧ FRN t0 M (emM M t0 c.length u v) ∧ (∀ a, a ∉ [77, 80, 82] → emM M t0 c.length u v a = M a) := by
  obtain ⟨p1, p2, p3, p4⟩ := h.2.1.em u v
  exact ⟨h.ps p2 p1 (by rw [p4 18 (by decide)]; exact h.2.2.1) (p3 _ (by decide)), p2.n, fun a ha => p3 a (fun q => ha (by simp only [List.mem_cons, List.mem_nil_iff, or_false] at q ⊢; omega))⟩

set_option maxHeartbeats 4000000 in
theorem m_either {b : Nat → Int} {n t0 so t : Nat} {c : List (Int × Int)} (f : Nat) (fr : Nat) (cR : Nat → Int) (nc on : Nat) (hok : okTp b n) (ht0 : t0 ≤ 2040) (hso : so ≤ 5) (hs0 : so ≠ 0) (hrd : Rd b n t) (hex : c.length ≤ t) (S : ST) (M : MT) (hRS : RZ b n t0 so 0 M t c) : Ct E1 yX12_either cX12_either 6 (some .int) rm_X12_either [.ref 77] S M (Qe [77, 80, 82] S M (fun v M1 => FRN t0 M M1 ∧ EndS b n t0 so 0 t 0 (cf 1 t f so [] c 0 0 false false fr cR nc on) (fun t1 c1 => cf 6 t1 f so [] c1 0 0 false false fr cR nc on) cR nc on v M1)) := by
  refine Ct.mk [.ref 77, mkV, mkV, mkV, mkV, mkV] (by decide) rfl (Nat.le_of_ble_eq_true rfl) (fun X K => ?_)
  have in1 : ∀ a, a ∉ [77, 80, 82] → a ∉ [77] := fun a ha => fun q => ha (by simp only [List.mem_cons, List.mem_nil_iff, or_false] at q ⊢; omega)
  have hn := hok.1
  have hex0 := hex
  have stop : ∀ (l1 l2 l4 l5 : Value) (t1 : Nat) (c1 : List (Int × Int)) (M1 : MT), t ≤ t1 → Rd b n t1 → c1.length ≤ t1 → Rch (KT b n) (VT b n) (cf 1 t f so [] c 0 0 false false fr cR nc on) (cf 6 t1 f so [] c1 0 0 false false fr cR nc on) → RS b n t0 so 0 M1 t1 [] c1 → FRN t0 M M1 → (∀ a, a ∉ [77, 80, 82] → M1 a = M a) → Wp E1 X 6 [.ref 77, l1, l2, .int (z (bI false)), l4, l5] [] S M1 := by
    intro l1 l2 l4 l5 t1 c1 M1 ht hr hl hrch hRS hfr hfa
    refine wp_iload_n (n := 7) K dX12_either_6 rfl rfl ?_
    refine wp_if_eq_b (n := 10) K dX12_either_7 rfl (tgt := 119) (by decide) (fun c7 => ?_) (fun c7 => ?_)
    · refine wp_iconst (n := 120) K dX12_either_119 rfl ?_
      refine ret_ei K dX12_either_120 rfl ?_ ?_ ⟨Nat.le_refl _, Nat.le_refl _⟩
      · exact hfa
      · exact ⟨hfr, Or.inl ⟨rfl, t1, c1, hrch, hRS, hr, by omega, ht⟩⟩
    · cases c7
  have loop : ∀ (d t1 : Nat) (an od : Bool) (c1 : List (Int × Int)) (M1 : MT) (l4 l5 : Value), n + 1 ≤ t1 + d → t ≤ t1 → Rd b n t1 → c1.length + b1 an + b1 od ≤ t1 → Rch (KT b n) (VT b n) (cf 1 t f so [] c 0 0 false false fr cR nc on) (cf 1 t1 f so [] c1 0 0 an od fr cR nc on) → RZ b n t0 so 0 M1 t1 c1 → FRN t0 M M1 → (∀ a, a ∉ [77, 80, 82] → M1 a = M a) → Wp E1 X 6 [.ref 77, .int (z (bI an)), .int (z (bI od)), .int (z (bI true)), l4, l5] [] S M1 := by
    intro d
    induction d with
    | zero => intro t1 an od c1 M1 l4 l5 hd _ hr; have := hr.ln; omega
    | succ d ih =>
      intro t1 an od c1 M1 l4 l5 hd ht hr hl hrch hRS hfr hfa
      have hln := hr.ln
      refine wp_iload_n (n := 7) K dX12_either_6 rfl rfl ?_
      refine wp_if_eq_b (n := 10) K dX12_either_7 rfl (tgt := 119) (by decide) (fun c7 => ?_) (fun c7 => ?_)
      · cases c7
      refine wp_aload_n (n := 11) K dX12_either_10 rfl rfl ?_
      refine wp_invV_qe (n := 14) K dX12_either_11 rfl cf_X12_201 (m_asks (b1 an + b1 od) f an od fr cR nc on hok ht0 hso hs0 hr (by omega) _ _ hRS) rfl rfl rfl (liS rfl) rfl (by decide) ⟨Nat.le_refl _, Nat.le_refl _⟩ (Nat.le_of_ble_eq_true rfl) (fun vM11 M11 hM11 gM11 => ?_)
      try simp only [up_same, up_up, up_ne, ne_eq, Nat.reduceEqDiff, not_false_eq_true, Int.reduceToNat, Int.toNat_natCast]
      refine wp_istore (n := 16) K dX12_either_14 rfl (by decide) ?_
      obtain ⟨f1, g1⟩ := gM11
      have hfa1 : ∀ a, a ∉ [77, 80, 82] → M11 a = M a := fun a ha => (hM11 a ha).trans (hfa a ha)
      rcases g1 with ⟨rfl, t2, c2, rc2, R1, r2, l2, tt2⟩ | ⟨f', t', e1, e2, e3, e4, e5⟩
      rotate_left
      · rw [e1]
        refine wp_iload (n := 18) K dX12_either_16 rfl rfl ?_
        refine wp_if_eq (n := 21) K dX12_either_18 rfl (tgt := 24) (by decide) ⟨by omega, by omega⟩ (fun c18 => ?_) (fun c18 => ?_)
        · omega
        refine wp_iload (n := 23) K dX12_either_21 rfl rfl ?_
        refine ret_ei K dX12_either_23 rfl ?_ ?_ ⟨Nat.le_refl _, Nat.le_refl _⟩
        · exact hfa1
        · exact ⟨hfr.trans f1, Or.inr ⟨f', t', rfl, e2, e3, hrch.trans e4, e5⟩⟩
      refine wp_iload (n := 18) K dX12_either_16 rfl rfl ?_
      refine wp_if_eq (n := 21) K dX12_either_18 rfl (tgt := 24) (by decide) ⟨by omega, by omega⟩ (fun c18 => ?_) (fun c18 => ?_)
      rotate_left
      · exact absurd rfl c18
      have hln2 := r2.ln
      have rch2 := hrch.trans rc2
      have ban := b1_r an
      have bod := b1_r od
      -- on to the next ASK
      have on1 : ∀ (a o : Bool) (c4 : List (Int × Int)) (l4 l5 : Value) (M4 : MT), KT b n t2 ≠ 41 → stp (KT b n) (VT b n) (cf 5 t2 f so [] c2 0 0 an od fr cR nc on) = cf 1 (t2 + 1) f so [] c4 0 0 a o fr cR nc on → c4.length + b1 a + b1 o ≤ t2 + 1 → RS b n t0 so 0 M4 t2 [] c4 → FRN t0 M M4 → (∀ a, a ∉ [77, 80, 82] → M4 a = M a) → Wp E1 X 107 [.ref 77, .int (z (bI a)), .int (z (bI o)), .int (z (bI true)), l4, l5] [.int (z 1)] S M4 := by
        intro a o c4 l4 l5 M4 h41 hst hc4 R4 f4 a4
        refine wp_istore_n (n := 108) K dX12_either_107 rfl (by decide) ?_
        refine wp_iload_n (n := 109) K dX12_either_108 rfl rfl ?_
        refine wp_if_eq (n := 112) K dX12_either_109 rfl (tgt := 116) (by decide) ⟨by omega, by omega⟩ (fun c109 => ?_) (fun c109 => ?_)
        · exact absurd c109 (by decide)
        refine wp_aload_n (n := 113) K dX12_either_112 rfl rfl ?_
        refine wp_invV_qn (n := 116) K dX12_either_113 rfl cf_X12_160 (m_next hok _ _ R4.1) rfl rfl rfl (liS rfl) rfl (by decide) ⟨Nat.le_refl _, Nat.le_refl _⟩ (Nat.le_of_ble_eq_true rfl) (fun M113 hM113 gM113 => ?_)
        try simp only [up_same, up_up, up_ne, ne_eq, Nat.reduceEqDiff, not_false_eq_true, Int.reduceToNat, Int.toNat_natCast]
        refine wp_goto K dX12_either_116 (tgt := 6) (by decide) ?_
        obtain ⟨R5, o5⟩ := R4.nx hM113 gM113
        exact ih (t2 + 1) a o c4 M113 l4 l5 (by omega) (by omega) (r2.nx h41) hc4 (rch2.trans (Rch.one hst)) R5.z (f4.trans (o5.n hM113)) (fun x hx => (hM113 x (in1 x hx)).trans (a4 x hx))
      have off1 : ∀ (a o : Bool) (c4 : List (Int × Int)) (l4 l5 : Value) (M4 : MT), stp (KT b n) (VT b n) (cf 5 t2 f so [] c2 0 0 an od fr cR nc on) = cf 6 t2 f so [] c4 0 0 false false fr cR nc on → c4.length ≤ t2 → RS b n t0 so 0 M4 t2 [] c4 → FRN t0 M M4 → (∀ a, a ∉ [77, 80, 82] → M4 a = M a) → Wp E1 X 107 [.ref 77, .int (z (bI a)), .int (z (bI o)), .int (z (bI true)), l4, l5] [.int (z 0)] S M4 := by
        intro a o c4 l4 l5 M4 hst hc4 R4 f4 a4
        refine wp_istore_n (n := 108) K dX12_either_107 rfl (by decide) ?_
        refine wp_iload_n (n := 109) K dX12_either_108 rfl rfl ?_
        refine wp_if_eq (n := 112) K dX12_either_109 rfl (tgt := 116) (by decide) ⟨by omega, by omega⟩ (fun c109 => ?_) (fun c109 => ?_)
        · refine wp_goto K dX12_either_116 (tgt := 6) (by decide) ?_
          exact stop _ _ _ _ t2 c4 M4 (by omega) r2 hc4 (rch2.trans (Rch.one hst)) R4 f4 a4
        · exact absurd rfl c109
      -- which it is
      have at35 : ∀ M2 : MT, RS b n t0 so 0 M2 t2 [] (emI an 21 c2) → FRN t0 M M2 → (∀ a, a ∉ [77, 80, 82] → M2 a = M a) → Wp E1 X 35 [.ref 77, .int (z (bI an)), .int (z (bI od)), .int (z (bI true)), .int (z 0), l5] [] S M2 := by
        intro M2 R2 f2 a2
        have hT := R2.1.2.2.2.2
        have hTr := hT.r
        have ec := emI_len an 21 c2
        have at73 : ∀ w : Int, w = bI (decide (KT b n t2 = 15)) → Wp E1 X 73 [.ref 77, .int (z (bI (decide (KT b n t2 = 16)))), .int (z (bI od)), .int (z (bI true)), .int (z 0), l5] [.int (z w)] S M2 := by
          intro w hw
          rw [hw]
          refine wp_istore (n := 75) K dX12_either_73 rfl (by decide) ?_
          refine wp_iload_n (n := 76) K dX12_either_75 rfl rfl ?_
          refine wp_if_ne_b (n := 79) K dX12_either_76 rfl (tgt := 93) (by decide) (fun c76 => ?_) (fun c76 => ?_)
          rotate_left
          · have n16 := of_decide_eq_false c76
            have at90 : ∀ M3 : MT, RS b n t0 so 0 M3 t2 [] (emI od 22 (emI an 21 c2)) → FRN t0 M M3 → (∀ a, a ∉ [77, 80, 82] → M3 a = M a) → Wp E1 X 90 [.ref 77, .int (z (bI (decide (KT b n t2 = 16)))), .int (z (bI od)), .int (z (bI true)), .int (z 0), .int (z (bI (decide (KT b n t2 = 15))))] [] S M3 := by
              intro M3 R3 f3 a3
              have ec2 := emI_len od 22 (emI an 21 c2)
              refine wp_iload (n := 92) K dX12_either_90 rfl rfl ?_
              refine wp_istore_n (n := 93) K dX12_either_92 rfl (by decide) ?_
              refine wp_iload_n (n := 94) K dX12_either_93 rfl rfl ?_
              refine wp_if_ne_b (n := 97) K dX12_either_94 rfl (tgt := 102) (by decide) (fun c94 => ?_) (fun c94 => ?_)
              · rw [c76] at c94; cases c94
              refine wp_iload (n := 99) K dX12_either_97 rfl rfl ?_
              refine wp_if_eq_b (n := 102) K dX12_either_99 rfl (tgt := 106) (by decide) (fun c99 => ?_) (fun c99 => ?_)
              · have n15 := of_decide_eq_false c99
                refine wp_iconst (n := 107) K dX12_either_106 rfl ?_
                exact off1 _ _ _ _ _ M3 (s5_n n16 n15) (by omega) R3 f3 a3
              · have e15 := of_decide_eq_true c99
                refine wp_iconst (n := 103) K dX12_either_102 rfl ?_
                refine wp_goto K dX12_either_103 (tgt := 107) (by decide) ?_
                rw [decide_eq_false n16, decide_eq_true e15]
                exact on1 false true _ _ _ M3 (by omega) (s5_o e15) (by show _ + 0 + 1 ≤ _; omega) R3 f3 a3
            refine wp_iload_n (n := 80) K dX12_either_79 rfl rfl ?_
            refine wp_if_eq_b (n := 83) K dX12_either_80 rfl (tgt := 90) (by decide) (fun c80 => ?_) (fun c80 => ?_)
            · have e : emI od 22 (emI an 21 c2) = emI an 21 c2 := by rw [c80]; rfl
              exact at90 M2 (by rw [e]; exact R2) f2 a2
            · have e : emI od 22 (emI an 21 c2) = (22, 0) :: emI an 21 c2 := by rw [c80]; rfl
              obtain ⟨p1, p2, p3⟩ := R2.em 22 0
              refine wp_aload_n (n := 84) K dX12_either_83 rfl rfl ?_
              refine wp_bipush (n := 86) K dX12_either_84 rfl rfl ?_
              refine wp_iconst (n := 87) K dX12_either_86 rfl ?_
              refine wp_invV_n (n := 90) K dX12_either_87 rfl cf_X12_145 (m_emit t0 (emI an 21 c2).length 22 0 ht0 (by omega) _ _ R2.2.1.1 R2.2.1.2.1) rfl rfl rfl (liS rfl) rfl (by decide) ⟨Nat.le_refl _, Nat.le_refl _⟩ (Nat.le_of_ble_eq_true rfl) ?_
              try simp only [up_same, up_up, up_ne, ne_eq, Nat.reduceEqDiff, not_false_eq_true, Int.reduceToNat, Int.toNat_natCast]
              exact at90 _ (by rw [e]; exact p1) (f2.trans p2) (fun x hx => (p3 x hx).trans (a2 x hx))
          · have e16 := of_decide_eq_true c76
            refine wp_iload_n (n := 94) K dX12_either_93 rfl rfl ?_
            refine wp_if_ne_b (n := 97) K dX12_either_94 rfl (tgt := 102) (by decide) (fun c94 => ?_) (fun c94 => ?_)
            rotate_left
            · rw [c76] at c94; cases c94
            refine wp_iconst (n := 103) K dX12_either_102 rfl ?_
            refine wp_goto K dX12_either_103 (tgt := 107) (by decide) ?_
            rw [decide_eq_true e16]
            exact on1 true od _ _ _ M2 (by omega) (s5_a e16) (by show _ + 1 + _ ≤ _; omega) R2 f2 a2
        refine wp_aload_n (n := 36) K dX12_either_35 rfl rfl ?_
        refine wp_bipush (n := 38) K dX12_either_36 rfl rfl ?_
        refine wp_bipush (n := 40) K dX12_either_38 rfl rfl ?_
        refine wp_bipush (n := 42) K dX12_either_40 rfl rfl ?_
        refine wp_invS_l (n := 45) K dX12_either_42 rfl cf_X12_121 (m_w3 _ _ _ ⟨by decide, by decide⟩ ⟨by decide, by decide⟩ ⟨by decide, by decide⟩ _ _) rfl rfl (by decide) ⟨Nat.le_refl _, Nat.le_refl _⟩ (Nat.le_of_ble_eq_true rfl) ?_
        try simp only [up_same, up_up, up_ne, ne_eq, Nat.reduceEqDiff, not_false_eq_true, Int.reduceToNat, Int.toNat_natCast]
        refine wp_invV_i (n := 48) K dX12_either_45 rfl cf_X12_191 (m_isWord 16 _ _ (by decide) _ _ hT) rfl rfl rfl (liS rfl) rfl (by decide) ⟨Nat.le_refl _, Nat.le_refl _⟩ (Nat.le_of_ble_eq_true rfl) ?_
        try simp only [up_same, up_up, up_ne, ne_eq, Nat.reduceEqDiff, not_false_eq_true, Int.reduceToNat, Int.toNat_natCast]
        refine wp_istore_n (n := 49) K dX12_either_48 rfl (by decide) ?_
        refine wp_aload_n (n := 50) K dX12_either_49 rfl rfl ?_
        refine wp_getI (n := 53) K dX12_either_50 rfl fl_X12_104 rfl (liS rfl) rfl ?_
        try simp only [up_same, up_up, up_ne, ne_eq, Nat.reduceEqDiff, not_false_eq_true, Int.reduceToNat, Int.toNat_natCast]
        refine wp_iconst (n := 54) K dX12_either_53 rfl ?_
        refine wp_icmp_ne (n := 57) K dX12_either_54 rfl (tgt := 72) (by decide) ⟨by omega, by omega⟩ ⟨by omega, by omega⟩ (fun c54 => ?_) (fun c54 => ?_)
        · have := hT.no c54
          refine wp_iconst (n := 73) K dX12_either_72 rfl ?_
          exact at73 0 (by rw [decide_eq_false (by omega)]; rfl)
        · refine wp_aload_n (n := 58) K dX12_either_57 rfl rfl ?_
          refine wp_getL (n := 61) K dX12_either_58 rfl fl_X12_117 rfl (liS rfl) rfl ?_
          try simp only [up_same, up_up, up_ne, ne_eq, Nat.reduceEqDiff, not_false_eq_true, Int.reduceToNat, Int.toNat_natCast]
          refine wp_ldc2 (n := 64) K dX12_either_61 rfl (28530) co_X12_204 ?_
          rw [show (28530 : Int) = pkR (WR 15) from by decide]
          refine wp_lcmp (n := 65) K dX12_either_64 rfl ?_
          refine wp_if_ne (n := 68) K dX12_either_65 rfl (tgt := 72) (by decide) (lcmp_r _ _) (fun c65 => ?_) (fun c65 => ?_)
          · refine wp_iconst (n := 73) K dX12_either_72 rfl ?_
            exact at73 0 (by rw [decide_eq_false (fun e => c65 ((lc_wd hT c54 (i := 15) (by decide)).mpr e))]; rfl)
          · refine wp_iconst (n := 69) K dX12_either_68 rfl ?_
            refine wp_goto K dX12_either_69 (tgt := 73) (by decide) ?_
            exact at73 1 (by rw [decide_eq_true ((lc_wd hT c54 (i := 15) (by decide)).mp c65)]; rfl)
      refine wp_iload_n (n := 25) K dX12_either_24 rfl rfl ?_
      refine wp_if_eq_b (n := 28) K dX12_either_25 rfl (tgt := 35) (by decide) (fun c25 => ?_) (fun c25 => ?_)
      · have e : emI an 21 c2 = c2 := by rw [c25]; rfl
        exact at35 M11 (by rw [e]; exact R1) (hfr.trans f1) hfa1
      · have e : emI an 21 c2 = (21, 0) :: c2 := by rw [c25]; rfl
        obtain ⟨p1, p2, p3⟩ := R1.em 21 0
        refine wp_aload_n (n := 29) K dX12_either_28 rfl rfl ?_
        refine wp_bipush (n := 31) K dX12_either_29 rfl rfl ?_
        refine wp_iconst (n := 32) K dX12_either_31 rfl ?_
        refine wp_invV_n (n := 35) K dX12_either_32 rfl cf_X12_145 (m_emit t0 c2.length 21 0 ht0 (by omega) _ _ R1.2.1.1 R1.2.1.2.1) rfl rfl rfl (liS rfl) rfl (by decide) ⟨Nat.le_refl _, Nat.le_refl _⟩ (Nat.le_of_ble_eq_true rfl) ?_
        try simp only [up_same, up_up, up_ne, ne_eq, Nat.reduceEqDiff, not_false_eq_true, Int.reduceToNat, Int.toNat_natCast]
        exact at35 _ (by rw [e]; exact p1) ((hfr.trans f1).trans p2) (fun x hx => (p3 x hx).trans (hfa1 x hx))
  refine wp_iconst (n := 1) K dX12_either_0 rfl ?_
  refine wp_istore_n (n := 2) K dX12_either_1 rfl (by decide) ?_
  refine wp_iconst (n := 3) K dX12_either_2 rfl ?_
  refine wp_istore_n (n := 4) K dX12_either_3 rfl (by decide) ?_
  refine wp_iconst (n := 5) K dX12_either_4 rfl ?_
  refine wp_istore_n (n := 6) K dX12_either_5 rfl (by decide) ?_
  have hln := hrd.ln
  exact loop (n + 1 - t) t false false c M _ _ (by omega) (Nat.le_refl _) hrd (by show c.length + 0 + 0 ≤ t; omega) (Rch.refl _) hRS (FRN.refl _ _) (fun a _ => rfl)
