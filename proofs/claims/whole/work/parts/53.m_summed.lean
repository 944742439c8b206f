/-! a SUM, of the reference -/
/-- ahead of a SUM: what the pile holds is past -/
def RZ (b : Nat → Int) (n t0 so o : Nat) (M : MT) (t : Nat) (c : List (Int × Int)) : Prop := AT b n M t ∧ (M 77 12 = t0 ∧ M 77 14 = c.length ∧ CR (cs M t0) c) ∧ M 77 18 = (o : Int) ∧ M 77 20 = (so : Int)
theorem RS.z {b : Nat → Int} {n t0 so o t : Nat} {M : MT} {c : List (Int × Int)} (h : RS b n t0 so o M t [] c) : RZ b n t0 so o M t c := ⟨h.1, ⟨h.2.1.1, h.2.1.2.1, h.2.1.2.2.1⟩, h.2.2.1, h.2.2.2⟩
theorem RZ.nx {b : Nat → Int} {n t0 so o t : Nat} {M M1 : MT} {c : List (Int × Int)} (h : RZ b n t0 so o M t c) (hb : ∀ a, a ∉ [77] → M1 a = M a) (g : NT M n (PT b n (t + 1)) M1) : RZ b n t0 so o M1 (t + 1) c ∧ OtN M M1 := by
  obtain ⟨h1, h2, h3, h4⟩ := h
  obtain ⟨a1, a2⟩ := h1.nx hb g
  refine ⟨⟨a1, ⟨(a2 12 (by decide) (by decide) (by decide) (by decide) (by decide)).trans h2.1, (a2 14 (by decide) (by decide) (by decide) (by decide) (by decide)).trans h2.2.1, ?_⟩, (a2 18 (by decide) (by decide) (by decide) (by decide) (by decide)).trans h3, (a2 20 (by decide) (by decide) (by decide) (by decide) (by decide)).trans h4⟩, a2⟩
  unfold cs
  rw [hb 80 (by decide)]
  exact h2.2.2
/-- how a piece of reading ends: at md, or in a FAULT -/
def EndS (b : Nat → Int) (n t0 so no t ex : Nat) (x : Cf) (y : Nat → List (Int × Int) → Cf) (cR : Nat → Int) (nc on : Nat) (v : Int) (M1 : MT) : Prop :=
  (v = 0 ∧ ∃ t' c', Rch (KT b n) (VT b n) x (y t' c') ∧ RS b n t0 so no M1 t' [] c' ∧ Rd b n t' ∧ c'.length + ex ≤ t' ∧ t ≤ t') ∨ (∃ f' t' : Nat, v = (f' : Int) ∧ f' ≠ 0 ∧ f' ≤ 6 ∧ Rch (KT b n) (VT b n) x (flt t' f' cR nc on) ∧ M1 77 8 = (BT b n t' : Int))
theorem oneF_r (so k : Nat) (v : Int) (o : Nat) : oneF so k v o ≤ 6 := by
  unfold oneF
  repeat' split
  all_goals decide

set_option maxHeartbeats 2000000 in
theorem m_summed {b : Nat → Int} {n t0 so no t : Nat} {c : List (Int × Int)} (ex f : Nat) (cm : Int) (an od : Bool) (fr : Nat) (cR : Nat → Int) (nc on : Nat) (hok : okTp b n) (ht0 : t0 ≤ 2040) (hso : so ≤ 5) (hno : no ≤ 8) (hrd : Rd b n t) (hex : c.length + ex ≤ t) (S : ST) (M : MT) (hRS : RZ b n t0 so no M t c) : Ct E1 yX12_summed cX12_summed 2 (some .int) rm_X12_summed [.ref 77] S M (Qe [77, 80, 82] S M (fun v M1 => FRN t0 M M1 ∧ EndS b n t0 so no t ex (cf 2 t f so [] c cm no an od fr cR nc on) (fun t1 c1 => cf 4 t1 f so [] c1 cm no an od fr cR nc on) cR nc on v M1)) := by
  refine Ct.mk [.ref 77, mkV] (by decide) rfl (Nat.le_of_ble_eq_true rfl) (fun X K => ?_)
  have in1 : ∀ a, a ∉ [77, 80, 82] → a ∉ [77, 80] ∧ a ∉ [77] := fun a ha => ⟨fun q => ha (by simp only [List.mem_cons, List.mem_nil_iff, or_false] at q ⊢; omega), fun q => ha (by simp only [List.mem_cons, List.mem_nil_iff, or_false] at q ⊢; omega)⟩
  have loop : ∀ (d t1 : Nat) (w : Bool) (pl : List Int) (c1 : List (Int × Int)) (M1 : MT) (l1 : Value), t1 + d = n + 1 → t ≤ t1 → Rch (KT b n) (VT b n) (cf 2 t f so [] c cm no an od fr cR nc on) (cf (if w = true then 3 else 2) t1 f so pl c1 cm no an od fr cR nc on) → RS b n t0 so no M1 t1 pl c1 → M1 77 19 = bI w → okP pl → no + opn pl ≤ 8 → (w = true → pl.head? ≠ some 2) → pl.length + c1.length + ex ≤ t1 → Rd b n t1 → FRN t0 M M1 → (∀ a, a ∉ [77, 80, 82] → M1 a = M a) → Wp E1 X 10 [.ref 77, l1] [] S M1 := by
    intro d
    induction d with
    | zero => intro t1 w pl c1 M1 l1 hd _ _ _ _ _ _ _ _ hr; have := hr.ln; omega
    | succ d ih =>
      intro t1 w pl c M1 l1 hd ht hrch hRS h19 hpl hop hd2 hlen hr hfr hfa
      have hln := hr.ln
      have hn := hok.1
      have hpn := hpl.ln.1
      cases w with
      | false =>
        have h19 : M1 77 19 = 0 := h19
        refine wp_aload_n (n := 11) K dX12_summed_10 rfl rfl ?_
        refine wp_getI (n := 14) K dX12_summed_11 rfl fl_X12_138 rfl (liS rfl) rfl ?_
        try simp only [up_same, up_up, up_ne, ne_eq, Nat.reduceEqDiff, not_false_eq_true, Int.reduceToNat, Int.toNat_natCast]
        rw [h19]
        refine wp_if_eq (n := 17) K dX12_summed_14 rfl (tgt := 24) (by decide) ⟨by omega, by omega⟩ (fun c14 => ?_) (fun c14 => ?_)
        rotate_left
        · exact absurd rfl c14
        refine wp_aload_n (n := 25) K dX12_summed_24 rfl rfl ?_
        refine wp_getI (n := 28) K dX12_summed_25 rfl fl_X12_138 rfl (liS rfl) rfl ?_
        try simp only [up_same, up_up, up_ne, ne_eq, Nat.reduceEqDiff, not_false_eq_true, Int.reduceToNat, Int.toNat_natCast]
        rw [h19]
        refine wp_if_eq (n := 31) K dX12_summed_28 rfl (tgt := 38) (by decide) ⟨by omega, by omega⟩ (fun c28 => ?_) (fun c28 => ?_)
        rotate_left
        · exact absurd rfl c28
        have hf6 := oneF_r so (KT b n t1) (VT b n t1) (no + opn pl)
        refine wp_aload_n (n := 39) K dX12_summed_38 rfl rfl ?_
        refine wp_invV_qi (n := 42) K dX12_summed_39 rfl cf_X12_188 (m_beginOne hok ht0 hso hpl hop (by omega) _ _ hRS) rfl rfl rfl (liS rfl) rfl (by decide) ⟨Nat.le_refl _, Nat.le_refl _⟩ (Nat.le_of_ble_eq_true rfl) (fun M39 hM39 gM39 => ?_)
        try simp only [up_same, up_up, up_ne, ne_eq, Nat.reduceEqDiff, not_false_eq_true, Int.reduceToNat, Int.toNat_natCast]
        refine wp_istore_n (n := 43) K dX12_summed_42 rfl (by decide) ?_
        refine wp_iload_n (n := 44) K dX12_summed_43 rfl rfl ?_
        refine wp_if_eq (n := 47) K dX12_summed_44 rfl (tgt := 49) (by decide) ⟨by omega, by omega⟩ (fun c44 => ?_) (fun c44 => ?_)
        · have e : oneF so (KT b n t1) (VT b n t1) (no + opn pl) = 0 := by omega
          obtain ⟨g1, g2, g3⟩ := gM39
          obtain ⟨r1, r2, r3⟩ := g2 e
          obtain ⟨o1, o2, o3, o4, o5, o6⟩ := oneP_r (c := c) hpl e hop
          refine wp_goto K dX12_summed_49 (tgt := 10) (by decide) ?_
          refine ih (t1 + 1) (decide (oneW (KT b n t1) = 1)) _ _ M39 _ (by omega) (by omega) (hrch.trans (Rch.one ?_)) r1 ?_ o1 o2 (fun q => o4 (of_decide_eq_true q)) (by omega) (hr.nx o5) (hfr.trans g1) (fun a ha => (hM39 a ha).trans (hfa a ha))
          · show stp _ _ (cf 2 t1 f so pl c cm no an od fr cR nc on) = _
            rw [s2_y e]
            rcases o6 with q | q
            · rw [q]; rfl
            · rw [q]; rfl
          · rcases o6 with q | q
            · rw [r2 q, decide_eq_true q]; rfl
            · rw [r3 q, decide_eq_false (by omega)]; exact h19
        · have e : oneF so (KT b n t1) (VT b n t1) (no + opn pl) ≠ 0 := by omega
          obtain ⟨g1, g2, g3⟩ := gM39
          refine wp_iload_n (n := 48) K dX12_summed_47 rfl rfl ?_
          refine ret_ei K dX12_summed_48 rfl ?_ ?_ ⟨Nat.le_refl _, Nat.le_refl _⟩
          · exact fun a ha => (hM39 a ha).trans (hfa a ha)
          · refine ⟨hfr.trans g1, Or.inr ⟨_, t1, rfl, e, hf6, hrch.trans (Rch.one ?_), g3 e⟩⟩
            exact s2_n e
      | true =>
        have h19 : M1 77 19 = 1 := h19
        refine wp_aload_n (n := 11) K dX12_summed_10 rfl rfl ?_
        refine wp_getI (n := 14) K dX12_summed_11 rfl fl_X12_138 rfl (liS rfl) rfl ?_
        try simp only [up_same, up_up, up_ne, ne_eq, Nat.reduceEqDiff, not_false_eq_true, Int.reduceToNat, Int.toNat_natCast]
        rw [h19]
        refine wp_if_eq (n := 17) K dX12_summed_14 rfl (tgt := 24) (by decide) ⟨by omega, by omega⟩ (fun c14 => ?_) (fun c14 => ?_)
        · exact absurd c14 (by decide)
        refine wp_aload_n (n := 18) K dX12_summed_17 rfl rfl ?_
        refine wp_invV_i (n := 21) K dX12_summed_18 rfl cf_X12_182 (m_goesOn _ _ pl (by omega) hpl.i _ _ hRS.2.1.2.2.2.1 hRS.2.1.2.2.2.2 hRS.1.2.2.2.2) rfl rfl rfl (liS rfl) rfl (by decide) ⟨Nat.le_refl _, Nat.le_refl _⟩ (Nat.le_of_ble_eq_true rfl) ?_
        try simp only [up_same, up_up, up_ne, ne_eq, Nat.reduceEqDiff, not_false_eq_true, Int.reduceToNat, Int.toNat_natCast]
        refine wp_if_eq_b (n := 24) K dX12_summed_21 rfl (tgt := 52) (by decide) (fun c21 => ?_) (fun c21 => ?_)
        · -- it ends
          refine wp_aload_n (n := 53) K dX12_summed_52 rfl rfl ?_
          refine wp_iconst (n := 54) K dX12_summed_53 rfl ?_
          refine wp_invV_qn (n := 57) K dX12_summed_54 rfl cf_X12_179 (m_settle t0 3 ⟨by decide, by decide⟩ pl c ht0 (by omega) (by omega) hpl.i _ _ hRS.2.1) rfl rfl rfl (liS rfl) rfl (by decide) ⟨Nat.le_refl _, Nat.le_refl _⟩ (Nat.le_of_ble_eq_true rfl) (fun M54 hM54 gM54 => ?_)
          try simp only [up_same, up_up, up_ne, ne_eq, Nat.reduceEqDiff, not_false_eq_true, Int.reduceToNat, Int.toNat_natCast]
          obtain ⟨s1, s2, s3, s4⟩ := gM54
          obtain ⟨q1, q2, q3, q4⟩ := stl_r 3 pl c (Or.inl rfl) hpl
          have q5 := q1.ln.1
          have R1 := hRS.ps s4 s1 (by rw [s2, hRS.2.2.1, q2]) (hM54 _ (by decide))
          have h17 : M54 77 17 = (((stl 3 pl c).1.length : Nat) : Int) := s1.2.2.2.1
          refine wp_aload_n (n := 58) K dX12_summed_57 rfl rfl ?_
          refine wp_getI (n := 61) K dX12_summed_58 rfl fl_X12_135 rfl (liS rfl) rfl ?_
          try simp only [up_same, up_up, up_ne, ne_eq, Nat.reduceEqDiff, not_false_eq_true, Int.reduceToNat, Int.toNat_natCast]
          refine wp_if_le (n := 64) K dX12_summed_61 rfl (tgt := 68) (by decide) ⟨by omega, by omega⟩ (fun c61 => ?_) (fun c61 => ?_)
          · have e0 : (stl 3 pl c).1 = [] := List.eq_nil_of_length_eq_zero (by omega)
            rw [e0] at R1
            refine wp_iconst (n := 69) K dX12_summed_68 rfl ?_
            refine ret_ei K dX12_summed_69 rfl ?_ ?_ ⟨Nat.le_refl _, Nat.le_refl _⟩
            · exact fun a ha => (hM54 a (in1 a ha).1).trans (hfa a ha)
            · exact ⟨hfr.trans s4.n, Or.inl ⟨rfl, t1, (stl 3 pl c).2, hrch.trans (Rch.one (s3_y c21 e0)), R1, hr, by rw [e0] at q3; have : ([] : List Int).length = 0 := rfl; omega, ht⟩⟩
          · have e0 : (stl 3 pl c).1 ≠ [] := fun q => by rw [q] at h17; have : ([] : List Int).length = 0 := rfl; omega
            refine wp_iconst (n := 65) K dX12_summed_64 rfl ?_
            refine wp_goto K dX12_summed_65 (tgt := 69) (by decide) ?_
            refine ret_ei K dX12_summed_69 rfl ?_ ?_ ⟨Nat.le_refl _, Nat.le_refl _⟩
            · exact fun a ha => (hM54 a (in1 a ha).1).trans (hfa a ha)
            · exact ⟨hfr.trans s4.n, Or.inr ⟨1, t1, rfl, by decide, by decide, hrch.trans (Rch.one (s3_n c21 e0)), R1.1.2.2.2.1⟩⟩
        · refine wp_aload_n (n := 25) K dX12_summed_24 rfl rfl ?_
          refine wp_getI (n := 28) K dX12_summed_25 rfl fl_X12_138 rfl (liS rfl) rfl ?_
          try simp only [up_same, up_up, up_ne, ne_eq, Nat.reduceEqDiff, not_false_eq_true, Int.reduceToNat, Int.toNat_natCast]
          rw [h19]
          refine wp_if_eq (n := 31) K dX12_summed_28 rfl (tgt := 38) (by decide) ⟨by omega, by omega⟩ (fun c28 => ?_) (fun c28 => ?_)
          · exact absurd c28 (by decide)
          obtain ⟨o1, o2, o3, o4⟩ := behP_r (c := c) hpl (hd2 rfl) c21
          have hk41 : KT b n t1 ≠ 41 := fun q => by unfold goF at c21; rw [q] at c21; cases c21
          refine wp_aload_n (n := 32) K dX12_summed_31 rfl rfl ?_
          refine wp_invV_qi (n := 35) K dX12_summed_32 rfl cf_X12_185 (m_behindOne hok ht0 hpl (hd2 rfl) hop (by omega) c21 _ _ hRS) rfl rfl rfl (liS rfl) rfl (by decide) ⟨Nat.le_refl _, Nat.le_refl _⟩ (Nat.le_of_ble_eq_true rfl) (fun M32 hM32 gM32 => ?_)
          try simp only [up_same, up_up, up_ne, ne_eq, Nat.reduceEqDiff, not_false_eq_true, Int.reduceToNat, Int.toNat_natCast]
          refine wp_goto K dX12_summed_35 (tgt := 42) (by decide) ?_
          refine wp_istore_n (n := 43) K dX12_summed_42 rfl (by decide) ?_
          refine wp_iload_n (n := 44) K dX12_summed_43 rfl rfl ?_
          refine wp_if_eq (n := 47) K dX12_summed_44 rfl (tgt := 49) (by decide) ⟨by omega, by omega⟩ (fun c44 => ?_) (fun c44 => ?_)
          · obtain ⟨g1, g2, g3⟩ := gM32
            refine wp_goto K dX12_summed_49 (tgt := 10) (by decide) ?_
            have bw : behW (KT b n t1) = 1 ∨ behW (KT b n t1) = 0 := by unfold behW; split <;> decide
            refine ih (t1 + 1) (decide (behW (KT b n t1) = 1)) _ _ M32 _ (by omega) (by omega) (hrch.trans (Rch.one ?_)) g2 ?_ o1 (by omega) (fun q => o4 (of_decide_eq_true q)) (by omega) (hr.nx hk41) (hfr.trans g1) (fun a ha => (hM32 a ha).trans (hfa a ha))
            · show stp _ _ (cf 3 t1 f so pl c cm no an od fr cR nc on) = _
              rw [s3_g c21]
              rcases bw with q | q
              · rw [q]; rfl
              · rw [q]; rfl
            · rcases bw with q | q
              · rw [g3, q]; rfl
              · rw [g3, q]; rfl
          · exact absurd rfl c44
  refine wp_aload_n (n := 1) K dX12_summed_0 rfl rfl ?_
  refine wp_iconst (n := 2) K dX12_summed_1 rfl ?_
  refine wp_putI (n := 5) K dX12_summed_2 rfl fl_X12_135 rfl (liS rfl) (Or.inl rfl) rfl rfl ?_
  try simp only [up_same, up_up, up_ne, ne_eq, Nat.reduceEqDiff, not_false_eq_true, Int.reduceToNat, Int.toNat_natCast]
  refine wp_aload_n (n := 6) K dX12_summed_5 rfl rfl ?_
  refine wp_iconst (n := 7) K dX12_summed_6 rfl ?_
  refine wp_putZ (n := 10) K dX12_summed_7 rfl fl_X12_138 rfl (liS rfl) (Or.inl rfl) rfl rfl (by first | exact Or.inl rfl | exact Or.inr rfl) ?_
  try simp only [up_same, up_up, up_ne, ne_eq, Nat.reduceEqDiff, not_false_eq_true, Int.reduceToNat, Int.toNat_natCast]
  have f0 : FR t0 M (up M 77 (up (up (M 77) 17 0) 19 0)) := ⟨fun j _ p _ q => by rw [up_same, up_ne _ _ q, up_ne _ _ p], fun j _ => rfl⟩
  have R0 : RS b n t0 so no (up M 77 (up (up (M 77) 17 0) 19 0)) t [] c := ⟨hRS.1.of rfl (fun j p q => f0.1 j (by omega) (by omega) (by omega) (by omega)), ⟨hRS.2.1.1, hRS.2.1.2.1, hRS.2.1.2.2, rfl, trivial⟩, hRS.2.2.1, hRS.2.2.2⟩
  have hln := hrd.ln
  exact loop (n + 1 - t) t false [] c _ _ (by omega) (Nat.le_refl _) (Rch.refl _) R0 rfl trivial (by show no + 0 ≤ 8; omega) (fun q => by cases q) (by show 0 + c.length + ex ≤ t; omega) hrd f0.n (fun a ha => up_ne _ _ (fun q => (in1 a ha).2 (by rw [q]; decide)))
