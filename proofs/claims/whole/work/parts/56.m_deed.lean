/-! a deed's numbers, of the reference -/
section ST
variable {K : Nat → Nat} {V : Nat → Int} {t f so : Nat} {pl : List Int} {c : List (Int × Int)} {cm : Int} {no : Nat} {an od : Bool} {fr : Nat} {cR : Nat → Int} {nc on : Nat}
def figF (k : Nat) (v : Int) (top : Int) : Nat := if k = 40 then (if top < v then 2 else 0) else 1
def topF (so : Nat) : Int := if so = 5 then 9 else 11
theorem s7_n (h : figF (K t) (V t) (topF so) ≠ 0) : stp K V (cf 7 t f so pl c cm no an od fr cR nc on) = flt t (figF (K t) (V t) (topF so)) cR nc on := by
  unfold figF at *
  show (if K t = 40 then if topF so < V t then _ else _ else _) = _
  split at h
  · rename_i q
    rw [if_pos q, if_pos q]
    split at h
    · rename_i q2; rw [if_pos q2, if_pos q2]; rfl
    · exact absurd rfl h
  · rename_i q
    rw [if_neg q, if_neg q]; rfl
theorem s7_y (h : figF (K t) (V t) (topF so) = 0) : stp K V (cf 7 t f so pl c cm no an od fr cR nc on) = cf (if so = 5 then 10 else 6) (t + 1) f so [] c cm no an od fr (up cR (3 * nc + 1) (V t)) nc on := by
  unfold figF at *
  show (if K t = 40 then if topF so < V t then _ else _ else _) = _
  split at h
  · rename_i q
    rw [if_pos q]
    split at h
    · cases h
    · rename_i q2; rw [if_neg q2]; rfl
  · cases h
theorem s10_n (h : K t ≠ 14) : stp K V (cf 10 t f so pl c cm no an od fr cR nc on) = flt t 1 cR nc on := by
  show (if K t = 14 then _ else _) = _
  rw [if_neg h]; rfl
theorem s10_y (h : K t = 14) : stp K V (cf 10 t f so pl c cm no an od fr cR nc on) = cf 11 (t + 1) f so [] c cm no an od fr cR nc on := by
  show (if K t = 14 then _ else _) = _
  rw [if_pos h]; rfl
theorem s11_n (h : figF (K t) (V t) 9 ≠ 0) : stp K V (cf 11 t f so pl c cm no an od fr cR nc on) = flt t (figF (K t) (V t) 9) cR nc on := by
  unfold figF at *
  show (if K t = 40 then if 9 < V t then _ else _ else _) = _
  split at h
  · rename_i q
    rw [if_pos q, if_pos q]
    split at h
    · rename_i q2; rw [if_pos q2, if_pos q2]; rfl
    · exact absurd rfl h
  · rename_i q
    rw [if_neg q, if_neg q]; rfl
theorem s11_y (h : figF (K t) (V t) 9 = 0) : stp K V (cf 11 t f so pl c cm no an od fr cR nc on) = cf 6 (t + 1) f so [] c cm no an od fr (up cR (3 * nc + 2) (V t)) nc on := by
  unfold figF at *
  show (if K t = 40 then if 9 < V t then _ else _ else _) = _
  split at h
  · rename_i q
    rw [if_pos q]
    split at h
    · cases h
    · rename_i q2; rw [if_neg q2]; rfl
  · cases h
end ST
theorem figF_r (k : Nat) (v top : Int) : figF k v top ≤ 6 := by
  unfold figF
  repeat' split
  all_goals decide
theorem figF_40 {k : Nat} {v top : Int} (h : figF k v top = 0) : k = 40 ∧ ¬ top < v := by
  unfold figF at h
  split at h
  · rename_i q
    split at h
    · cases h
    · rename_i q2; exact ⟨q, q2⟩
  · cases h

theorem m_figure {b : Nat → Int} {n t : Nat} (x : Nat) (top : Int) (hx : x < 2720) (htop : 0 ≤ top ∧ top ≤ 11) (hok : okTp b n) (S : ST) (M : MT) (hA : AT b n M t) : Ct E1 yX12_figure cX12_figure 3 (some .int) rm_X12_figure [.ref 77, .int (z (x : Int)), .int (z top)] S M (Qi (figF (KT b n t) (VT b n t) top : Int) [77, 80] S M (fun M1 => OtN M M1 ∧ (figF (KT b n t) (VT b n t) top = 0 → AT b n M1 (t + 1) ∧ M1 80 = up (M 80) x (VT b n t)) ∧ (figF (KT b n t) (VT b n t) top ≠ 0 → M1 = M))) := by
  refine Ct.mk [.ref 77, .int (z (x : Int)), .int (z top)] (by decide) rfl (Nat.le_of_ble_eq_true rfl) (fun X K => ?_)
  have hT := hA.2.2.2.2
  have hr := hT.r
  generalize hk0 : KT b n t = k at *
  generalize hv0 : VT b n t = v at *
  refine wp_aload_n (n := 1) K dX12_figure_0 rfl rfl ?_
  refine wp_getI (n := 4) K dX12_figure_1 rfl fl_X12_104 rfl (liS rfl) rfl ?_
  try simp only [up_same, up_up, up_ne, ne_eq, Nat.reduceEqDiff, not_false_eq_true, Int.reduceToNat, Int.toNat_natCast]
  refine wp_iconst (n := 5) K dX12_figure_4 rfl ?_
  refine wp_icmp_eq (n := 8) K dX12_figure_5 rfl (tgt := 10) (by decide) ⟨by omega, by omega⟩ ⟨by omega, by omega⟩ (fun c5 => ?_) (fun c5 => ?_)
  rotate_left
  · have hk : k ≠ 40 := fun q => c5 ((hT.is (c := 1) (by decide)).mpr q)
    have e : figF k v top = 1 := if_neg hk
    rw [e] at K
    refine wp_iconst (n := 9) K dX12_figure_8 rfl ?_
    refine ret_qi K dX12_figure_9 ?_ rfl ?_ ?_ ⟨Nat.le_refl _, Nat.le_refl _⟩
    · rfl
    · intro a _; rfl
    · exact ⟨fun j _ _ _ _ _ => rfl, fun q => (by cases q), fun _ => rfl⟩
  have hk : k = 40 := (hT.is (j := 40) (by decide)).mp c5
  have hnu := hT.num hk
  refine wp_aload_n (n := 11) K dX12_figure_10 rfl rfl ?_
  refine wp_getI (n := 14) K dX12_figure_11 rfl fl_X12_110 rfl (liS rfl) rfl ?_
  try simp only [up_same, up_up, up_ne, ne_eq, Nat.reduceEqDiff, not_false_eq_true, Int.reduceToNat, Int.toNat_natCast]
  refine wp_iload_n (n := 15) K dX12_figure_14 rfl rfl ?_
  refine wp_icmp_le (n := 18) K dX12_figure_15 rfl (tgt := 20) (by decide) ⟨by omega, by omega⟩ ⟨by omega, by omega⟩ (fun c15 => ?_) (fun c15 => ?_)
  rotate_left
  · have e : figF k v top = 2 := by unfold figF; rw [if_pos hk, if_pos (by omega)]
    rw [e] at K
    refine wp_iconst (n := 19) K dX12_figure_18 rfl ?_
    refine ret_qi K dX12_figure_19 ?_ rfl ?_ ?_ ⟨Nat.le_refl _, Nat.le_refl _⟩
    · rfl
    · intro a _; rfl
    · exact ⟨fun j _ _ _ _ _ => rfl, fun q => (by cases q), fun _ => rfl⟩
  have e : figF k v top = 0 := by unfold figF; rw [if_pos hk, if_neg (by omega)]
  rw [e] at K
  have ev : M 77 10 = v := by omega
  refine wp_aload_n (n := 21) K dX12_figure_20 rfl rfl ?_
  refine wp_getF (n := 24) K dX12_figure_21 rfl fl_X12_16 rfl (liS rfl) rfl rfl ?_
  refine wp_iload_n (n := 25) K dX12_figure_24 rfl rfl ?_
  refine wp_aload_n (n := 26) K dX12_figure_25 rfl rfl ?_
  refine wp_getI (n := 29) K dX12_figure_26 rfl fl_X12_110 rfl (liS rfl) rfl ?_
  try simp only [up_same, up_up, up_ne, ne_eq, Nat.reduceEqDiff, not_false_eq_true, Int.reduceToNat, Int.toNat_natCast]
  rw [ev]
  refine wp_iast (n := 30) K dX12_figure_29 rfl rfl (liS rfl) (fun _ => rfl) ⟨by omega, by omega, by omega⟩ ?_
  try simp only [up_same, up_up, up_ne, ne_eq, Nat.reduceEqDiff, not_false_eq_true, Int.reduceToNat, Int.toNat_natCast]
  refine wp_aload_n (n := 31) K dX12_figure_30 rfl rfl ?_
  have A1 : AT b n (up M 80 (up (M 80) x v)) t := hA.of rfl (fun j _ _ => rfl)
  refine wp_invV_qn (n := 34) K dX12_figure_31 rfl cf_X12_160 (m_next hok _ _ A1) rfl rfl rfl (liS rfl) rfl (by decide) ⟨Nat.le_refl _, Nat.le_refl _⟩ (Nat.le_of_ble_eq_true rfl) (fun M31 hM31 gM31 => ?_)
  try simp only [up_same, up_up, up_ne, ne_eq, Nat.reduceEqDiff, not_false_eq_true, Int.reduceToNat, Int.toNat_natCast]
  obtain ⟨A2, o2⟩ := A1.nx hM31 gM31
  refine wp_iconst (n := 35) K dX12_figure_34 rfl ?_
  refine ret_qi K dX12_figure_35 ?_ rfl ?_ ?_ ⟨Nat.le_refl _, Nat.le_refl _⟩
  · rfl
  · intro a ha
    rw [hM31 a (fun q => ha (by simp only [List.mem_cons, List.mem_nil_iff, or_false] at q ⊢; omega)), up_ne _ _ (fun q => ha (by rw [q]; decide))]
  · exact ⟨o2, fun _ => ⟨A2, by rw [hM31 80 (by decide), up_same]⟩, fun q => absurd rfl q⟩

theorem m_lent {b : Nat → Int} {n t : Nat} (x : Nat) (hx : x + 2 < 2720) (f : Nat) (c : List (Int × Int)) (cm : Int) (no : Nat) (an od : Bool) (fr : Nat) (cR : Nat → Int) (nc on : Nat) (hok : okTp b n) (hrd : Rd b n t) (S : ST) (M : MT) (hA : AT b n M t) : Ct E1 yX12_lent cX12_lent 3 (some .int) rm_X12_lent [.ref 77, .int (z (x : Int))] S M (Qe [77, 80] S M (fun w M1 => OtN M M1 ∧ (∀ j, j ≤ x → M1 80 j = M 80 j) ∧ ((w = 0 ∧ ∃ (t1 : Nat) (v1 v2 : Int), Rch (KT b n) (VT b n) (cf 7 t f 5 [] c cm no an od fr cR nc on) (cf 6 t1 f 5 [] c cm no an od fr (up (up cR (3 * nc + 1) v1) (3 * nc + 2) v2) nc on) ∧ AT b n M1 t1 ∧ Rd b n t1 ∧ t ≤ t1 ∧ M1 80 = up (up (M 80) (x + 1) v1) (x + 2) v2) ∨ (∃ f1 t1 : Nat, w = (f1 : Int) ∧ f1 ≠ 0 ∧ f1 ≤ 6 ∧ Rch (KT b n) (VT b n) (cf 7 t f 5 [] c cm no an od fr cR nc on) (flt t1 f1 cR nc on) ∧ M1 77 8 = (BT b n t1 : Int))))) := by
  refine Ct.mk [.ref 77, .int (z (x : Int)), mkV] (by decide) rfl (Nat.le_of_ble_eq_true rfl) (fun X K => ?_)
  have in1 : ∀ a, a ∉ [77, 80] → a ∉ [77] := fun a ha => fun q => ha (by simp only [List.mem_cons, List.mem_nil_iff, or_false] at q ⊢; omega)
  have tr : ∀ {A B C : MT}, OtN A B → OtN B C → OtN A C := fun h h' j a1 a2 a3 a4 a5 => (h' j a1 a2 a3 a4 a5).trans (h j a1 a2 a3 a4 a5)
  have hf1 := figF_r (KT b n t) (VT b n t) 9
  refine wp_aload_n (n := 1) K dX12_lent_0 rfl rfl ?_
  refine wp_iload_n (n := 2) K dX12_lent_1 rfl rfl ?_
  refine wp_iconst (n := 3) K dX12_lent_2 rfl ?_
  refine wp_iadd (n := 4) K dX12_lent_3 rfl ?_
  refine wp_bipush (n := 6) K dX12_lent_4 rfl rfl ?_
  rw [show (x : Int) + 1 = ((x + 1 : Nat) : Int) by omega]
  refine wp_invV_qi (n := 9) K dX12_lent_6 rfl cf_X12_206 (m_figure (x + 1) 9 (by omega) ⟨by decide, by decide⟩ hok _ _ hA) rfl rfl rfl (liS rfl) rfl (by decide) ⟨Nat.le_refl _, Nat.le_refl _⟩ (Nat.le_of_ble_eq_true rfl) (fun M6 hM6 gM6 => ?_)
  try simp only [up_same, up_up, up_ne, ne_eq, Nat.reduceEqDiff, not_false_eq_true, Int.reduceToNat, Int.toNat_natCast]
  refine wp_istore_n (n := 10) K dX12_lent_9 rfl (by decide) ?_
  refine wp_iload_n (n := 11) K dX12_lent_10 rfl rfl ?_
  refine wp_if_eq (n := 14) K dX12_lent_11 rfl (tgt := 16) (by decide) ⟨by omega, by omega⟩ (fun c11 => ?_) (fun c11 => ?_)
  rotate_left
  · obtain ⟨g1, g2, g3⟩ := gM6
    have e : figF (KT b n t) (VT b n t) 9 ≠ 0 := by omega
    refine wp_iload_n (n := 15) K dX12_lent_14 rfl rfl ?_
    refine ret_ei K dX12_lent_15 rfl ?_ ?_ ⟨Nat.le_refl _, Nat.le_refl _⟩
    · exact hM6
    · exact ⟨g1, fun j _ => by rw [g3 e], Or.inr ⟨_, t, rfl, e, hf1, Rch.one (s7_n (so := 5) e), by rw [g3 e]; exact hA.2.2.2.1⟩⟩
  have e : figF (KT b n t) (VT b n t) 9 = 0 := by omega
  obtain ⟨g1, g2, _⟩ := gM6
  obtain ⟨A1, t1e⟩ := g2 e
  have k40 := (figF_40 e).1
  have r1 := hrd.nx (by omega)
  have rc1 := Rch.one (s7_y (K := KT b n) (V := VT b n) (f := f) (pl := []) (c := c) (cm := cm) (no := no) (an := an) (od := od) (fr := fr) (cR := cR) (nc := nc) (on := on) (so := 5) e)
  have hT := A1.2.2.2.2
  have hTr := hT.r
  have no14 : KT b n (t + 1) ≠ 14 → Wp E1 X 35 [.ref 77, .int (z (x : Int)), .int (z (figF (KT b n t) (VT b n t) 9 : Int))] [] S M6 := by
    intro h
    refine wp_iconst (n := 36) K dX12_lent_35 rfl ?_
    refine ret_ei K dX12_lent_36 rfl ?_ ?_ ⟨Nat.le_refl _, Nat.le_refl _⟩
    · exact hM6
    · exact ⟨g1, fun j hj => by rw [t1e, up_ne _ _ (by omega)], Or.inr ⟨1, t + 1, rfl, by decide, by decide, rc1.trans (Rch.one (s10_n h)), A1.2.2.2.1⟩⟩
  refine wp_aload_n (n := 17) K dX12_lent_16 rfl rfl ?_
  refine wp_getI (n := 20) K dX12_lent_17 rfl fl_X12_104 rfl (liS rfl) rfl ?_
  try simp only [up_same, up_up, up_ne, ne_eq, Nat.reduceEqDiff, not_false_eq_true, Int.reduceToNat, Int.toNat_natCast]
  refine wp_iconst (n := 21) K dX12_lent_20 rfl ?_
  refine wp_icmp_ne (n := 24) K dX12_lent_21 rfl (tgt := 35) (by decide) ⟨by omega, by omega⟩ ⟨by omega, by omega⟩ (fun c21 => ?_) (fun c21 => ?_)
  · exact no14 (fun q => (hT.no c21) (by omega))
  refine wp_aload_n (n := 25) K dX12_lent_24 rfl rfl ?_
  refine wp_getL (n := 28) K dX12_lent_25 rfl fl_X12_117 rfl (liS rfl) rfl ?_
  try simp only [up_same, up_up, up_ne, ne_eq, Nat.reduceEqDiff, not_false_eq_true, Int.reduceToNat, Int.toNat_natCast]
  refine wp_ldc2 (n := 31) K dX12_lent_28 rfl (29807) co_X12_210 ?_
  rw [show (29807 : Int) = pkR (WR 14) from by decide]
  refine wp_lcmp (n := 32) K dX12_lent_31 rfl ?_
  refine wp_if_eq (n := 35) K dX12_lent_32 rfl (tgt := 37) (by decide) (lcmp_r _ _) (fun c32 => ?_) (fun c32 => ?_)
  rotate_left
  · exact no14 (fun q => c32 ((lc_wd hT c21 (i := 14) (by decide)).mpr q))
  have k14 := (lc_wd hT c21 (i := 14) (by decide)).mp c32
  refine wp_aload_n (n := 38) K dX12_lent_37 rfl rfl ?_
  refine wp_invV_qn (n := 41) K dX12_lent_38 rfl cf_X12_160 (m_next hok _ _ A1) rfl rfl rfl (liS rfl) rfl (by decide) ⟨Nat.le_refl _, Nat.le_refl _⟩ (Nat.le_of_ble_eq_true rfl) (fun M38 hM38 gM38 => ?_)
  try simp only [up_same, up_up, up_ne, ne_eq, Nat.reduceEqDiff, not_false_eq_true, Int.reduceToNat, Int.toNat_natCast]
  obtain ⟨A2, o2⟩ := A1.nx hM38 gM38
  have r2 := r1.nx (by omega)
  have hf2 := figF_r (KT b n (t + 1 + 1)) (VT b n (t + 1 + 1)) 9
  refine wp_aload_n (n := 42) K dX12_lent_41 rfl rfl ?_
  refine wp_iload_n (n := 43) K dX12_lent_42 rfl rfl ?_
  refine wp_iconst (n := 44) K dX12_lent_43 rfl ?_
  refine wp_iadd (n := 45) K dX12_lent_44 rfl ?_
  refine wp_bipush (n := 47) K dX12_lent_45 rfl rfl ?_
  rw [show (x : Int) + 2 = ((x + 2 : Nat) : Int) by omega]
  refine wp_invV_qi (n := 50) K dX12_lent_47 rfl cf_X12_206 (m_figure (x + 2) 9 (by omega) ⟨by decide, by decide⟩ hok _ _ A2) rfl rfl rfl (liS rfl) rfl (by decide) ⟨Nat.le_refl _, Nat.le_refl _⟩ (Nat.le_of_ble_eq_true rfl) (fun M47 hM47 gM47 => ?_)
  try simp only [up_same, up_up, up_ne, ne_eq, Nat.reduceEqDiff, not_false_eq_true, Int.reduceToNat, Int.toNat_natCast]
  refine ret_ei K dX12_lent_50 rfl ?_ ?_ ⟨Nat.le_refl _, Nat.le_refl _⟩
  · intro a ha
    rw [hM47 a ha, hM38 a (in1 a ha), hM6 a ha]
  · obtain ⟨q1, q2, q3⟩ := gM47
    refine ⟨tr (tr g1 o2) q1, fun j hj => ?_, ?_⟩
    · by_cases e2 : figF (KT b n (t + 1 + 1)) (VT b n (t + 1 + 1)) 9 = 0
      · rw [(q2 e2).2, up_ne _ _ (by omega), hM38 80 (by decide), t1e, up_ne _ _ (by omega)]
      · rw [q3 e2, hM38 80 (by decide), t1e, up_ne _ _ (by omega)]
    by_cases e2 : figF (KT b n (t + 1 + 1)) (VT b n (t + 1 + 1)) 9 = 0
    · obtain ⟨A3, t3e⟩ := q2 e2
      refine Or.inl ⟨by omega, t + 1 + 1 + 1, VT b n t, VT b n (t + 1 + 1), (rc1.trans (Rch.one (s10_y k14))).trans (Rch.one (s11_y e2)), A3, r2.nx (by have := (figF_40 e2).1; omega), by omega, ?_⟩
      rw [t3e, hM38 80 (by decide), t1e]
    · exact Or.inr ⟨_, t + 1 + 1, rfl, e2, hf2, (rc1.trans (Rch.one (s10_y k14))).trans (Rch.one (s11_n e2)), by rw [q3 e2]; exact A2.2.2.2.1⟩
