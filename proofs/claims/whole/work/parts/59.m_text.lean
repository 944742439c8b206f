
theorem m_clause {b : Nat → Int} {n t0 t : Nat} {c : List (Int × Int)} {cR : Nat → Int} {nc on : Nat} (hok : okTp b n) (ht0 : t0 ≤ 2040) (hon : on < 8) (hnc : nc ≤ 24) (hrd : Rd b n t) (hc : c.length ≤ t) (hk41 : KT b n t ≠ 41) (S : ST) (M : MT) (hTP : TP b n t0 M t c cR nc on) : Ct E1 yX12_clause cX12_clause 6 (some .int) rm_X12_clause [.ref 77] S M (Qe [77, 80, 82] S M (fun v M1 => FRT t0 M M1 ∧ EndC b n t0 t (cf 0 t 0 0 [] c 0 0 false false 0 cR nc on) on v M1)) := by
  refine Ct.mk [.ref 77, mkV, mkV, mkV, mkV, mkV] (by decide) rfl (Nat.le_of_ble_eq_true rfl) (fun X K => ?_)
  have hTP0 := hTP
  obtain ⟨hA, ⟨h12, h14, hCR⟩, h18, h21, htx, hCW⟩ := hTP
  have hln := hrd.ln
  have hn := hok.1
  have h8 := hA.2.2.2.1
  have hsr : -1 ≤ (if 8 ≤ KT b n t ∧ KT b n t ≤ 13 then ((KT b n t : Nat) : Int) - 8 else -1) ∧ (if 8 ≤ KT b n t ∧ KT b n t ≤ 13 then ((KT b n t : Nat) : Int) - 8 else -1) ≤ 5 := by split <;> omega
  refine wp_aload_n (n := 1) K dX12_clause_0 rfl rfl ?_
  refine wp_invV_i (n := 4) K dX12_clause_1 rfl cf_X12_212 (m_sortOf _ _ _ _ hA.2.2.2.2) rfl rfl rfl (liS rfl) rfl (by decide) ⟨Nat.le_refl _, Nat.le_refl _⟩ (Nat.le_of_ble_eq_true rfl) ?_
  try simp only [up_same, up_up, up_ne, ne_eq, Nat.reduceEqDiff, not_false_eq_true, Int.reduceToNat, Int.toNat_natCast]
  refine wp_istore_n (n := 5) K dX12_clause_4 rfl (by decide) ?_
  refine wp_iload_n (n := 6) K dX12_clause_5 rfl rfl ?_
  refine wp_if_ge (n := 9) K dX12_clause_6 rfl (tgt := 11) (by decide) ⟨by omega, by omega⟩ (fun c6 => ?_) (fun c6 => ?_)
  rotate_left
  · have hk : ¬ (8 ≤ KT b n t ∧ KT b n t ≤ 13) := fun q => by rw [if_pos q] at c6; omega
    refine wp_iconst (n := 10) K dX12_clause_9 rfl ?_
    refine ret_ei K dX12_clause_10 rfl ?_ ?_ ⟨Nat.le_refl _, Nat.le_refl _⟩
    · intro a _; rfl
    · exact ⟨FRT.refl _ _, Or.inr ⟨1, t, rfl, by decide, by decide, Rch.one (s0_1 hk41 hk), h8⟩⟩
  have hk : 8 ≤ KT b n t ∧ KT b n t ≤ 13 := Decidable.byContradiction (fun q => by rw [if_neg q] at c6; omega)
  obtain ⟨s, es⟩ : ∃ s, KT b n t = s + 8 := ⟨KT b n t - 8, by omega⟩
  have hs5 : s ≤ 5 := by omega
  have ev : (if 8 ≤ KT b n t ∧ KT b n t ≤ 13 then ((KT b n t : Nat) : Int) - 8 else -1) = (s : Int) := by rw [if_pos hk, es]; omega
  rw [ev]
  have e8 : KT b n t - 8 = s := by omega
  -- behind the tests
  have at30 : ¬ (s ≤ 2 ∧ on / 2 ^ s % 2 = 1) → Wp E1 X 30 [.ref 77, .int (z (s : Int)), mkV, mkV, mkV, mkV] [] S M := by
    intro hb
    refine wp_aload_n (n := 31) K dX12_clause_30 rfl rfl ?_
    refine wp_getF (n := 34) K dX12_clause_31 rfl fl_X12_16 rfl (liS rfl) rfl rfl ?_
    refine wp_aload_n (n := 35) K dX12_clause_34 rfl rfl ?_
    refine wp_getI (n := 38) K dX12_clause_35 rfl fl_X12_129 rfl (liS rfl) rfl ?_
    try simp only [up_same, up_up, up_ne, ne_eq, Nat.reduceEqDiff, not_false_eq_true, Int.reduceToNat, Int.toNat_natCast]
    rw [h12]
    refine wp_iald (n := 39) K dX12_clause_38 rfl rfl (liS rfl) ⟨by omega, by omega, by omega⟩ ?_
    try simp only [up_same, up_up, up_ne, ne_eq, Nat.reduceEqDiff, not_false_eq_true, Int.reduceToNat, Int.toNat_natCast]
    rw [htx]
    refine wp_istore_n (n := 40) K dX12_clause_39 rfl (by decide) ?_
    refine wp_iload_n (n := 41) K dX12_clause_40 rfl rfl ?_
    refine wp_bipush (n := 43) K dX12_clause_41 rfl rfl ?_
    refine wp_icmp_ne (n := 46) K dX12_clause_43 rfl (tgt := 49) (by decide) ⟨by omega, by omega⟩ ⟨by omega, by omega⟩ (fun c43 => ?_) (fun c43 => ?_)
    rotate_left
    · refine wp_bipush (n := 48) K dX12_clause_46 rfl rfl ?_
      refine ret_ei K dX12_clause_48 rfl ?_ ?_ ⟨Nat.le_refl _, Nat.le_refl _⟩
      · intro a _; rfl
      · exact ⟨FRT.refl _ _, Or.inr ⟨6, t, rfl, by decide, by decide, Rch.one (s0_6 hk (by rw [e8]; intro q; exact hb ⟨by omega, q.2⟩) (by omega)), h8⟩⟩
    have hnc2 : nc < 24 := by omega
    have at66 : ∀ M1 : MT, M1 = up M 77 (up (M 77) 21 (onF on s : Int)) → onF on s < 8 → Wp E1 X 66 [.ref 77, .int (z (s : Int)), .int (z (nc : Int)), mkV, mkV, mkV] [] S M1 := by
      intro M1 hM1 hon2
      subst hM1
      refine wp_aload_n (n := 67) K dX12_clause_66 rfl rfl ?_
      refine wp_iload_n (n := 68) K dX12_clause_67 rfl rfl ?_
      refine wp_putI (n := 71) K dX12_clause_68 rfl fl_X12_157 rfl (liS rfl) (Or.inl rfl) rfl rfl ?_
      try simp only [up_same, up_up, up_ne, ne_eq, Nat.reduceEqDiff, not_false_eq_true, Int.reduceToNat, Int.toNat_natCast]
      refine wp_aload_n (n := 72) K dX12_clause_71 rfl rfl ?_
      have A1 : AT b n (up M 77 (up (up (M 77) 21 (onF on s : Int)) 20 (s : Int))) t := hA.of rfl (fun j p q => by rw [up_same, up_ne _ _ (by omega), up_ne _ _ (by omega)])
      refine wp_invV_qn (n := 75) K dX12_clause_72 rfl cf_X12_160 (m_next hok _ _ A1) rfl rfl rfl (liS rfl) rfl (by decide) ⟨Nat.le_refl _, Nat.le_refl _⟩ (Nat.le_of_ble_eq_true rfl) (fun M72 hM72 gM72 => ?_)
      try simp only [up_same, up_up, up_ne, ne_eq, Nat.reduceEqDiff, not_false_eq_true, Int.reduceToNat, Int.toNat_natCast]
      refine wp_aload_n (n := 76) K dX12_clause_75 rfl rfl ?_
      refine wp_getI (n := 79) K dX12_clause_76 rfl fl_X12_129 rfl (liS rfl) rfl ?_
      try simp only [up_same, up_up, up_ne, ne_eq, Nat.reduceEqDiff, not_false_eq_true, Int.reduceToNat, Int.toNat_natCast]
      obtain ⟨A2, o2⟩ := A1.nx hM72 gM72
      have ot : ∀ j, 12 ≤ j → M72 77 j = up (up (M 77) 21 (onF on s : Int)) 20 (s : Int) j := fun j hj => by rw [o2 j (by omega) (by omega) (by omega) (by omega) (by omega), up_same]
      have tx : M72 80 = M 80 := by rw [hM72 80 (by decide)]; rfl
      have q12 : M72 77 12 = t0 := by rw [ot 12 (by decide)]; exact h12
      have q14 : M72 77 14 = c.length := by rw [ot 14 (by decide)]; exact h14
      rw [q12]
      refine wp_iconst (n := 80) K dX12_clause_79 rfl ?_
      refine wp_iadd (n := 81) K dX12_clause_80 rfl ?_
      refine wp_iconst (n := 82) K dX12_clause_81 rfl ?_
      refine wp_iload_n (n := 83) K dX12_clause_82 rfl rfl ?_
      refine wp_imul (n := 84) K dX12_clause_83 rfl ?_
      refine wp_iadd (n := 85) K dX12_clause_84 rfl ?_
      rw [show (t0 : Int) + 1 + 3 * (nc : Int) = ((t0 + 1 + 3 * nc : Nat) : Int) by omega]
      refine wp_istore_n (n := 86) K dX12_clause_85 rfl (by decide) ?_
      refine wp_aload_n (n := 87) K dX12_clause_86 rfl rfl ?_
      refine wp_getF (n := 90) K dX12_clause_87 rfl fl_X12_16 rfl (liS rfl) rfl rfl ?_
      refine wp_iload_n (n := 91) K dX12_clause_90 rfl rfl ?_
      refine wp_iload_n (n := 92) K dX12_clause_91 rfl rfl ?_
      refine wp_iast (n := 93) K dX12_clause_92 rfl rfl (liS rfl) (fun _ => rfl) ⟨by omega, by omega, by omega⟩ ?_
      try simp only [up_same, up_up, up_ne, ne_eq, Nat.reduceEqDiff, not_false_eq_true, Int.reduceToNat, Int.toNat_natCast]
      refine wp_aload_n (n := 94) K dX12_clause_93 rfl rfl ?_
      refine wp_getI (n := 97) K dX12_clause_94 rfl fl_X12_132 rfl (liS rfl) rfl ?_
      try simp only [up_same, up_up, up_ne, ne_eq, Nat.reduceEqDiff, not_false_eq_true, Int.reduceToNat, Int.toNat_natCast]
      rw [q14]
      refine wp_istore (n := 99) K dX12_clause_97 rfl (by decide) ?_
      refine cl_body K hok ht0 hs5 hnc2 hon2 (cR := up cR (3 * nc) (s : Int)) ⟨A2.of rfl (fun j _ _ => rfl), ⟨q12, q14, ?_⟩, ?_, ?_, ?_, ?_, ?_, ?_, ?_⟩ (hrd.nx hk41) (by omega) (by omega) (Rch.one (s0_y hs5 es hb (by omega))) ⟨fun j hj => ?_, fun j hj => ?_⟩ (fun a ha => ?_)
      · refine hCR.of (fun j hj => ?_)
        unfold cs
        rw [up_same, up_ne _ _ (by omega), tx]
      · show M72 77 18 = 0
        rw [ot 18 (by decide)]; exact h18
      · show M72 77 20 = _
        rw [ot 20 (by decide), up_same]
      · show M72 77 21 = _
        rw [ot 21 (by decide), up_ne _ _ (by decide), up_same]
      · rw [up_same, up_ne _ _ (by omega), tx]; exact htx
      · refine (hCW.of (fun j _ hj => ?_)).cr (fun j hj => up_ne _ _ (by omega))
        rw [up_same, up_ne _ _ (by omega), tx]
      · rw [up_same, up_same]
      · rw [up_same]
      · show M72 77 j = _
        rw [o2 j (by omega) (by omega) (by omega) (by omega) (by omega), up_same, up_ne _ _ (by omega), up_ne _ _ (by omega)]
      · rw [up_same, up_ne _ _ (by omega), tx]
      · rw [up_ne _ _ (fun q => ha (by rw [q]; decide)), hM72 a (fun q => ha (by simp only [List.mem_cons, List.mem_nil_iff, or_false] at q ⊢; omega)), up_ne _ _ (fun q => ha (by rw [q]; decide))]
    refine wp_iload_n (n := 50) K dX12_clause_49 rfl rfl ?_
    refine wp_iconst (n := 51) K dX12_clause_50 rfl ?_
    refine wp_icmp_ge (n := 54) K dX12_clause_51 rfl (tgt := 66) (by decide) ⟨by omega, by omega⟩ ⟨by omega, by omega⟩ (fun c51 => ?_) (fun c51 => ?_)
    · have e : onF on s = on := if_neg (by omega)
      exact at66 M (by rw [e, ← h21, up_self, up_self]) (by omega)
    · have hb2 := bit_o on hon s (by omega) (fun q => hb ⟨by omega, q⟩)
      have e : onF on s = on + 2 ^ s := if_pos (by omega)
      refine wp_aload_n (n := 55) K dX12_clause_54 rfl rfl ?_
      refine wp_dup (n := 56) K dX12_clause_55 rfl rfl ?_
      refine wp_getI (n := 59) K dX12_clause_56 rfl fl_X12_215 rfl (liS rfl) rfl ?_
      try simp only [up_same, up_up, up_ne, ne_eq, Nat.reduceEqDiff, not_false_eq_true, Int.reduceToNat, Int.toNat_natCast]
      refine wp_iconst (n := 60) K dX12_clause_59 rfl ?_
      refine wp_iload_n (n := 61) K dX12_clause_60 rfl rfl ?_
      rw [h21]
      refine wp_ishl (n := 62) K dX12_clause_61 rfl ?_
      rw [bshl_1 (by omega)]
      refine wp_ior (n := 63) K dX12_clause_62 rfl ?_
      rw [bor_n (by omega) (by omega), hb2.1, ← e]
      refine wp_putI (n := 66) K dX12_clause_63 rfl fl_X12_215 rfl (liS rfl) (Or.inl rfl) rfl rfl ?_
      try simp only [up_same, up_up, up_ne, ne_eq, Nat.reduceEqDiff, not_false_eq_true, Int.reduceToNat, Int.toNat_natCast]
      exact at66 _ rfl (by omega)
  refine wp_iload_n (n := 12) K dX12_clause_11 rfl rfl ?_
  refine wp_iconst (n := 13) K dX12_clause_12 rfl ?_
  refine wp_icmp_ge (n := 16) K dX12_clause_13 rfl (tgt := 30) (by decide) ⟨by omega, by omega⟩ ⟨by omega, by omega⟩ (fun c13 => ?_) (fun c13 => ?_)
  · exact at30 (fun q => by omega)
  have hs2 : s ≤ 2 := by omega
  have eb : band (((on / 2 ^ s : Nat) : Int)) 1 = ((on / 2 ^ s % 2 : Nat) : Int) := by
    rw [show (1 : Int) = ((1 : Nat) : Int) from rfl, band_n (Nat.lt_of_le_of_lt (Nat.div_le_self _ _) (by omega)) (by decide), Nat.and_one_is_mod]
  refine wp_aload_n (n := 17) K dX12_clause_16 rfl rfl ?_
  refine wp_getI (n := 20) K dX12_clause_17 rfl fl_X12_215 rfl (liS rfl) rfl ?_
  try simp only [up_same, up_up, up_ne, ne_eq, Nat.reduceEqDiff, not_false_eq_true, Int.reduceToNat, Int.toNat_natCast]
  refine wp_iload_n (n := 21) K dX12_clause_20 rfl rfl ?_
  rw [h21]
  refine wp_ishr (n := 22) K dX12_clause_21 rfl ?_
  rw [bshr_n (by omega) (by omega)]
  refine wp_iconst (n := 23) K dX12_clause_22 rfl ?_
  refine wp_iand (n := 24) K dX12_clause_23 rfl ?_
  rw [eb]
  refine wp_iconst (n := 25) K dX12_clause_24 rfl ?_
  refine wp_icmp_ne (n := 28) K dX12_clause_25 rfl (tgt := 30) (by decide) ⟨by omega, by omega⟩ ⟨by omega, by omega⟩ (fun c25 => ?_) (fun c25 => ?_)
  · exact at30 (fun q => c25 (by omega))
  · refine wp_iconst (n := 29) K dX12_clause_28 rfl ?_
    refine ret_ei K dX12_clause_29 rfl ?_ ?_ ⟨Nat.le_refl _, Nat.le_refl _⟩
    · intro a _; rfl
    · exact ⟨FRT.refl _ _, Or.inr ⟨4, t, rfl, by decide, by decide, Rch.one (s0_4 hk (by rw [e8]; exact ⟨by omega, by omega⟩)), h8⟩⟩
/-- how reading ends -/
def EndT (b : Nat → Int) (n t0 : Nat) (v : Int) (M1 : MT) : Prop :=
  (v = 0 ∧ ∃ t' c' cR' nc' on', Rch (KT b n) (VT b n) (cf 0 0 0 0 [] [] 0 0 false false 0 (fun _ => 0) 0 0) (cf 9 t' 0 0 [] c' 0 0 false false 0 cR' nc' on') ∧ TP b n t0 M1 t' c' cR' nc' on' ∧ c'.length ≤ 300 ∧ nc' ≤ 24) ∨ (∃ f' t' : Nat, v = (f' : Int) ∧ f' ≠ 0 ∧ f' ≤ 6 ∧ Rch (KT b n) (VT b n) (cf 0 0 0 0 [] [] 0 0 false false 0 (fun _ => 0) 0 0) (flt t' f' (fun _ => 0) 0 0) ∧ M1 77 8 = (BT b n t' : Int))

theorem m_readText {b : Nat → Int} {n x : Nat} (hok : okTp b n) (hx : x ≤ 3) (S : ST) (M : MT) (hb : M 81 = b) (h4 : M 77 4 = n) (ha4 : M 78 4 = x) : Ct E1 yX12_readText cX12_readText 2 (some .int) rm_X12_readText [.ref 77] S M (Qe [77, 80, 82] S M (fun v M1 => (∀ j, (j < 7 ∨ j = 13 ∨ j = 15 ∨ 22 ≤ j) → M1 77 j = M 77 j) ∧ (∀ j, j < 680 * x → M1 80 j = M 80 j) ∧ EndT b n (680 * x) v M1)) := by
  refine Ct.mk [.ref 77, mkV] (by decide) rfl (Nat.le_of_ble_eq_true rfl) (fun X K => ?_)
  have ht0 : 680 * x ≤ 2040 := by omega
  have hn := hok.1
  have loop : ∀ (d t : Nat) (c : List (Int × Int)) (cR : Nat → Int) (nc on : Nat) (M1 : MT) (l1 : Value), n + 1 ≤ t + d → on < 8 → nc ≤ 24 → Rd b n t → c.length ≤ t → TP b n (680 * x) M1 t c cR nc on → Rch (KT b n) (VT b n) (cf 0 0 0 0 [] [] 0 0 false false 0 (fun _ => 0) 0 0) (cf 0 t 0 0 [] c 0 0 false false 0 cR nc on) → (∀ j, (j < 7 ∨ j = 13 ∨ j = 15 ∨ 22 ≤ j) → M1 77 j = M 77 j) → (∀ j, j < 680 * x → M1 80 j = M 80 j) → (∀ a, a ∉ [77, 80, 82] → M1 a = M a) → Wp E1 X 48 [.ref 77, l1] [] S M1 := by
    intro d
    induction d with
    | zero => intro t c cR nc on M1 l1 hd _ _ hr; have := hr.ln; omega
    | succ d ih =>
      intro t c cR nc on M1 l1 hd hon hnc hrd hc hTP hrch hf hx2 hfa
      have hT := hTP.1.2.2.2.2
      have hTr := hT.r
      have hln := hrd.ln
      refine wp_aload_n (n := 49) K dX12_readText_48 rfl rfl ?_
      refine wp_getI (n := 52) K dX12_readText_49 rfl fl_X12_104 rfl (liS rfl) rfl ?_
      try simp only [up_same, up_up, up_ne, ne_eq, Nat.reduceEqDiff, not_false_eq_true, Int.reduceToNat, Int.toNat_natCast]
      refine wp_if_eq (n := 55) K dX12_readText_52 rfl (tgt := 69) (by decide) ⟨by omega, by omega⟩ (fun c52 => ?_) (fun c52 => ?_)
      · have e41 : KT b n t = 41 := (hT.is (j := 41) (by decide)).mp c52
        refine wp_iconst (n := 70) K dX12_readText_69 rfl ?_
        refine ret_ei K dX12_readText_70 rfl ?_ ?_ ⟨Nat.le_refl _, Nat.le_refl _⟩
        · exact hfa
        · exact ⟨hf, hx2, Or.inl ⟨rfl, t, c, cR, nc, on, hrch.trans (Rch.one (s0_e e41)), hTP, by omega, hnc⟩⟩
      have h41 : KT b n t ≠ 41 := fun q => c52 ((hT.is (c := 0) (by decide)).mpr q)
      refine wp_aload_n (n := 56) K dX12_readText_55 rfl rfl ?_
      refine wp_invV_qe (n := 59) K dX12_readText_56 rfl cf_X12_224 (m_clause hok ht0 hon hnc hrd hc h41 _ _ hTP) rfl rfl rfl (liS rfl) rfl (by decide) ⟨Nat.le_refl _, Nat.le_refl _⟩ (Nat.le_of_ble_eq_true rfl) (fun vM56 M56 hM56 gM56 => ?_)
      try simp only [up_same, up_up, up_ne, ne_eq, Nat.reduceEqDiff, not_false_eq_true, Int.reduceToNat, Int.toNat_natCast]
      refine wp_istore_n (n := 60) K dX12_readText_59 rfl (by decide) ?_
      obtain ⟨f1, g1⟩ := gM56
      have hf1 : ∀ j, (j < 7 ∨ j = 13 ∨ j = 15 ∨ 22 ≤ j) → M56 77 j = M 77 j := fun j hj => (f1.1 j (by omega)).trans (hf j hj)
      have hx1 : ∀ j, j < 680 * x → M56 80 j = M 80 j := fun j hj => (f1.2 j hj).trans (hx2 j hj)
      have hfa1 : ∀ a, a ∉ [77, 80, 82] → M56 a = M a := fun a ha => (hM56 a ha).trans (hfa a ha)
      rcases g1 with ⟨rfl, t', c', cR', nc', on', rc, T1, r1, l1', tt, o1, n1⟩ | ⟨f', t', rfl, e2, e3, e4, e5⟩
      · refine wp_iload_n (n := 61) K dX12_readText_60 rfl rfl ?_
        refine wp_if_eq (n := 64) K dX12_readText_61 rfl (tgt := 66) (by decide) ⟨by omega, by omega⟩ (fun c61 => ?_) (fun c61 => ?_)
        · refine wp_goto K dX12_readText_66 (tgt := 48) (by decide) ?_
          exact ih t' c' cR' nc' on' M56 _ (by omega) o1 n1 r1 l1' T1 (hrch.trans rc) hf1 hx1 hfa1
        · exact absurd rfl c61
      · refine wp_iload_n (n := 61) K dX12_readText_60 rfl rfl ?_
        refine wp_if_eq (n := 64) K dX12_readText_61 rfl (tgt := 66) (by decide) ⟨by omega, by omega⟩ (fun c61 => ?_) (fun c61 => ?_)
        · omega
        refine wp_iload_n (n := 65) K dX12_readText_64 rfl rfl ?_
        refine ret_ei K dX12_readText_65 rfl ?_ ?_ ⟨Nat.le_refl _, Nat.le_refl _⟩
        · exact hfa1
        · exact ⟨hf1, hx1, Or.inr ⟨f', t', rfl, e2, e3, hrch.trans e4, e5⟩⟩
  refine wp_aload_n (n := 1) K dX12_readText_0 rfl rfl ?_
  refine wp_sipush (n := 4) K dX12_readText_1 rfl rfl ?_
  refine wp_aload_n (n := 5) K dX12_readText_4 rfl rfl ?_
  refine wp_getF (n := 8) K dX12_readText_5 rfl fl_X12_7 rfl (liS rfl) rfl rfl ?_
  refine wp_iconst (n := 9) K dX12_readText_8 rfl ?_
  refine wp_iald (n := 10) K dX12_readText_9 rfl rfl (liS rfl) ⟨by omega, by omega, by omega⟩ ?_
  try simp only [up_same, up_up, up_ne, ne_eq, Nat.reduceEqDiff, not_false_eq_true, Int.reduceToNat, Int.toNat_natCast]
  rw [ha4]
  refine wp_imul (n := 11) K dX12_readText_10 rfl ?_
  rw [show (680 : Int) * (x : Int) = ((680 * x : Nat) : Int) by omega]
  refine wp_putI (n := 14) K dX12_readText_11 rfl fl_X12_129 rfl (liS rfl) (Or.inl rfl) rfl rfl ?_
  try simp only [up_same, up_up, up_ne, ne_eq, Nat.reduceEqDiff, not_false_eq_true, Int.reduceToNat, Int.toNat_natCast]
  refine wp_aload_n (n := 15) K dX12_readText_14 rfl rfl ?_
  refine wp_getF (n := 18) K dX12_readText_15 rfl fl_X12_16 rfl (liS rfl) rfl rfl ?_
  refine wp_aload_n (n := 19) K dX12_readText_18 rfl rfl ?_
  refine wp_getI (n := 22) K dX12_readText_19 rfl fl_X12_129 rfl (liS rfl) rfl ?_
  try simp only [up_same, up_up, up_ne, ne_eq, Nat.reduceEqDiff, not_false_eq_true, Int.reduceToNat, Int.toNat_natCast]
  refine wp_iconst (n := 23) K dX12_readText_22 rfl ?_
  refine wp_iast (n := 24) K dX12_readText_23 rfl rfl (liS rfl) (fun _ => rfl) ⟨by omega, by omega, by omega⟩ ?_
  try simp only [up_same, up_up, up_ne, ne_eq, Nat.reduceEqDiff, not_false_eq_true, Int.reduceToNat, Int.toNat_natCast]
  refine wp_aload_n (n := 25) K dX12_readText_24 rfl rfl ?_
  refine wp_iconst (n := 26) K dX12_readText_25 rfl ?_
  refine wp_putI (n := 29) K dX12_readText_26 rfl fl_X12_132 rfl (liS rfl) (Or.inl rfl) rfl rfl ?_
  try simp only [up_same, up_up, up_ne, ne_eq, Nat.reduceEqDiff, not_false_eq_true, Int.reduceToNat, Int.toNat_natCast]
  refine wp_aload_n (n := 30) K dX12_readText_29 rfl rfl ?_
  refine wp_iconst (n := 31) K dX12_readText_30 rfl ?_
  refine wp_putI (n := 34) K dX12_readText_31 rfl fl_X12_142 rfl (liS rfl) (Or.inl rfl) rfl rfl ?_
  try simp only [up_same, up_up, up_ne, ne_eq, Nat.reduceEqDiff, not_false_eq_true, Int.reduceToNat, Int.toNat_natCast]
  refine wp_aload_n (n := 35) K dX12_readText_34 rfl rfl ?_
  refine wp_iconst (n := 36) K dX12_readText_35 rfl ?_
  refine wp_putI (n := 39) K dX12_readText_36 rfl fl_X12_215 rfl (liS rfl) (Or.inl rfl) rfl rfl ?_
  try simp only [up_same, up_up, up_ne, ne_eq, Nat.reduceEqDiff, not_false_eq_true, Int.reduceToNat, Int.toNat_natCast]
  refine wp_aload_n (n := 40) K dX12_readText_39 rfl rfl ?_
  refine wp_iconst (n := 41) K dX12_readText_40 rfl ?_
  refine wp_putI (n := 44) K dX12_readText_41 rfl fl_X12_95 rfl (liS rfl) (Or.inl rfl) rfl rfl ?_
  try simp only [up_same, up_up, up_ne, ne_eq, Nat.reduceEqDiff, not_false_eq_true, Int.reduceToNat, Int.toNat_natCast]
  refine wp_aload_n (n := 45) K dX12_readText_44 rfl rfl ?_
  have eM : up (up (up M 77 (up (M 77) 12 ((680 * x : Nat) : Int))) 80 (up (M 80) (680 * x) 0)) 77 (up (up (up (up (up (M 77) 12 ((680 * x : Nat) : Int)) 14 0) 18 0) 21 0) 7 0) = up (up M 80 (up (M 80) (680 * x) 0)) 77 (up (up (up (up (up (M 77) 12 ((680 * x : Nat) : Int)) 14 0) 18 0) 21 0) 7 0) := by
    funext a
    by_cases q : a = 77
    · subst q; rw [up_same, up_same]
    · rw [up_ne _ _ q, up_ne _ _ q]
      by_cases q2 : a = 80
      · subst q2; rw [up_same, up_same]
      · rw [up_ne _ _ q2, up_ne _ _ q2, up_ne _ _ q]
  rw [eM]
  have o9 : ∀ j, j ≠ 12 → j ≠ 14 → j ≠ 18 → j ≠ 21 → j ≠ 7 → up (up M 80 (up (M 80) (680 * x) 0)) 77 (up (up (up (up (up (M 77) 12 ((680 * x : Nat) : Int)) 14 0) 18 0) 21 0) 7 0) 77 j = M 77 j := fun j a1 a2 a3 a4 a5 => by rw [up_same, up_ne _ _ a5, up_ne _ _ a4, up_ne _ _ a3, up_ne _ _ a2, up_ne _ _ a1]
  have t9 : up (up M 80 (up (M 80) (680 * x) 0)) 77 (up (up (up (up (up (M 77) 12 ((680 * x : Nat) : Int)) 14 0) 18 0) 21 0) 7 0) 80 = up (M 80) (680 * x) 0 := by rw [up_ne _ _ (by decide), up_same]
  have f9 : ∀ a, a ∉ [77, 80, 82] → up (up M 80 (up (M 80) (680 * x) 0)) 77 (up (up (up (up (up (M 77) 12 ((680 * x : Nat) : Int)) 14 0) 18 0) 21 0) 7 0) a = M a := fun a ha => by rw [up_ne _ _ (fun q => ha (by rw [q]; decide)), up_ne _ _ (fun q => ha (by rw [q]; decide))]
  have g12 : up (up M 80 (up (M 80) (680 * x) 0)) 77 (up (up (up (up (up (M 77) 12 ((680 * x : Nat) : Int)) 14 0) 18 0) 21 0) 7 0) 77 12 = ((680 * x : Nat) : Int) := rfl
  have g14 : up (up M 80 (up (M 80) (680 * x) 0)) 77 (up (up (up (up (up (M 77) 12 ((680 * x : Nat) : Int)) 14 0) 18 0) 21 0) 7 0) 77 14 = 0 := rfl
  have g18 : up (up M 80 (up (M 80) (680 * x) 0)) 77 (up (up (up (up (up (M 77) 12 ((680 * x : Nat) : Int)) 14 0) 18 0) 21 0) 7 0) 77 18 = 0 := rfl
  have g21 : up (up M 80 (up (M 80) (680 * x) 0)) 77 (up (up (up (up (up (M 77) 12 ((680 * x : Nat) : Int)) 14 0) 18 0) 21 0) 7 0) 77 21 = 0 := rfl
  have g7 : up (up M 80 (up (M 80) (680 * x) 0)) 77 (up (up (up (up (up (M 77) 12 ((680 * x : Nat) : Int)) 14 0) 18 0) 21 0) 7 0) 77 7 = 0 := rfl
  generalize up (up M 80 (up (M 80) (680 * x) 0)) 77 (up (up (up (up (up (M 77) 12 ((680 * x : Nat) : Int)) 14 0) 18 0) 21 0) 7 0) = M9 at *
  have hb9 : M9 81 = b := by rw [f9 81 (by decide)]; exact hb
  have h49 : M9 77 4 = n := by rw [o9 4 (by decide) (by decide) (by decide) (by decide) (by decide)]; exact h4
  refine wp_invV_qn (n := 48) K dX12_readText_45 rfl cf_X12_160 (m_nextToken n 0 hok.1 (Nat.zero_le _) _ _ h49 g7 (by rw [hb9]; exact hok.2)) rfl rfl rfl (liS rfl) rfl (by decide) ⟨Nat.le_refl _, Nat.le_refl _⟩ (Nat.le_of_ble_eq_true rfl) (fun M45 hM45 gM45 => ?_)
  try simp only [up_same, up_up, up_ne, ne_eq, Nat.reduceEqDiff, not_false_eq_true, Int.reduceToNat, Int.toNat_natCast]
  obtain ⟨A1, o1⟩ := NT.at (hM45 81 (by decide)) hb9 h49 0 rfl gM45
  have ot : ∀ j, j ≠ 7 → j ≠ 8 → j ≠ 9 → j ≠ 10 → j ≠ 11 → M45 77 j = M9 77 j := fun j p1 p2 p3 p4 p5 => o1 j p1 p2 p3 p4 p5
  have tx : M45 80 = up (M 80) (680 * x) 0 := by rw [hM45 80 (by decide)]; exact t9
  refine loop (n + 1) 0 [] (fun _ => 0) 0 0 M45 _ (by omega) (by decide) (by decide) (fun j hj => absurd hj (Nat.not_lt_zero _)) (Nat.le_refl _) ⟨A1, ⟨?_, ?_, trivial⟩, ?_, ?_, ?_, fun k hk => absurd hk (Nat.not_lt_zero _)⟩ (Rch.refl _) (fun j hj => ?_) (fun j hj => ?_) (fun a ha => ?_)
  · rw [ot 12 (by decide) (by decide) (by decide) (by decide) (by decide)]; exact g12
  · rw [ot 14 (by decide) (by decide) (by decide) (by decide) (by decide)]; exact g14
  · rw [ot 18 (by decide) (by decide) (by decide) (by decide) (by decide)]; exact g18
  · rw [ot 21 (by decide) (by decide) (by decide) (by decide) (by decide)]; exact g21
  · rw [tx, up_same]; rfl
  · rw [ot j (by omega) (by omega) (by omega) (by omega) (by omega), o9 j (by omega) (by omega) (by omega) (by omega) (by omega)]
  · rw [tx, up_ne _ _ (by omega)]
  · rw [hM45 a (fun q => ha (by simp only [List.mem_cons, List.mem_nil_iff, or_false] at q ⊢; omega)), f9 a ha]

/-- text of the reference: it tells the end that reading comes to -/
theorem m_text {b : Nat → Int} {n x : Nat} (hok : okTp b n) (hx : x ≤ 4) (S : ST) (M : MT) (hb : M 81 = b) (h4 : M 77 4 = n) (ha4 : M 78 4 = x) : Ct E1 yX12_text cX12_text 1 (some .int) rm_X12_text [.ref 77] S M (Qe [77, 78, 80, 82] S M (fun v M1 => (x = 4 ∧ v = -1 ∧ M1 = M) ∨ (x < 4 ∧ (∀ j, (j < 4 ∨ j = 13 ∨ j = 15 ∨ 22 ≤ j) → M1 77 j = M 77 j) ∧ (∀ j, j < 680 * x → M1 80 j = M 80 j) ∧ M1 77 4 = 0 ∧ ((v = (x : Int) ∧ M1 77 5 = 0 ∧ M1 77 6 = -1 ∧ M1 78 = up (M 78) 4 ((x : Int) + 1) ∧ ∃ t c cR nc on, Rch (KT b n) (VT b n) (cf 0 0 0 0 [] [] 0 0 false false 0 (fun _ => 0) 0 0) (cf 9 t 0 0 [] c 0 0 false false 0 cR nc on) ∧ CR (cs M1 (680 * x)) c ∧ M1 80 (680 * x) = (nc : Int) ∧ CW (M1 80) (680 * x) cR nc ∧ c.length ≤ 300 ∧ nc ≤ 24) ∨ (v = -1 ∧ M1 78 = M 78 ∧ ∃ f t : Nat, f ≠ 0 ∧ f ≤ 6 ∧ Rch (KT b n) (VT b n) (cf 0 0 0 0 [] [] 0 0 false false 0 (fun _ => 0) 0 0) (flt t f (fun _ => 0) 0 0) ∧ M1 77 5 = (f : Int) ∧ M1 77 6 = (BT b n t : Int)))))) := by
  refine Ct.mk [.ref 77] (by decide) rfl (Nat.le_of_ble_eq_true rfl) (fun X K => ?_)
  refine wp_aload_n (n := 1) K dX12_text_0 rfl rfl ?_
  refine wp_getF (n := 4) K dX12_text_1 rfl fl_X12_7 rfl (liS rfl) rfl rfl ?_
  refine wp_iconst (n := 5) K dX12_text_4 rfl ?_
  refine wp_iald (n := 6) K dX12_text_5 rfl rfl (liS rfl) ⟨by omega, by omega, by omega⟩ ?_
  try simp only [up_same, up_up, up_ne, ne_eq, Nat.reduceEqDiff, not_false_eq_true, Int.reduceToNat, Int.toNat_natCast]
  rw [ha4]
  refine wp_iconst (n := 7) K dX12_text_6 rfl ?_
  refine wp_icmp_ne (n := 10) K dX12_text_7 rfl (tgt := 12) (by decide) ⟨by omega, by omega⟩ ⟨by omega, by omega⟩ (fun c7 => ?_) (fun c7 => ?_)
  rotate_left
  · refine wp_iconst (n := 11) K dX12_text_10 rfl ?_
    refine ret_ei K dX12_text_11 rfl ?_ ?_ ⟨Nat.le_refl _, Nat.le_refl _⟩
    · intro a _; rfl
    · exact Or.inl ⟨by omega, rfl, rfl⟩
  have hx4 : x < 4 := by omega
  refine wp_aload_n (n := 13) K dX12_text_12 rfl rfl ?_
  refine wp_aload_n (n := 14) K dX12_text_13 rfl rfl ?_
  refine wp_invV_qe (n := 17) K dX12_text_14 rfl cf_X12_227 (m_readText hok (by omega) _ _ hb h4 ha4) rfl rfl rfl (liS rfl) rfl (by decide) ⟨Nat.le_refl _, Nat.le_refl _⟩ (Nat.le_of_ble_eq_true rfl) (fun vM14 M14 hM14 gM14 => ?_)
  try simp only [up_same, up_up, up_ne, ne_eq, Nat.reduceEqDiff, not_false_eq_true, Int.reduceToNat, Int.toNat_natCast]
  obtain ⟨g1, g2, g3⟩ := gM14
  have hfa : ∀ a, a ∉ [77, 78, 80, 82] → M14 a = M a := fun a ha => hM14 a (fun q => ha (by simp only [List.mem_cons, List.mem_nil_iff, or_false] at q ⊢; omega))
  have hma : M14 78 = M 78 := hM14 78 (by decide)
  rcases g3 with ⟨rfl, t, c, cR, nc, on, rc, T1, l1, n1⟩ | ⟨f, t, rfl, e2, e3, e4, e5⟩
  · refine wp_putI (n := 20) K dX12_text_17 rfl fl_X12_22 rfl (liS rfl) (Or.inl rfl) rfl rfl ?_
    try simp only [up_same, up_up, up_ne, ne_eq, Nat.reduceEqDiff, not_false_eq_true, Int.reduceToNat, Int.toNat_natCast]
    refine wp_aload_n (n := 21) K dX12_text_20 rfl rfl ?_
    refine wp_aload_n (n := 22) K dX12_text_21 rfl rfl ?_
    refine wp_getI (n := 25) K dX12_text_22 rfl fl_X12_22 rfl (liS rfl) rfl ?_
    try simp only [up_same, up_up, up_ne, ne_eq, Nat.reduceEqDiff, not_false_eq_true, Int.reduceToNat, Int.toNat_natCast]
    refine wp_if_ne (n := 28) K dX12_text_25 rfl (tgt := 32) (by decide) ⟨by omega, by omega⟩ (fun c25 => ?_) (fun c25 => ?_)
    · exact absurd rfl c25
    refine wp_iconst (n := 29) K dX12_text_28 rfl ?_
    refine wp_goto K dX12_text_29 (tgt := 36) (by decide) ?_
    refine wp_putI (n := 39) K dX12_text_36 rfl fl_X12_26 rfl (liS rfl) (Or.inl rfl) rfl rfl ?_
    try simp only [up_same, up_up, up_ne, ne_eq, Nat.reduceEqDiff, not_false_eq_true, Int.reduceToNat, Int.toNat_natCast]
    refine wp_aload_n (n := 40) K dX12_text_39 rfl rfl ?_
    refine wp_iconst (n := 41) K dX12_text_40 rfl ?_
    refine wp_putI (n := 44) K dX12_text_41 rfl fl_X12_88 rfl (liS rfl) (Or.inl rfl) rfl rfl ?_
    try simp only [up_same, up_up, up_ne, ne_eq, Nat.reduceEqDiff, not_false_eq_true, Int.reduceToNat, Int.toNat_natCast]
    refine wp_aload_n (n := 45) K dX12_text_44 rfl rfl ?_
    refine wp_getI (n := 48) K dX12_text_45 rfl fl_X12_22 rfl (liS rfl) rfl ?_
    try simp only [up_same, up_up, up_ne, ne_eq, Nat.reduceEqDiff, not_false_eq_true, Int.reduceToNat, Int.toNat_natCast]
    refine wp_if_eq (n := 51) K dX12_text_48 rfl (tgt := 53) (by decide) ⟨by omega, by omega⟩ (fun c48 => ?_) (fun c48 => ?_)
    rotate_left
    · exact absurd rfl c48
    refine wp_aload_n (n := 54) K dX12_text_53 rfl rfl ?_
    refine wp_getF (n := 57) K dX12_text_54 rfl fl_X12_7 rfl (liS rfl) rfl rfl ?_
    refine wp_iconst (n := 58) K dX12_text_57 rfl ?_
    refine wp_dup2 (n := 59) K dX12_text_58 rfl rfl rfl ?_
    refine wp_iald (n := 60) K dX12_text_59 rfl rfl (liS rfl) ⟨by omega, by omega, by omega⟩ ?_
    try simp only [up_same, up_up, up_ne, ne_eq, Nat.reduceEqDiff, not_false_eq_true, Int.reduceToNat, Int.toNat_natCast]
    rw [hma, ha4]
    refine wp_iconst (n := 61) K dX12_text_60 rfl ?_
    refine wp_iadd (n := 62) K dX12_text_61 rfl ?_
    refine wp_iast (n := 63) K dX12_text_62 rfl rfl (liS rfl) (fun _ => rfl) ⟨by omega, by omega, by omega⟩ ?_
    try simp only [up_same, up_up, up_ne, ne_eq, Nat.reduceEqDiff, not_false_eq_true, Int.reduceToNat, Int.toNat_natCast]
    refine wp_aload_n (n := 64) K dX12_text_63 rfl rfl ?_
    refine wp_getF (n := 67) K dX12_text_64 rfl fl_X12_7 rfl (liS rfl) rfl rfl ?_
    refine wp_iconst (n := 68) K dX12_text_67 rfl ?_
    refine wp_iald (n := 69) K dX12_text_68 rfl rfl (liS rfl) ⟨by omega, by omega, by omega⟩ ?_
    try simp only [up_same, up_up, up_ne, ne_eq, Nat.reduceEqDiff, not_false_eq_true, Int.reduceToNat, Int.toNat_natCast]
    refine wp_iconst (n := 70) K dX12_text_69 rfl ?_
    refine wp_isub (n := 71) K dX12_text_70 rfl ?_
    refine ret_ei K dX12_text_71 rfl ?_ ?_ ⟨Nat.le_refl _, Nat.le_refl _⟩
    · intro a ha
      rw [up_ne _ _ (fun q => ha (by rw [q]; decide)), up_ne _ _ (fun q => ha (by rw [q]; decide))]
      exact hfa a ha
    · refine Or.inr ⟨hx4, fun j hj => ?_, fun j hj => g2 j hj, rfl, Or.inl ⟨by omega, rfl, rfl, ?_, t, c, cR, nc, on, rc, T1.2.1.2.2, T1.2.2.2.2.1, T1.2.2.2.2.2, l1, n1⟩⟩
      · rw [up_ne _ _ (by decide), up_same, up_ne _ _ (by omega), up_ne _ _ (by omega), up_ne _ _ (by omega)]
        exact g1 j (by omega)
      · rw [up_same, hma]
  · refine wp_putI (n := 20) K dX12_text_17 rfl fl_X12_22 rfl (liS rfl) (Or.inl rfl) rfl rfl ?_
    try simp only [up_same, up_up, up_ne, ne_eq, Nat.reduceEqDiff, not_false_eq_true, Int.reduceToNat, Int.toNat_natCast]
    refine wp_aload_n (n := 21) K dX12_text_20 rfl rfl ?_
    refine wp_aload_n (n := 22) K dX12_text_21 rfl rfl ?_
    refine wp_getI (n := 25) K dX12_text_22 rfl fl_X12_22 rfl (liS rfl) rfl ?_
    try simp only [up_same, up_up, up_ne, ne_eq, Nat.reduceEqDiff, not_false_eq_true, Int.reduceToNat, Int.toNat_natCast]
    refine wp_if_ne (n := 28) K dX12_text_25 rfl (tgt := 32) (by decide) ⟨by omega, by omega⟩ (fun c25 => ?_) (fun c25 => ?_)
    rotate_left
    · omega
    refine wp_aload_n (n := 33) K dX12_text_32 rfl rfl ?_
    refine wp_getI (n := 36) K dX12_text_33 rfl fl_X12_101 rfl (liS rfl) rfl ?_
    try simp only [up_same, up_up, up_ne, ne_eq, Nat.reduceEqDiff, not_false_eq_true, Int.reduceToNat, Int.toNat_natCast]
    refine wp_putI (n := 39) K dX12_text_36 rfl fl_X12_26 rfl (liS rfl) (Or.inl rfl) rfl rfl ?_
    try simp only [up_same, up_up, up_ne, ne_eq, Nat.reduceEqDiff, not_false_eq_true, Int.reduceToNat, Int.toNat_natCast]
    refine wp_aload_n (n := 40) K dX12_text_39 rfl rfl ?_
    refine wp_iconst (n := 41) K dX12_text_40 rfl ?_
    refine wp_putI (n := 44) K dX12_text_41 rfl fl_X12_88 rfl (liS rfl) (Or.inl rfl) rfl rfl ?_
    try simp only [up_same, up_up, up_ne, ne_eq, Nat.reduceEqDiff, not_false_eq_true, Int.reduceToNat, Int.toNat_natCast]
    refine wp_aload_n (n := 45) K dX12_text_44 rfl rfl ?_
    refine wp_getI (n := 48) K dX12_text_45 rfl fl_X12_22 rfl (liS rfl) rfl ?_
    try simp only [up_same, up_up, up_ne, ne_eq, Nat.reduceEqDiff, not_false_eq_true, Int.reduceToNat, Int.toNat_natCast]
    refine wp_if_eq (n := 51) K dX12_text_48 rfl (tgt := 53) (by decide) ⟨by omega, by omega⟩ (fun c48 => ?_) (fun c48 => ?_)
    · omega
    refine wp_iconst (n := 52) K dX12_text_51 rfl ?_
    refine ret_ei K dX12_text_52 rfl ?_ ?_ ⟨Nat.le_refl _, Nat.le_refl _⟩
    · intro a ha
      rw [up_ne _ _ (fun q => ha (by rw [q]; decide))]
      exact hfa a ha
    · refine Or.inr ⟨hx4, fun j hj => ?_, fun j hj => g2 j hj, rfl, Or.inr ⟨rfl, hma, f, t, e2, e3, e4, rfl, e5⟩⟩
      rw [up_same, up_ne _ _ (by omega), up_ne _ _ (by omega), up_ne _ _ (by omega)]
      exact g1 j (by omega)
