def TxE (b : Nat → Int) (n x : Nat) (S : ST) (M : MT) : Option Value → ST → MT → Prop := fun r S' M' => ∃ v : Int, r = some (.int (z v)) ∧ S.2.1 ≤ S'.2.1 ∧ (∀ a, a < S.2.1 → S'.1 a = S.1 a) ∧ (∀ a, a < S.2.1 → a ∉ [16, 17, 35, 55, 57, 58, 59, 60, 61, 62, 63] → M' a = M a) ∧ M' 16 7 = 1 ∧ M' 55 4 = 0 ∧
  ((v = -1 ∧ M' 17 = M 17 ∧ M' 35 = M 35 ∧ ∃ t f : Nat, f ≠ 0 ∧ f ≤ 6 ∧ Rch (KT b n) (VT b n) X00 (flt t f (fun _ => 0) 0 0) ∧ M' 16 8 = (f : Int) ∧ M' 16 9 = (BT b n t : Int)) ∨
   (v = (x : Int) ∧ M' 16 8 = 0 ∧ M' 16 9 = -1 ∧ M' 17 = up (M 17) 6 ((x : Int) + 1) ∧ ∃ (t : Nat) (c : List (Int × Int)) (cR : Nat → Int) (nc on b0 a3 : Nat), nc ≤ 24 ∧ Rch (KT b n) (VT b n) X00 (cf 9 t 0 0 [] c 0 0 false false 0 cR nc on) ∧ M' 35 = up (M 35) x (b0 : Int) ∧ 91 ≤ b0 ∧ shp E1 S' b0 = (1, 10) ∧ live E1 S' b0 ∧ M' b0 3 = (a3 : Int) ∧ 91 ≤ a3 ∧ shp E1 S' a3 = (2, 3 * nc) ∧ live E1 S' a3 ∧ M' b0 4 = (nc : Int) ∧ (∀ k, k < nc → M' a3 (3 * k) = cR (3 * k) + 8 ∧ (3 ≤ cR (3 * k) → M' a3 (3 * k + 1) = cR (3 * k + 1)) ∧ (cR (3 * k) = 5 → M' a3 (3 * k + 2) = cR (3 * k + 2))) ∧ ∀ s, s < 3 → LV S' M' c cR nc s (M' b0 s)))

theorem c_text4 (S : ST) (M : MT) (h6 : M 17 6 = 4) : Ct E1 yX11_text cX11_text 2 (some .int) rm_X11_text [.ref 16] S M (fun r S' M' => r = some (.int (z (-1))) ∧ S'.1 = S.1 ∧ S'.2.1 = S.2.1 ∧ M' = M) := by
  refine Ct.mk [.ref 16, mkV] (by decide) rfl (Nat.le_of_ble_eq_true rfl) (fun X K => ?_)
  refine wp_aload_n (n := 1) K dX11_text_0 rfl rfl ?_
  refine wp_getF (n := 4) K dX11_text_1 rfl fl_X11_12 rfl (liS rfl) rfl rfl ?_
  refine wp_getI (n := 7) K dX11_text_4 rfl fl_X11_136 rfl (liS rfl) rfl ?_
  try simp only [up_same, up_up, up_ne, ne_eq, Nat.reduceEqDiff, not_false_eq_true, Int.reduceToNat, Int.toNat_natCast]
  rw [h6]
  refine wp_iconst (n := 8) K dX11_text_7 rfl ?_
  refine wp_icmp_lt (n := 11) K dX11_text_8 rfl (tgt := 13) (by decide) ⟨by omega, by omega⟩ ⟨by omega, by omega⟩ (fun c8 => ?_) (fun c8 => ?_)
  · exact absurd c8 (by decide)
  · refine wp_iconst (n := 12) K dX11_text_11 rfl ?_
    exact wp_ireturn K dX11_text_12 ⟨rfl, rfl, rfl, rfl⟩ ⟨Nat.le_add_right _ _, Nat.le_add_right _ _⟩
theorem c_text {b : Nat → Int} {n : Nat} (x : Nat) (hx : x < 4) (hn : n ≤ 300) (hok : okTp b n) (S : ST) (M : MT) (h91 : 91 ≤ S.2.1) (hTB : TB M b n) (h6 : M 17 6 = (x : Int)) : Ct E1 yX11_text cX11_text 2 (some .int) rm_X11_text [.ref 16] S M (TxE b n x S M) := by
  refine Ct.mk [.ref 16, mkV] (by decide) rfl (Nat.le_of_ble_eq_true rfl) (fun X K => ?_)
  refine wp_aload_n (n := 1) K dX11_text_0 rfl rfl ?_
  refine wp_getF (n := 4) K dX11_text_1 rfl fl_X11_12 rfl (liS rfl) rfl rfl ?_
  refine wp_getI (n := 7) K dX11_text_4 rfl fl_X11_136 rfl (liS rfl) rfl ?_
  try simp only [up_same, up_up, up_ne, ne_eq, Nat.reduceEqDiff, not_false_eq_true, Int.reduceToNat, Int.toNat_natCast]
  rw [h6]
  refine wp_iconst (n := 8) K dX11_text_7 rfl ?_
  refine wp_icmp_lt (n := 11) K dX11_text_8 rfl (tgt := 13) (by decide) ⟨by omega, by omega⟩ ⟨by omega, by omega⟩ (fun c8 => ?_) (fun c8 => ?_)
  · refine wp_aload_n (n := 14) K dX11_text_13 rfl rfl ?_
    refine wp_getF (n := 17) K dX11_text_14 rfl fl_X11_29 rfl (liS rfl) rfl rfl ?_
    refine wp_aload_n (n := 18) K dX11_text_17 rfl rfl ?_
    refine wp_getF (n := 21) K dX11_text_18 rfl fl_X11_22 rfl (liS rfl) rfl rfl ?_
    refine wp_invV (n := 24) K dX11_text_21 rfl cf_X11_139 rfl (liS rfl) rfl (c_read hn hok _ _ h91 hTB) rfl rfl (by decide) ⟨Nat.add_le_add_left (by decide) _, Nat.add_le_add_left (by decide) _⟩ (Nat.le_of_ble_eq_true rfl) (fun rA SA A hA hcA hsA => ?_)
    obtain ⟨rfl, e1, e2, e3, e4, e5⟩ := hA
    have hcA' : SA.2.2.1 = S.2.2.1 + 25 := hcA
    have hsA' : SA.2.2.2 = S.2.2.2 + 7500 := hsA
    show Wp E1 X 24 _ [] SA A
    refine wp_aload_n (n := 25) K dX11_text_24 rfl rfl ?_
    refine wp_iconst (n := 26) K dX11_text_25 rfl ?_
    refine wp_putZ (n := 29) K dX11_text_26 rfl fl_X11_54 rfl (liS rfl) (Or.inl rfl) rfl rfl (by first | exact Or.inl rfl | exact Or.inr rfl) ?_
    try simp only [up_same, up_up, up_ne, ne_eq, Nat.reduceEqDiff, not_false_eq_true, Int.reduceToNat, Int.toNat_natCast]
    refine wp_aload_n (n := 30) K dX11_text_29 rfl rfl ?_
    refine wp_aload_n (n := 31) K dX11_text_30 rfl rfl ?_
    refine wp_getF (n := 34) K dX11_text_31 rfl fl_X11_29 rfl (liS rfl) rfl rfl ?_
    refine wp_getI (n := 37) K dX11_text_34 rfl fl_X11_143 rfl (liS rfl) rfl ?_
    try simp only [up_same, up_up, up_ne, ne_eq, Nat.reduceEqDiff, not_false_eq_true, Int.reduceToNat, Int.toNat_natCast]
    refine wp_putI (n := 40) K dX11_text_37 rfl fl_X11_58 rfl (liS rfl) (Or.inl rfl) rfl rfl ?_
    try simp only [up_same, up_up, up_ne, ne_eq, Nat.reduceEqDiff, not_false_eq_true, Int.reduceToNat, Int.toNat_natCast]
    refine wp_aload_n (n := 41) K dX11_text_40 rfl rfl ?_
    refine wp_aload_n (n := 42) K dX11_text_41 rfl rfl ?_
    refine wp_getF (n := 45) K dX11_text_42 rfl fl_X11_29 rfl (liS rfl) rfl rfl ?_
    refine wp_getI (n := 48) K dX11_text_45 rfl fl_X11_146 rfl (liS rfl) rfl ?_
    try simp only [up_same, up_up, up_ne, ne_eq, Nat.reduceEqDiff, not_false_eq_true, Int.reduceToNat, Int.toNat_natCast]
    refine wp_putI (n := 51) K dX11_text_48 rfl fl_X11_62 rfl (liS rfl) (Or.inl rfl) rfl rfl ?_
    try simp only [up_same, up_up, up_ne, ne_eq, Nat.reduceEqDiff, not_false_eq_true, Int.reduceToNat, Int.toNat_natCast]
    refine wp_aload_n (n := 52) K dX11_text_51 rfl rfl ?_
    refine wp_getF (n := 55) K dX11_text_52 rfl fl_X11_22 rfl (liS rfl) rfl rfl ?_
    refine wp_iconst (n := 56) K dX11_text_55 rfl ?_
    refine wp_putI (n := 59) K dX11_text_56 rfl fl_X11_129 rfl (liS rfl) (Or.inl rfl) rfl rfl ?_
    try simp only [up_same, up_up, up_ne, ne_eq, Nat.reduceEqDiff, not_false_eq_true, Int.reduceToNat, Int.toNat_natCast]
    generalize hB0 : up (up A 16 _) 55 _ = B0
    have b16 : B0 16 7 = 1 ∧ B0 16 8 = A 60 9 ∧ B0 16 9 = A 60 10 := by rw [← hB0]; simp [up]
    have b55 : B0 55 4 = 0 := by rw [← hB0]; simp [up]
    have bo : ∀ a, a ≠ 16 → a ≠ 55 → B0 a = A a := fun a h1 h2 => by rw [← hB0, up_ne _ _ h2, up_ne _ _ h1]
    obtain ⟨b167, b168, b169⟩ := b16
    have a17 : A 17 = M 17 := e3 17 (by omega) (by decide)
    have a35 : A 35 = M 35 := e3 35 (by omega) (by decide)
    refine wp_aload_n (n := 60) K dX11_text_59 rfl rfl ?_
    refine wp_getI (n := 63) K dX11_text_60 rfl fl_X11_58 rfl (liS rfl) rfl ?_
    try simp only [up_same, up_up, up_ne, ne_eq, Nat.reduceEqDiff, not_false_eq_true, Int.reduceToNat, Int.toNat_natCast]
    rw [b168]
    rcases e4 with ⟨t', f, f1, f2, f3, f4, f5⟩ | ⟨T, t', c', cR', nc', on', q2, q3, q4, q5⟩
    · rw [f4]
      refine wp_if_eq (n := 66) K dX11_text_63 rfl (tgt := 68) (by decide) ⟨by omega, by omega⟩ (fun c63 => ?_) (fun c63 => ?_)
      · omega
      · refine wp_iconst (n := 67) K dX11_text_66 rfl ?_
        refine wp_ireturn K dX11_text_67 ⟨-1, rfl, e1, e2, fun a h1 h2 => ?_, b167, b55, Or.inl ⟨rfl, (bo 17 (by decide) (by decide)).trans a17, (bo 35 (by decide) (by decide)).trans a35, t', f, f1, f2, f3, b168.trans f4, b169.trans f5⟩⟩ ⟨by show SA.2.2.1 ≤ S.2.2.1 + 27; omega, by show SA.2.2.2 ≤ S.2.2.2 + 7805; omega⟩
        simp only [List.mem_cons, List.not_mem_nil, or_false, not_or] at h2
        rw [bo a (by simp [h2]) (by simp [h2]), e3 a h1 (by simp [h2])]
    · obtain ⟨r1, r2, r3, r4, r5⟩ := q4
      rw [r3]
      refine wp_if_eq (n := 66) K dX11_text_63 rfl (tgt := 68) (by decide) ⟨by omega, by omega⟩ (fun c63 => ?_) (fun c63 => ?_)
      · have hl : ∀ s, s < 3 → LV SA B0 c' cR' nc' s (B0 60 (3 + s)) := fun s hs => by
          rw [bo 60 (by decide) (by decide)]
          exact (r5 s hs).lv.mem (by omega) (Nat.le_refl _) (fun _ _ => rfl) (fun a u _ => bo a (by omega) (by omega))
        obtain ⟨l0, el0⟩ := (hl 0 (by decide)).nat
        obtain ⟨l1, el1⟩ := (hl 1 (by decide)).nat
        obtain ⟨l2, el2⟩ := (hl 2 (by decide)).nat
        have b606 : B0 60 6 = (nc' : Int) := by rw [bo 60 (by decide) (by decide)]; exact r2
        have b176 : B0 17 6 = (x : Int) := by rw [bo 17 (by decide) (by decide), a17]; exact h6
        refine wp_aload_n (n := 69) K dX11_text_68 rfl rfl ?_
        refine wp_getF (n := 72) K dX11_text_69 rfl fl_X11_12 rfl (liS rfl) rfl rfl ?_
        refine wp_getI (n := 75) K dX11_text_72 rfl fl_X11_136 rfl (liS rfl) rfl ?_
        try simp only [up_same, up_up, up_ne, ne_eq, Nat.reduceEqDiff, not_false_eq_true, Int.reduceToNat, Int.toNat_natCast]
        rw [b176]
        refine wp_istore_n (n := 76) K dX11_text_75 rfl (by decide) ?_
        refine wp_aload_n (n := 77) K dX11_text_76 rfl rfl ?_
        refine wp_getF (n := 80) K dX11_text_77 rfl fl_X11_12 rfl (liS rfl) rfl rfl ?_
        refine wp_getF (n := 83) K dX11_text_80 rfl fl_X11_149 rfl (liS rfl) rfl rfl ?_
        refine wp_iload_n (n := 84) K dX11_text_83 rfl rfl ?_
        refine wp_aload_n (n := 85) K dX11_text_84 rfl rfl ?_
        refine wp_getF (n := 88) K dX11_text_85 rfl fl_X11_29 rfl (liS rfl) rfl rfl ?_
        refine wp_invV (n := 91) K dX11_text_88 rfl cf_X11_153 rfl (liS rfl) rfl (c_newText l0 l1 l2 nc' SA B0 (by omega) el0 el1 el2 b606 q2) rfl rfl (by decide) ⟨by show SA.2.2.1 + 2 ≤ S.2.2.1 + 27; omega, by show SA.2.2.2 + 305 ≤ S.2.2.2 + 7805; omega⟩ (Nat.le_of_ble_eq_true rfl) (fun rB SB B hB hcB hsB => ?_)
        obtain ⟨rfl, k1, k2, k3, k4, k5, k6, k7, k8, k9⟩ := hB
        have hcB' : SB.2.2.1 = SA.2.2.1 + 2 := hcB
        have hsB' : SB.2.2.2 = SA.2.2.2 + 305 := hsB
        have h91A : 91 ≤ SA.2.1 := by omega
        have hsb : shp E1 SB SA.2.1 = (1, 10) := by rw [shp_out (show E1.1 ≤ SA.2.1 from h91A), k1, up_ne _ _ (by omega), up_same]
        have hlb : live E1 SB SA.2.1 := ⟨by omega, Or.inr (by omega)⟩
        have hsa : shp E1 SB (SA.2.1 + 1) = (2, 3 * nc') := by rw [shp_out (show E1.1 ≤ SA.2.1 + 1 by show 91 ≤ _; omega), k1, up_same]
        have hla : live E1 SB (SA.2.1 + 1) := ⟨by omega, Or.inr (by omega)⟩
        have hshA : ∀ a, a < SA.2.1 → SB.1 a = SA.1 a := fun a ha => by rw [k1, up_ne _ _ (by omega), up_ne _ _ (by omega)]
        show Wp E1 X 91 _ (.ref SA.2.1 :: .int (z (x : Int)) :: .ref 35 :: []) SB B
        refine wp_aast (n := 92) K dX11_text_91 rfl rfl (liS rfl) (fun _ => rfl) ⟨by omega, by omega, by omega⟩ hsb hlb ?_
        try simp only [up_same, up_up, up_ne, ne_eq, Nat.reduceEqDiff, not_false_eq_true, Int.reduceToNat, Int.toNat_natCast]
        refine wp_aload_n (n := 93) K dX11_text_92 rfl rfl ?_
        refine wp_getF (n := 96) K dX11_text_93 rfl fl_X11_12 rfl (liS rfl) rfl rfl ?_
        refine wp_iload_n (n := 97) K dX11_text_96 rfl rfl ?_
        refine wp_iconst (n := 98) K dX11_text_97 rfl ?_
        refine wp_iadd (n := 99) K dX11_text_98 rfl ?_
        refine wp_putI (n := 102) K dX11_text_99 rfl fl_X11_136 rfl (liS rfl) (Or.inl rfl) rfl rfl ?_
        try simp only [up_same, up_up, up_ne, ne_eq, Nat.reduceEqDiff, not_false_eq_true, Int.reduceToNat, Int.toNat_natCast]
        refine wp_iload_n (n := 103) K dX11_text_102 rfl rfl ?_
        refine wp_ireturn K dX11_text_103 ⟨(x : Int), rfl, by show S.2.1 ≤ SB.2.1; omega, fun a ha => by show SB.1 a = _; rw [hshA a (by omega), e2 a ha], fun a h1 h2 => ?_, ?_, ?_, Or.inr ⟨rfl, ?_, ?_, ?_, t', c', cR', nc', on', SA.2.1, SA.2.1 + 1, q2, q3, ?_, h91A, ?_, hlb, ?_, by omega, ?_, hla, ?_, ?_, ?_⟩⟩ ⟨by show SB.2.2.1 ≤ S.2.2.1 + 27; omega, by show SB.2.2.2 ≤ S.2.2.2 + 7805; omega⟩
        · simp only [List.mem_cons, List.not_mem_nil, or_false, not_or] at h2
          rw [up_ne _ _ (by simp [h2]), up_ne _ _ (by simp [h2]), k3 a (by omega), bo a (by simp [h2]) (by simp [h2]), e3 a h1 (by simp [h2])]
        · rw [up_ne _ _ (by decide), up_ne _ _ (by decide), k3 16 (by omega)]; exact b167
        · rw [up_ne _ _ (by decide), up_ne _ _ (by decide), k3 55 (by omega)]; exact b55
        · rw [up_ne _ _ (by decide), up_ne _ _ (by decide), k3 16 (by omega), b168]; exact r3
        · rw [up_ne _ _ (by decide), up_ne _ _ (by decide), k3 16 (by omega), b169]; exact q5
        · rw [up_same, k3 17 (by omega), bo 17 (by decide) (by decide), a17]
        · rw [up_ne _ _ (by decide), up_same, k3 35 (by omega), bo 35 (by decide) (by decide), a35]
        · exact hsb
        · rw [up_ne _ _ (by omega), up_ne _ _ (by omega)]; exact k7
        · exact hsa
        · rw [up_ne _ _ (by omega), up_ne _ _ (by omega)]; exact k8
        · intro k hk
          rw [up_ne _ _ (by omega), up_ne _ _ (by omega), k9 _ (by omega), k9 _ (by omega), k9 _ (by omega), bo 61 (by decide) (by decide)]
          exact r4 k hk
        · intro s hs
          rw [up_ne _ _ (by omega), up_ne _ _ (by omega)]
          have hv : B SA.2.1 s = B0 60 (3 + s) := by
            rcases (show s = 0 ∨ s = 1 ∨ s = 2 by omega) with rfl | rfl | rfl
            · rw [k4]; exact el0.symm
            · rw [k5]; exact el1.symm
            · rw [k6]; exact el2.symm
          rw [hv]
          exact (hl s hs).mem h91A (by show SA.2.1 ≤ SB.2.1; omega) hshA (fun a u1 u2 => by rw [up_ne _ _ (by omega), up_ne _ _ (by omega), k3 a u2])
      · exact absurd rfl c63
  · omega
