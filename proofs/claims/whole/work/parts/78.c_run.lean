def PLs (P : Nat → Int) (s : EvS) (p : Nat) : Prop := p = s.2.2.2 + s.2.1 ∧ (∀ j, j < s.2.2.2 → P j = s.2.2.1 j) ∧ ∀ j, j < s.2.1 → P (s.2.2.2 + j) = s.1 j
def evTop (s : EvS) : Int := if 1 ≤ s.2.1 then s.1 (s.2.1 - 1) else if 1 ≤ s.2.2.2 then s.2.2.1 (s.2.2.2 - 1) else 0
theorem clip_mm (v : Int) : max (-1000000) (min 1000000 v) = clipF v := by unfold clipF; split <;> (try split) <;> omega
theorem pl_push {P V T : Nat → Int} {n m p : Nat} (x : Int) (h : PLs P (V, n, T, m) p) : PLs (up P p x) (up V n x, n + 1, T, m) (p + 1) := by
  obtain ⟨h1, h2, h3⟩ := h
  dsimp only at h1 h2 h3
  refine ⟨by dsimp only; omega, fun j hj => ?_, fun j hj => ?_⟩
  · dsimp only at hj ⊢; rw [up_ne _ _ (by omega)]; exact h2 j hj
  · dsimp only at hj ⊢
    by_cases he : j = n
    · subst he; rw [show m + j = p by omega, up_same, up_same]
    · rw [up_ne _ _ (by omega), up_ne _ _ he]; exact h3 j (by omega)
theorem pl_top {P V T : Nat → Int} {n m p : Nat} (x : Int) (h : PLs P (V, n, T, m) p) (hn : 1 ≤ n) : PLs (up P (p - 1) x) (up V (n - 1) x, n, T, m) p := by
  obtain ⟨h1, h2, h3⟩ := h
  dsimp only at h1 h2 h3
  refine ⟨h1, fun j hj => ?_, fun j hj => ?_⟩
  · dsimp only at hj ⊢; rw [up_ne _ _ (by omega)]; exact h2 j hj
  · dsimp only at hj ⊢
    by_cases he : j = n - 1
    · rw [show m + j = p - 1 by omega, up_same, he, up_same]
    · rw [up_ne _ _ (by omega), up_ne _ _ he]; exact h3 j (by omega)
theorem pl_two {P V T : Nat → Int} {n m p : Nat} (x : Int) (h : PLs P (V, n, T, m) p) (hn : 2 ≤ n) : PLs (up P (p - 2) x) (up V (n - 2) x, n - 1, T, m) (p - 1) := by
  obtain ⟨h1, h2, h3⟩ := h
  dsimp only at h1 h2 h3
  refine ⟨by dsimp only; omega, fun j hj => ?_, fun j hj => ?_⟩
  · dsimp only at hj ⊢; rw [up_ne _ _ (by omega)]; exact h2 j hj
  · dsimp only at hj ⊢
    by_cases he : j = n - 2
    · rw [show m + j = p - 2 by omega, up_same, he, up_same]
    · rw [up_ne _ _ (by omega), up_ne _ _ he]; exact h3 j (by omega)
theorem pl_cmp {P V T : Nat → Int} {m p : Nat} (x : Int) (h : PLs P (V, 2, T, m) p) : PLs (up P (p - 2) x) (V, 0, up T m x, m + 1) (p - 1) := by
  obtain ⟨h1, h2, h3⟩ := h
  dsimp only at h1 h2 h3
  refine ⟨by dsimp only; omega, fun j hj => ?_, fun j hj => by dsimp only at hj; omega⟩
  dsimp only at hj ⊢
  by_cases he : j = m
  · rw [show p - 2 = j by omega, up_same, he, up_same]
  · rw [up_ne _ _ (by omega), up_ne _ _ he]; exact h2 j (by omega)
theorem pl_not {P V T : Nat → Int} {m p : Nat} (x : Int) (h : PLs P (V, 0, T, m) p) (hm : 1 ≤ m) : PLs (up P (p - 1) x) (V, 0, up T (m - 1) x, m) p := by
  obtain ⟨h1, h2, h3⟩ := h
  dsimp only at h1 h2 h3
  refine ⟨h1, fun j hj => ?_, fun j hj => by dsimp only at hj; omega⟩
  dsimp only at hj ⊢
  by_cases he : j = m - 1
  · rw [show p - 1 = j by omega, up_same, he, up_same]
  · rw [up_ne _ _ (by omega), up_ne _ _ he]; exact h2 j (by omega)
theorem pl_join {P V T : Nat → Int} {m p : Nat} (x : Int) (h : PLs P (V, 0, T, m) p) (hm : 2 ≤ m) : PLs (up P (p - 2) x) (V, 0, up T (m - 2) x, m - 1) (p - 1) := by
  obtain ⟨h1, h2, h3⟩ := h
  dsimp only at h1 h2 h3
  refine ⟨by dsimp only; omega, fun j hj => ?_, fun j hj => by dsimp only at hj; omega⟩
  dsimp only at hj ⊢
  by_cases he : j = m - 2
  · rw [show p - 2 = j by omega, up_same, he, up_same]
  · rw [up_ne _ _ (by omega), up_ne _ _ he]; exact h2 j (by omega)
theorem clip01 (p : Prop) [Decidable p] : clipF (if p then 1 else 0) = if p then 1 else 0 := by
  by_cases h : p
  · rw [if_pos h]; unfold clipF; rw [if_neg (by omega), if_neg (by omega)]
  · rw [if_neg h]; unfold clipF; rw [if_neg (by omega), if_neg (by omega)]
theorem clipb (b : Bool) : clipF (bI b) = bI b := by
  rcases bI_01 b with q | q <;> rw [q] <;> unfold clipF <;> rw [if_neg (by omega), if_neg (by omega)]
theorem pl_out {P V T : Nat → Int} {n m p : Nat} (h : PLs P (V, n, T, m) p) (hv : evOk (V, n, T, m)) {o v : Int} {nm : Nat → Int} (ho : (3 ≤ o ∧ o ≤ 6 ∧ 2 ≤ n) ∨ (10 ≤ o ∧ o ≤ 15 ∧ n = 2) ∨ (21 ≤ o ∧ o ≤ 22 ∧ n = 0 ∧ 2 ≤ m)) : (-1000000 ≤ P (p - 2) ∧ P (p - 2) ≤ 1000000) ∧ (-1000000 ≤ P (p - 1) ∧ P (p - 1) ≤ 1000000) ∧ 2 ≤ p ∧ ((3 ≤ o ∧ o ≤ 6) ∨ (10 ≤ o ∧ o ≤ 15) ∨ ((o = 21 ∨ o = 22) ∧ (P (p - 2) = 0 ∨ P (p - 2) = 1) ∧ (P (p - 1) = 0 ∨ P (p - 1) = 1))) ∧ PLs (up P (p - 2) (clipF (outF o (P (p - 2)) (P (p - 1))))) (evStep nm o v (V, n, T, m)) (p - 1) := by
  obtain ⟨h1, h2, h3⟩ := id h
  dsimp only at h1 h2 h3
  obtain ⟨v1, v2⟩ := hv
  dsimp only at v1 v2
  rcases ho with ⟨o1, o2, o3⟩ | ⟨o1, o2, o3⟩ | ⟨o1, o2, o3, o4⟩
  · have a1 := h3 (n - 2) (by omega)
    have a2 := h3 (n - 1) (by omega)
    rw [show m + (n - 2) = p - 2 by omega] at a1
    rw [show m + (n - 1) = p - 1 by omega] at a2
    have b1 := v1 (n - 2) (by omega)
    have b2 := v1 (n - 1) (by omega)
    refine ⟨by omega, by omega, by omega, Or.inl ⟨o1, o2⟩, ?_⟩
    have e : evStep nm o v (V, n, T, m) = (up V (n - 2) (twoF o (V (n - 2)) (V (n - 1))), n - 1, T, m) := by
      unfold evStep; dsimp only; rw [if_neg (by omega), if_neg (by omega), if_pos (by omega)]
    have e2 : clipF (outF o (P (p - 2)) (P (p - 1))) = twoF o (V (n - 2)) (V (n - 1)) := by
      rw [a1, a2]; unfold outF twoF
      rcases (show o = 3 ∨ o = 4 ∨ o = 5 ∨ o = 6 by omega) with rfl | rfl | rfl | rfl
      · simp only [Int.reduceEq, if_false, if_true, reduceIte]
      · simp only [Int.reduceEq, if_false, if_true, reduceIte]
      · simp only [Int.reduceEq, if_false, if_true, reduceIte]
      · simp only [Int.reduceEq, if_false, if_true, reduceIte]
        by_cases hq : V (n - 1) = 0
        · rw [if_pos hq, if_pos hq]; unfold clipF; rw [if_neg (by omega), if_neg (by omega)]
        · rw [if_neg hq, if_neg hq]
    rw [e, e2]
    exact pl_two _ h o3
  · subst o3
    have a1 := h3 0 (by omega)
    have a2 := h3 1 (by omega)
    rw [show m + 0 = p - 2 by omega] at a1
    rw [show m + 1 = p - 1 by omega] at a2
    have b1 := v1 0 (by omega)
    have b2 := v1 1 (by omega)
    refine ⟨by omega, by omega, by omega, Or.inr (Or.inl ⟨o1, o2⟩), ?_⟩
    have e : evStep nm o v (V, 2, T, m) = (V, 0, up T m (bI (askF o (V 0) (V 1))), m + 1) := by
      unfold evStep; dsimp only; rw [if_neg (by omega), if_neg (by omega), if_neg (by omega), if_pos (by omega)]
    have e2 : clipF (outF o (P (p - 2)) (P (p - 1))) = bI (askF o (V 0) (V 1)) := by
      rw [a1, a2]; unfold outF
      rw [if_neg (by omega), if_neg (by omega), if_neg (by omega), if_neg (by omega), if_neg (by omega), if_neg (by omega)]
      exact clipb _
    rw [e, e2]
    exact pl_cmp _ h
  · subst o3
    have hpm : p = m := by omega
    subst hpm
    have a1 := h2 (p - 2) (by omega)
    have a2 := h2 (p - 1) (by omega)
    have b1 := v2 (p - 2) (by omega)
    have b2 := v2 (p - 1) (by omega)
    refine ⟨by omega, by omega, by omega, Or.inr (Or.inr ⟨by omega, by omega, by omega⟩), ?_⟩
    have e : evStep nm o v (V, 0, T, p) = (V, 0, up T (p - 2) (clipF (outF o (T (p - 2)) (T (p - 1)))), p - 1) := by
      unfold evStep; dsimp only
      rw [if_neg (by omega), if_neg (by omega), if_neg (by omega), if_neg (by omega), if_neg (by omega)]
      rcases (show o = 21 ∨ o = 22 by omega) with rfl | rfl
      · rw [if_pos rfl]
        have : outF 21 (T (p - 2)) (T (p - 1)) = if T (p - 2) ≠ 0 ∧ T (p - 1) ≠ 0 then 1 else 0 := by unfold outF; rw [if_neg (by decide), if_neg (by decide), if_neg (by decide), if_neg (by decide), if_pos rfl]
        rw [this, clip01]
      · rw [if_neg (by decide)]
        have : outF 22 (T (p - 2)) (T (p - 1)) = if T (p - 2) ≠ 0 ∨ T (p - 1) ≠ 0 then 1 else 0 := by unfold outF; rw [if_neg (by decide), if_neg (by decide), if_neg (by decide), if_neg (by decide), if_neg (by decide), if_pos rfl]
        rw [this, clip01]
    rw [e, a1, a2]
    exact pl_join _ h o4
theorem c_run1_a {X : XT} {S : ST} {P0 : Option Value → ST → MT → Prop} (K : Ok E1 X yX2_run cX2_run 7 (some .int) rm_X2_run P0 S) (a len : Nat) (hs : shp E1 S a = (2, len)) (hl : live E1 S a) (hlen : len ≤ 299) (nm : Nat → Int) (V T : Nat → Int) (n m p i : Nat) (hi : i < len) (B : MT) (x : Int × Int) (hx : B a i = encF x) (hnm : ∀ j, j < 8 → B 65 j = nm j) (hp : PLs (B 66) (V, n, T, m) p) (hp38 : n + m ≤ 38) (hop : okOp2 x.1 x.2 (n, m)) (hev : evOk (V, n, T, m)) (hnr : ∀ j, j < 8 → -1000000 ≤ nm j ∧ nm j ≤ 1000000)
    (k : ∀ (P : Nat → Int) (q : Nat) (w4 w5 w6 : Value), PLs P (evStep nm x.1 x.2 (V, n, T, m)) q → Wp E1 X 174 [.ref 64, .ref a, .int (z (q : Int)), .int (z (i : Int)), w4, w5, w6] [] S (up B 66 P)) (w4 w5 w6 : Value) : Wp E1 X 10 [.ref 64, .ref a, .int (z (p : Int)), .int (z (i : Int)), w4, w5, w6] [] S B := by
  obtain ⟨o, v⟩ := x
  have hp0 : p = m + n := hp.1
  dsimp only at *
  have bin : ((-1000000 ≤ B 66 (p - 2) ∧ B 66 (p - 2) ≤ 1000000) ∧ (-1000000 ≤ B 66 (p - 1) ∧ B 66 (p - 1) ≤ 1000000) ∧ 2 ≤ p ∧ ((3 ≤ o ∧ o ≤ 6) ∨ (10 ≤ o ∧ o ≤ 15) ∨ ((o = 21 ∨ o = 22) ∧ (B 66 (p - 2) = 0 ∨ B 66 (p - 2) = 1) ∧ (B 66 (p - 1) = 0 ∨ B 66 (p - 1) = 1))) ∧ PLs (up (B 66) (p - 2) (clipF (outF o (B 66 (p - 2)) (B 66 (p - 1))))) (evStep nm o v (V, n, T, m)) (p - 1)) → (8 ≤ encK o ∧ encK o ≠ 17 ∧ encK o ≠ 33 ∧ encK o ≤ 100) → Wp E1 X 13 [.ref 64, .ref a, .int (z (p : Int)), .int (z (i : Int)), w4, w5, w6] [.int (z (10000 + encK o))] S B := by
    rintro ⟨q1, q2, q3, q4, q5⟩ q6
    have hor := outF_r (o := o) q1 q2
    have hcl := clip_mm (outF o (B 66 (p - 2)) (B 66 (p - 1)))
    have hcr := clipF_r (outF o (B 66 (p - 2)) (B 66 (p - 1)))
    refine wp_sipush (n := 16) K dX2_run_13 rfl rfl ?_
    refine wp_isub (n := 17) K dX2_run_16 rfl ?_
    refine wp_istore (n := 19) K dX2_run_17 rfl (by decide) ?_
    rw [show (10000 : Int) + encK o - 10000 = encK o by omega]
    refine wp_iload (n := 21) K dX2_run_19 rfl rfl ?_
    refine wp_bipush (n := 23) K dX2_run_21 rfl rfl ?_
    refine wp_icmp_ge (n := 26) K dX2_run_23 rfl (tgt := 62) (by decide) ⟨by omega, by omega⟩ ⟨by omega, by omega⟩ (fun c23 => ?_) (fun c23 => ?_)
    · refine wp_iload (n := 64) K dX2_run_62 rfl rfl ?_
      refine wp_bipush (n := 66) K dX2_run_64 rfl rfl ?_
      refine wp_icmp_eq (n := 69) K dX2_run_66 rfl (tgt := 76) (by decide) ⟨by omega, by omega⟩ ⟨by omega, by omega⟩ (fun c66 => ?_) (fun c66 => ?_)
      · omega
      · refine wp_iload (n := 71) K dX2_run_69 rfl rfl ?_
        refine wp_bipush (n := 73) K dX2_run_71 rfl rfl ?_
        refine wp_icmp_ne (n := 76) K dX2_run_73 rfl (tgt := 119) (by decide) ⟨by omega, by omega⟩ ⟨by omega, by omega⟩ (fun c73 => ?_) (fun c73 => ?_)
        · refine wp_iload_n (n := 120) K dX2_run_119 rfl rfl ?_
          refine wp_iconst (n := 121) K dX2_run_120 rfl ?_
          refine wp_icmp_lt (n := 124) K dX2_run_121 rfl (tgt := 174) (by decide) ⟨by omega, by omega⟩ ⟨by omega, by omega⟩ (fun c121 => ?_) (fun c121 => ?_)
          · omega
          · refine wp_iinc (n := 127) K dX2_run_124 rfl rfl (by decide) ?_
            refine wp_aload_n (n := 128) K dX2_run_127 rfl rfl ?_
            refine wp_iload (n := 130) K dX2_run_128 rfl rfl ?_
            refine wp_aload_n (n := 131) K dX2_run_130 rfl rfl ?_
            refine wp_getF (n := 134) K dX2_run_131 rfl fl_X2_15 rfl (liS rfl) rfl rfl ?_
            refine wp_iload_n (n := 135) K dX2_run_134 rfl rfl ?_
            refine wp_iconst (n := 136) K dX2_run_135 rfl ?_
            refine wp_isub (n := 137) K dX2_run_136 rfl ?_
            refine wp_iald (n := 138) K dX2_run_137 rfl rfl (liS rfl) ⟨by omega, by omega, by omega⟩ ?_
            rw [show ((p : Int) + -1 - 1).toNat = p - 2 by omega]
            refine wp_i2l (n := 139) K dX2_run_138 rfl ⟨by omega, by omega⟩ ?_
            refine wp_aload_n (n := 140) K dX2_run_139 rfl rfl ?_
            refine wp_getF (n := 143) K dX2_run_140 rfl fl_X2_15 rfl (liS rfl) rfl rfl ?_
            refine wp_iload_n (n := 144) K dX2_run_143 rfl rfl ?_
            refine wp_iald (n := 145) K dX2_run_144 rfl rfl (liS rfl) ⟨by omega, by omega, by omega⟩ ?_
            rw [show ((p : Int) + -1).toNat = p - 1 by omega]
            refine wp_i2l (n := 146) K dX2_run_145 rfl ⟨by omega, by omega⟩ ?_
            refine wp_invV_l (n := 149) K dX2_run_146 rfl cf_X2_75 (c_outcome_a o _ _ _ _ q1 q2 q4) rfl rfl rfl (liS rfl) rfl (by decide) ⟨Nat.le_refl _, Nat.le_refl _⟩ (Nat.le_of_ble_eq_true rfl) ?_
            refine wp_lstore (n := 151) K dX2_run_149 rfl (by decide) ?_
            refine wp_aload_n (n := 152) K dX2_run_151 rfl rfl ?_
            refine wp_getF (n := 155) K dX2_run_152 rfl fl_X2_15 rfl (liS rfl) rfl rfl ?_
            refine wp_iload_n (n := 156) K dX2_run_155 rfl rfl ?_
            refine wp_iconst (n := 157) K dX2_run_156 rfl ?_
            refine wp_isub (n := 158) K dX2_run_157 rfl ?_
            refine wp_ldc2 (n := 161) K dX2_run_158 rfl (-1000000) co_X2_79 ?_
            refine wp_ldc2 (n := 164) K dX2_run_161 rfl (1000000) co_X2_81 ?_
            refine wp_lload (n := 166) K dX2_run_164 rfl rfl ?_
            refine wp_invS_l (n := 169) K dX2_run_166 rfl cf_X2_83 (j_minl _ _ ⟨by omega, by omega⟩ ⟨by omega, by omega⟩ _ _) rfl rfl (by decide) ⟨Nat.le_refl _, Nat.le_refl _⟩ (Nat.le_of_ble_eq_true rfl) ?_
            refine wp_invS_l (n := 172) K dX2_run_169 rfl cf_X2_86 (j_maxl _ _ ⟨by omega, by omega⟩ ⟨by omega, by omega⟩ _ _) rfl rfl (by decide) ⟨Nat.le_refl _, Nat.le_refl _⟩ (Nat.le_of_ble_eq_true rfl) ?_
            rw [hcl]
            refine wp_l2i (n := 173) K dX2_run_172 rfl ?_
            refine wp_iast (n := 174) K dX2_run_173 rfl rfl (liS rfl) (fun _ => rfl) ⟨by omega, by omega, by omega⟩ ?_
            try simp only [up_same, up_up, up_ne, ne_eq, Nat.reduceEqDiff, not_false_eq_true, Int.reduceToNat, Int.toNat_natCast]
            rw [show ((p : Int) + -1 - 1).toNat = p - 2 by omega, show (p : Int) + -1 = ((p - 1 : Nat) : Int) by omega]
            exact k _ (p - 1) _ _ _ q5
        · omega
    · omega
  refine wp_aload_n (n := 11) K dX2_run_10 rfl rfl ?_
  refine wp_iload_n (n := 12) K dX2_run_11 rfl rfl ?_
  refine wp_iald (n := 13) K dX2_run_12 rfl hs hl ⟨by omega, by omega, by omega⟩ ?_
  rw [Int.toNat_natCast, hx]
  rcases hop with ⟨o1, o2, o3⟩ | ⟨o1, o2, o3⟩ | ⟨o1, o2⟩ | ⟨o1, o2, o3⟩ | ⟨o1, o2, o3⟩ | ⟨o1, o2, o3⟩ | ⟨o1, o2, o3, o4⟩
  · subst o1
    have e : encF (0, v) = v := rfl
    rw [e]
    refine wp_sipush (n := 16) K dX2_run_13 rfl rfl ?_
    refine wp_isub (n := 17) K dX2_run_16 rfl ?_
    refine wp_istore (n := 19) K dX2_run_17 rfl (by decide) ?_
    refine wp_iload (n := 21) K dX2_run_19 rfl rfl ?_
    refine wp_bipush (n := 23) K dX2_run_21 rfl rfl ?_
    refine wp_icmp_ge (n := 26) K dX2_run_23 rfl (tgt := 62) (by decide) ⟨by omega, by omega⟩ ⟨by omega, by omega⟩ (fun c23 => ?_) (fun c23 => ?_)
    · omega
    · refine wp_iload_n (n := 27) K dX2_run_26 rfl rfl ?_
      refine wp_bipush (n := 29) K dX2_run_27 rfl rfl ?_
      refine wp_icmp_ge (n := 32) K dX2_run_29 rfl (tgt := 174) (by decide) ⟨by omega, by omega⟩ ⟨by omega, by omega⟩ (fun c29 => ?_) (fun c29 => ?_)
      · omega
      · refine wp_aload_n (n := 33) K dX2_run_32 rfl rfl ?_
        refine wp_getF (n := 36) K dX2_run_33 rfl fl_X2_15 rfl (liS rfl) rfl rfl ?_
        refine wp_iload_n (n := 37) K dX2_run_36 rfl rfl ?_
        refine wp_iload (n := 39) K dX2_run_37 rfl rfl ?_
        refine wp_if_ge (n := 42) K dX2_run_39 rfl (tgt := 48) (by decide) ⟨by omega, by omega⟩ (fun c39 => ?_) (fun c39 => ?_)
        · omega
        · refine wp_aload_n (n := 43) K dX2_run_42 rfl rfl ?_
          refine wp_iload_n (n := 44) K dX2_run_43 rfl rfl ?_
          refine wp_iald (n := 45) K dX2_run_44 rfl hs hl ⟨by omega, by omega, by omega⟩ ?_
          rw [Int.toNat_natCast, hx, e]
          refine wp_goto K dX2_run_45 (tgt := 55) (by decide) ?_
          refine wp_iast (n := 56) K dX2_run_55 rfl rfl (liS rfl) (fun _ => rfl) ⟨by omega, by omega, by omega⟩ ?_
          try simp only [up_same, up_up, up_ne, ne_eq, Nat.reduceEqDiff, not_false_eq_true, Int.reduceToNat, Int.toNat_natCast]
          refine wp_iinc (n := 59) K dX2_run_56 rfl rfl (by decide) ?_
          refine wp_goto K dX2_run_59 (tgt := 174) (by decide) ?_
          have e2 : evStep nm 0 v (V, n, T, m) = (up V n v, n + 1, T, m) := rfl
          rw [e2] at k
          exact k _ (p + 1) _ _ _ (pl_push v hp)
  · subst o1
    have e : encF (1, v) = 10000 + v := rfl
    rw [e, show (10000 : Int) + v = 10000 + v from rfl]
    refine wp_sipush (n := 16) K dX2_run_13 rfl rfl ?_
    refine wp_isub (n := 17) K dX2_run_16 rfl ?_
    refine wp_istore (n := 19) K dX2_run_17 rfl (by decide) ?_
    rw [show (10000 : Int) + v - 10000 = v by omega]
    refine wp_iload (n := 21) K dX2_run_19 rfl rfl ?_
    refine wp_bipush (n := 23) K dX2_run_21 rfl rfl ?_
    refine wp_icmp_ge (n := 26) K dX2_run_23 rfl (tgt := 62) (by decide) ⟨by omega, by omega⟩ ⟨by omega, by omega⟩ (fun c23 => ?_) (fun c23 => ?_)
    · omega
    · refine wp_iload_n (n := 27) K dX2_run_26 rfl rfl ?_
      refine wp_bipush (n := 29) K dX2_run_27 rfl rfl ?_
      refine wp_icmp_ge (n := 32) K dX2_run_29 rfl (tgt := 174) (by decide) ⟨by omega, by omega⟩ ⟨by omega, by omega⟩ (fun c29 => ?_) (fun c29 => ?_)
      · omega
      · refine wp_aload_n (n := 33) K dX2_run_32 rfl rfl ?_
        refine wp_getF (n := 36) K dX2_run_33 rfl fl_X2_15 rfl (liS rfl) rfl rfl ?_
        refine wp_iload_n (n := 37) K dX2_run_36 rfl rfl ?_
        refine wp_iload (n := 39) K dX2_run_37 rfl rfl ?_
        refine wp_if_ge (n := 42) K dX2_run_39 rfl (tgt := 48) (by decide) ⟨by omega, by omega⟩ (fun c39 => ?_) (fun c39 => ?_)
        · refine wp_aload_n (n := 49) K dX2_run_48 rfl rfl ?_
          refine wp_getF (n := 52) K dX2_run_49 rfl fl_X2_9 rfl (liS rfl) rfl rfl ?_
          refine wp_iload (n := 54) K dX2_run_52 rfl rfl ?_
          refine wp_iald (n := 55) K dX2_run_54 rfl rfl (liS rfl) ⟨by omega, by omega, by omega⟩ ?_
          try simp only [up_same, up_up, up_ne, ne_eq, Nat.reduceEqDiff, not_false_eq_true, Int.reduceToNat, Int.toNat_natCast]
          rw [hnm v.toNat (by omega)]
          refine wp_iast (n := 56) K dX2_run_55 rfl rfl (liS rfl) (fun _ => rfl) ⟨by omega, by omega, by omega⟩ ?_
          try simp only [up_same, up_up, up_ne, ne_eq, Nat.reduceEqDiff, not_false_eq_true, Int.reduceToNat, Int.toNat_natCast]
          refine wp_iinc (n := 59) K dX2_run_56 rfl rfl (by decide) ?_
          refine wp_goto K dX2_run_59 (tgt := 174) (by decide) ?_
          have e2 : evStep nm 1 v (V, n, T, m) = (up V n (nm v.toNat), n + 1, T, m) := rfl
          rw [e2] at k
          exact k _ (p + 1) _ _ _ (pl_push _ hp)
        · omega
  · subst o1
    have e : encF (2, v) = 10033 := rfl
    rw [e]
    have b0 := hp.2.2 (n - 1) (by dsimp only at o2 ⊢; omega)
    dsimp only at o2 b0
    rw [show m + (n - 1) = p - 1 by omega] at b0
    refine wp_sipush (n := 16) K dX2_run_13 rfl rfl ?_
    refine wp_isub (n := 17) K dX2_run_16 rfl ?_
    refine wp_istore (n := 19) K dX2_run_17 rfl (by decide) ?_
    refine wp_iload (n := 21) K dX2_run_19 rfl rfl ?_
    refine wp_bipush (n := 23) K dX2_run_21 rfl rfl ?_
    refine wp_icmp_ge (n := 26) K dX2_run_23 rfl (tgt := 62) (by decide) ⟨by omega, by omega⟩ ⟨by omega, by omega⟩ (fun c23 => ?_) (fun c23 => ?_)
    · refine wp_iload (n := 64) K dX2_run_62 rfl rfl ?_
      refine wp_bipush (n := 66) K dX2_run_64 rfl rfl ?_
      refine wp_icmp_eq (n := 69) K dX2_run_66 rfl (tgt := 76) (by decide) ⟨by omega, by omega⟩ ⟨by omega, by omega⟩ (fun c66 => ?_) (fun c66 => ?_)
      · omega
      · refine wp_iload (n := 71) K dX2_run_69 rfl rfl ?_
        refine wp_bipush (n := 73) K dX2_run_71 rfl rfl ?_
        refine wp_icmp_ne (n := 76) K dX2_run_73 rfl (tgt := 119) (by decide) ⟨by omega, by omega⟩ ⟨by omega, by omega⟩ (fun c73 => ?_) (fun c73 => ?_)
        · omega
        · refine wp_iload_n (n := 77) K dX2_run_76 rfl rfl ?_
          refine wp_iconst (n := 78) K dX2_run_77 rfl ?_
          refine wp_icmp_lt (n := 81) K dX2_run_78 rfl (tgt := 174) (by decide) ⟨by omega, by omega⟩ ⟨by omega, by omega⟩ (fun c78 => ?_) (fun c78 => ?_)
          · omega
          · refine wp_aload_n (n := 82) K dX2_run_81 rfl rfl ?_
            refine wp_getF (n := 85) K dX2_run_82 rfl fl_X2_15 rfl (liS rfl) rfl rfl ?_
            refine wp_iload_n (n := 86) K dX2_run_85 rfl rfl ?_
            refine wp_iconst (n := 87) K dX2_run_86 rfl ?_
            refine wp_isub (n := 88) K dX2_run_87 rfl ?_
            refine wp_iald (n := 89) K dX2_run_88 rfl rfl (liS rfl) ⟨by omega, by omega, by omega⟩ ?_
            try simp only [up_same, up_up, up_ne, ne_eq, Nat.reduceEqDiff, not_false_eq_true, Int.reduceToNat, Int.toNat_natCast]
            refine wp_istore (n := 91) K dX2_run_89 rfl (by decide) ?_
            refine wp_aload_n (n := 92) K dX2_run_91 rfl rfl ?_
            refine wp_getF (n := 95) K dX2_run_92 rfl fl_X2_15 rfl (liS rfl) rfl rfl ?_
            refine wp_iload_n (n := 96) K dX2_run_95 rfl rfl ?_
            refine wp_iconst (n := 97) K dX2_run_96 rfl ?_
            refine wp_isub (n := 98) K dX2_run_97 rfl ?_
            refine wp_iload (n := 100) K dX2_run_98 rfl rfl ?_
            refine wp_bipush (n := 102) K dX2_run_100 rfl rfl ?_
            refine wp_icmp_ne (n := 105) K dX2_run_102 rfl (tgt := 112) (by decide) ⟨by omega, by omega⟩ ⟨by omega, by omega⟩ (fun c102 => ?_) (fun c102 => ?_)
            · refine wp_iload (n := 114) K dX2_run_112 rfl rfl ?_
              refine wp_ineg (n := 115) K dX2_run_114 rfl ?_
              refine wp_iast (n := 116) K dX2_run_115 rfl rfl (liS rfl) (fun _ => rfl) ⟨by omega, by omega, by omega⟩ ?_
              try simp only [up_same, up_up, up_ne, ne_eq, Nat.reduceEqDiff, not_false_eq_true, Int.reduceToNat, Int.toNat_natCast]
              refine wp_goto K dX2_run_116 (tgt := 174) (by decide) ?_
              have e2 : evStep nm 2 v (V, n, T, m) = (up V (n - 1) (-V (n - 1)), n, T, m) := rfl
              rw [e2] at k
              rw [show ((p : Int) - 1).toNat = p - 1 by omega]
              have := pl_top (-V (n - 1)) hp o2
              rw [← b0] at this k
              exact k _ p _ _ _ this
            · omega
    · omega
  · have hout := pl_out (nm := nm) (o := o) (v := v) hp hev (Or.inl ⟨o1, o2, o3⟩)
    have e : encF (o, v) = 10000 + encK o := by unfold encF; dsimp only; rw [if_neg (by omega), if_neg (by omega)]
    have ek : 18 ≤ encK o ∧ encK o ≤ 32 := by
      rcases (show o = 3 ∨ o = 4 ∨ o = 5 ∨ o = 6 by omega) with rfl | rfl | rfl | rfl <;> decide
    rw [e]
    exact bin hout (by omega)
  · have hout := pl_out (nm := nm) (o := o) (v := v) hp hev (Or.inr (Or.inl ⟨o1, o2, o3⟩))
    have e : encF (o, v) = 10000 + encK o := by unfold encF; dsimp only; rw [if_neg (by omega), if_neg (by omega)]
    have ek : 18 ≤ encK o ∧ encK o ≤ 32 := by
      rcases (show o = 10 ∨ o = 11 ∨ o = 12 ∨ o = 13 ∨ o = 14 ∨ o = 15 by omega) with rfl | rfl | rfl | rfl | rfl | rfl <;> decide
    rw [e]
    exact bin hout (by omega)
  · subst o1
    have e : encF (20, v) = 10017 := rfl
    rw [e]
    dsimp only at o2 o3
    subst o2
    have b0 := hp.2.1 (m - 1) (by dsimp only; omega)
    dsimp only at b0
    rw [show m - 1 = p - 1 by omega] at b0
    refine wp_sipush (n := 16) K dX2_run_13 rfl rfl ?_
    refine wp_isub (n := 17) K dX2_run_16 rfl ?_
    refine wp_istore (n := 19) K dX2_run_17 rfl (by decide) ?_
    refine wp_iload (n := 21) K dX2_run_19 rfl rfl ?_
    refine wp_bipush (n := 23) K dX2_run_21 rfl rfl ?_
    refine wp_icmp_ge (n := 26) K dX2_run_23 rfl (tgt := 62) (by decide) ⟨by omega, by omega⟩ ⟨by omega, by omega⟩ (fun c23 => ?_) (fun c23 => ?_)
    · refine wp_iload (n := 64) K dX2_run_62 rfl rfl ?_
      refine wp_bipush (n := 66) K dX2_run_64 rfl rfl ?_
      refine wp_icmp_eq (n := 69) K dX2_run_66 rfl (tgt := 76) (by decide) ⟨by omega, by omega⟩ ⟨by omega, by omega⟩ (fun c66 => ?_) (fun c66 => ?_)
      · refine wp_iload_n (n := 77) K dX2_run_76 rfl rfl ?_
        refine wp_iconst (n := 78) K dX2_run_77 rfl ?_
        refine wp_icmp_lt (n := 81) K dX2_run_78 rfl (tgt := 174) (by decide) ⟨by omega, by omega⟩ ⟨by omega, by omega⟩ (fun c78 => ?_) (fun c78 => ?_)
        · omega
        · refine wp_aload_n (n := 82) K dX2_run_81 rfl rfl ?_
          refine wp_getF (n := 85) K dX2_run_82 rfl fl_X2_15 rfl (liS rfl) rfl rfl ?_
          refine wp_iload_n (n := 86) K dX2_run_85 rfl rfl ?_
          refine wp_iconst (n := 87) K dX2_run_86 rfl ?_
          refine wp_isub (n := 88) K dX2_run_87 rfl ?_
          refine wp_iald (n := 89) K dX2_run_88 rfl rfl (liS rfl) ⟨by omega, by omega, by omega⟩ ?_
          try simp only [up_same, up_up, up_ne, ne_eq, Nat.reduceEqDiff, not_false_eq_true, Int.reduceToNat, Int.toNat_natCast]
          refine wp_istore (n := 91) K dX2_run_89 rfl (by decide) ?_
          refine wp_aload_n (n := 92) K dX2_run_91 rfl rfl ?_
          refine wp_getF (n := 95) K dX2_run_92 rfl fl_X2_15 rfl (liS rfl) rfl rfl ?_
          refine wp_iload_n (n := 96) K dX2_run_95 rfl rfl ?_
          refine wp_iconst (n := 97) K dX2_run_96 rfl ?_
          refine wp_isub (n := 98) K dX2_run_97 rfl ?_
          refine wp_iload (n := 100) K dX2_run_98 rfl rfl ?_
          refine wp_bipush (n := 102) K dX2_run_100 rfl rfl ?_
          refine wp_icmp_ne (n := 105) K dX2_run_102 rfl (tgt := 112) (by decide) ⟨by omega, by omega⟩ ⟨by omega, by omega⟩ (fun c102 => ?_) (fun c102 => ?_)
          · exact absurd rfl c102
          · refine wp_iconst (n := 106) K dX2_run_105 rfl ?_
            refine wp_iload (n := 108) K dX2_run_106 rfl rfl ?_
            refine wp_isub (n := 109) K dX2_run_108 rfl ?_
            refine wp_goto K dX2_run_109 (tgt := 115) (by decide) ?_
            refine wp_iast (n := 116) K dX2_run_115 rfl rfl (liS rfl) (fun _ => rfl) ⟨by omega, by omega, by omega⟩ ?_
            try simp only [up_same, up_up, up_ne, ne_eq, Nat.reduceEqDiff, not_false_eq_true, Int.reduceToNat, Int.toNat_natCast]
            refine wp_goto K dX2_run_116 (tgt := 174) (by decide) ?_
            have e2 : evStep nm 20 v (V, 0, T, m) = (V, 0, up T (m - 1) (1 - T (m - 1)), m) := rfl
            rw [e2, show m - 1 = p - 1 by omega] at k
            rw [show ((p : Int) - 1).toNat = p - 1 by omega]
            have := pl_not (1 - T (m - 1)) hp o3
            rw [show m - 1 = p - 1 by omega, ← b0] at this
            rw [← b0] at k
            exact k _ p _ _ _ this
      · omega
    · omega
  · have hout := pl_out (nm := nm) (o := o) (v := v) hp hev (Or.inr (Or.inr ⟨o1, o2, o3, o4⟩))
    have e : encF (o, v) = 10000 + encK o := by unfold encF; dsimp only; rw [if_neg (by omega), if_neg (by omega)]
    have ek : 15 ≤ encK o ∧ encK o ≤ 16 := by
      rcases (show o = 21 ∨ o = 22 by omega) with rfl | rfl <;> decide
    rw [e]
    exact bin hout (by omega)
theorem c_run_a (S : ST) (M : MT) (a len : Nat) (hs : shp E1 S a = (2, len)) (hl : live E1 S a) (ha : a ∉ [66]) (nm : Nat → Int) (c : Nat → Int × Int) (hok : okC2 c len) (hc : ∀ i, i < len → M a i = encF (c i)) (hnm : ∀ j, j < 8 → M 65 j = nm j) (hnr : ∀ j, j < 8 → -1000000 ≤ nm j ∧ nm j ≤ 1000000) : Ct E1 yX2_run cX2_run 7 (some .int) rm_X2_run [.ref 64, .ref a] S M (Qi (evTop (evRun nm c len)) [66] S M (fun _ => True)) := by
  have hlen := hok.1
  have hda := evRun_dp nm c hok.ok
  have hev := evRun_ok hnr hok.ok
  refine Ct.mk [.ref 64, .ref a, mkV, mkV, mkV, mkV, mkV] (by decide) rfl (Nat.le_of_ble_eq_true rfl) (fun X K => ?_)
  refine wp_iconst (n := 1) K dX2_run_0 rfl ?_
  refine wp_istore_n (n := 2) K dX2_run_1 rfl (by decide) ?_
  refine wp_iconst (n := 3) K dX2_run_2 rfl ?_
  refine wp_istore_n (n := 4) K dX2_run_3 rfl (by decide) ?_
  refine (dn len (Q := fun i => ∀ (B : MT) (p : Nat) (w4 w5 w6 : Value), (∀ b, b ∉ [66] → B b = M b) → PLs (B 66) (evRun nm c i) p → Wp E1 X 4 [.ref 64, .ref a, .int (z (p : Int)), .int (z (i : Int)), w4, w5, w6] [] S B) (fun i hi ih B p w4 w5 w6 hB hp => ?_) 0 (by omega)) M 0 mkV mkV mkV (fun _ _ => rfl) ⟨rfl, (fun j hj => by cases hj), (fun j hj => by cases hj)⟩
  have hd := hda i hi
  have he := hev i hi
  have h38 := hok.2.2 i hi
  rw [← hd] at h38
  dsimp only at h38
  have hBa : B a = M a := hB a ha
  refine wp_iload_n (n := 5) K dX2_run_4 rfl rfl ?_
  refine wp_aload_n (n := 6) K dX2_run_5 rfl rfl ?_
  refine wp_alen (n := 7) K dX2_run_6 rfl hs (by decide) hl ?_
  refine wp_icmp_ge (n := 10) K dX2_run_7 rfl (tgt := 180) (by decide) ⟨by omega, by omega⟩ ⟨by omega, by omega⟩ (fun c7 => ?_) (fun c7 => ?_)
  · have : i = len := by omega
    subst this
    generalize evRun nm c i = s at *
    obtain ⟨V, n, T, m⟩ := s
    obtain ⟨p1, p2, p3⟩ := hp
    dsimp only at p1 p2 p3
    have hle := dpRun_le c i
    rw [← hd] at hle
    dsimp only at hle h38
    refine wp_iload_n (n := 181) K dX2_run_180 rfl rfl ?_
    refine wp_iconst (n := 182) K dX2_run_181 rfl ?_
    refine wp_icmp_lt (n := 185) K dX2_run_182 rfl (tgt := 196) (by decide) ⟨by omega, by omega⟩ ⟨by omega, by omega⟩ (fun c182 => ?_) (fun c182 => ?_)
    · refine wp_iconst (n := 197) K dX2_run_196 rfl ?_
      refine ret_qi K dX2_run_197 ?_ rfl ?_ ?_ ⟨Nat.le_refl _, Nat.le_refl _⟩
      · unfold evTop; dsimp only; rw [if_neg (by omega), if_neg (by omega)]
      · exact hB
      · trivial
    · refine wp_aload_n (n := 186) K dX2_run_185 rfl rfl ?_
      refine wp_getF (n := 189) K dX2_run_186 rfl fl_X2_15 rfl (liS rfl) rfl rfl ?_
      refine wp_iload_n (n := 190) K dX2_run_189 rfl rfl ?_
      refine wp_iconst (n := 191) K dX2_run_190 rfl ?_
      refine wp_isub (n := 192) K dX2_run_191 rfl ?_
      refine wp_iald (n := 193) K dX2_run_192 rfl rfl (liS rfl) ⟨by omega, by omega, by omega⟩ ?_
      try simp only [up_same, up_up, up_ne, ne_eq, Nat.reduceEqDiff, not_false_eq_true, Int.reduceToNat, Int.toNat_natCast]
      refine wp_goto K dX2_run_193 (tgt := 197) (by decide) ?_
      refine ret_qi K dX2_run_197 ?_ rfl ?_ ?_ ⟨Nat.le_refl _, Nat.le_refl _⟩
      · rw [show ((p : Int) - 1).toNat = p - 1 by omega]
        unfold evTop; dsimp only
        by_cases hn : 1 ≤ n
        · rw [if_pos hn, ← p3 _ (by omega)]; congr 1; omega
        · rw [if_neg hn, if_pos (by omega), ← p2 _ (by omega)]; congr 1; omega
      · exact hB
      · trivial
  · have ih := ih (by omega)
    have hoi := hok.2.1 i (by omega)
    rw [← hd] at hoi
    have e : evRun nm c (i + 1) = evStep nm (c i).1 (c i).2 (evRun nm c i) := rfl
    rw [e] at ih
    generalize evRun nm c i = s at *
    obtain ⟨V, n, T, m⟩ := s
    refine c_run1_a K a len hs hl hlen nm V T n m p i (by omega) B (c i) (by rw [hBa]; exact hc i (by omega)) (fun j hj => by rw [hB _ (by decide)]; exact hnm j hj) hp h38 hoi he hnr (fun P q w4 w5 w6 hP => ?_) _ _ _
    refine wp_iinc (n := 177) K dX2_run_174 rfl rfl (by decide) ?_
    refine wp_goto K dX2_run_177 (tgt := 4) (by decide) ?_
    exact ih _ q _ _ _ (fun b hb => by rw [up_ne _ _ (by simpa using hb)]; exact hB b hb) (by rw [up_same]; exact hP)
theorem c_run1_p {X : XT} {S : ST} {P0 : Option Value → ST → MT → Prop} (K : Ok E1 X yX2_run cX2_run 7 (some .int) rm_X2_run P0 S) (a len : Nat) (hs : shp E1 S a = (2, len)) (hl : live E1 S a) (hlen : len ≤ 299) (nm : Nat → Int) (V T : Nat → Int) (n m p i : Nat) (hi : i < len) (B : MT) (x : Int × Int) (hx : B a i = encF x) (hnm : ∀ j, j < 8 → B 72 j = nm j) (hp : PLs (B 73) (V, n, T, m) p) (hp38 : n + m ≤ 38) (hop : okOp2 x.1 x.2 (n, m)) (hev : evOk (V, n, T, m)) (hnr : ∀ j, j < 8 → -1000000 ≤ nm j ∧ nm j ≤ 1000000)
    (k : ∀ (P : Nat → Int) (q : Nat) (w4 w5 w6 : Value), PLs P (evStep nm x.1 x.2 (V, n, T, m)) q → Wp E1 X 174 [.ref 71, .ref a, .int (z (q : Int)), .int (z (i : Int)), w4, w5, w6] [] S (up B 73 P)) (w4 w5 w6 : Value) : Wp E1 X 10 [.ref 71, .ref a, .int (z (p : Int)), .int (z (i : Int)), w4, w5, w6] [] S B := by
  obtain ⟨o, v⟩ := x
  have hp0 : p = m + n := hp.1
  dsimp only at *
  have bin : ((-1000000 ≤ B 73 (p - 2) ∧ B 73 (p - 2) ≤ 1000000) ∧ (-1000000 ≤ B 73 (p - 1) ∧ B 73 (p - 1) ≤ 1000000) ∧ 2 ≤ p ∧ ((3 ≤ o ∧ o ≤ 6) ∨ (10 ≤ o ∧ o ≤ 15) ∨ ((o = 21 ∨ o = 22) ∧ (B 73 (p - 2) = 0 ∨ B 73 (p - 2) = 1) ∧ (B 73 (p - 1) = 0 ∨ B 73 (p - 1) = 1))) ∧ PLs (up (B 73) (p - 2) (clipF (outF o (B 73 (p - 2)) (B 73 (p - 1))))) (evStep nm o v (V, n, T, m)) (p - 1)) → (8 ≤ encK o ∧ encK o ≠ 17 ∧ encK o ≠ 33 ∧ encK o ≤ 100) → Wp E1 X 13 [.ref 71, .ref a, .int (z (p : Int)), .int (z (i : Int)), w4, w5, w6] [.int (z (10000 + encK o))] S B := by
    rintro ⟨q1, q2, q3, q4, q5⟩ q6
    have hor := outF_r (o := o) q1 q2
    have hcl := clip_mm (outF o (B 73 (p - 2)) (B 73 (p - 1)))
    have hcr := clipF_r (outF o (B 73 (p - 2)) (B 73 (p - 1)))
    refine wp_sipush (n := 16) K dX2_run_13 rfl rfl ?_
    refine wp_isub (n := 17) K dX2_run_16 rfl ?_
    refine wp_istore (n := 19) K dX2_run_17 rfl (by decide) ?_
    rw [show (10000 : Int) + encK o - 10000 = encK o by omega]
    refine wp_iload (n := 21) K dX2_run_19 rfl rfl ?_
    refine wp_bipush (n := 23) K dX2_run_21 rfl rfl ?_
    refine wp_icmp_ge (n := 26) K dX2_run_23 rfl (tgt := 62) (by decide) ⟨by omega, by omega⟩ ⟨by omega, by omega⟩ (fun c23 => ?_) (fun c23 => ?_)
    · refine wp_iload (n := 64) K dX2_run_62 rfl rfl ?_
      refine wp_bipush (n := 66) K dX2_run_64 rfl rfl ?_
      refine wp_icmp_eq (n := 69) K dX2_run_66 rfl (tgt := 76) (by decide) ⟨by omega, by omega⟩ ⟨by omega, by omega⟩ (fun c66 => ?_) (fun c66 => ?_)
      · omega
      · refine wp_iload (n := 71) K dX2_run_69 rfl rfl ?_
        refine wp_bipush (n := 73) K dX2_run_71 rfl rfl ?_
        refine wp_icmp_ne (n := 76) K dX2_run_73 rfl (tgt := 119) (by decide) ⟨by omega, by omega⟩ ⟨by omega, by omega⟩ (fun c73 => ?_) (fun c73 => ?_)
        · refine wp_iload_n (n := 120) K dX2_run_119 rfl rfl ?_
          refine wp_iconst (n := 121) K dX2_run_120 rfl ?_
          refine wp_icmp_lt (n := 124) K dX2_run_121 rfl (tgt := 174) (by decide) ⟨by omega, by omega⟩ ⟨by omega, by omega⟩ (fun c121 => ?_) (fun c121 => ?_)
          · omega
          · refine wp_iinc (n := 127) K dX2_run_124 rfl rfl (by decide) ?_
            refine wp_aload_n (n := 128) K dX2_run_127 rfl rfl ?_
            refine wp_iload (n := 130) K dX2_run_128 rfl rfl ?_
            refine wp_aload_n (n := 131) K dX2_run_130 rfl rfl ?_
            refine wp_getF (n := 134) K dX2_run_131 rfl fl_X2_15 rfl (liS rfl) rfl rfl ?_
            refine wp_iload_n (n := 135) K dX2_run_134 rfl rfl ?_
            refine wp_iconst (n := 136) K dX2_run_135 rfl ?_
            refine wp_isub (n := 137) K dX2_run_136 rfl ?_
            refine wp_iald (n := 138) K dX2_run_137 rfl rfl (liS rfl) ⟨by omega, by omega, by omega⟩ ?_
            rw [show ((p : Int) + -1 - 1).toNat = p - 2 by omega]
            refine wp_i2l (n := 139) K dX2_run_138 rfl ⟨by omega, by omega⟩ ?_
            refine wp_aload_n (n := 140) K dX2_run_139 rfl rfl ?_
            refine wp_getF (n := 143) K dX2_run_140 rfl fl_X2_15 rfl (liS rfl) rfl rfl ?_
            refine wp_iload_n (n := 144) K dX2_run_143 rfl rfl ?_
            refine wp_iald (n := 145) K dX2_run_144 rfl rfl (liS rfl) ⟨by omega, by omega, by omega⟩ ?_
            rw [show ((p : Int) + -1).toNat = p - 1 by omega]
            refine wp_i2l (n := 146) K dX2_run_145 rfl ⟨by omega, by omega⟩ ?_
            refine wp_invV_l (n := 149) K dX2_run_146 rfl cf_X2_75 (c_outcome_p o _ _ _ _ q1 q2 q4) rfl rfl rfl (liS rfl) rfl (by decide) ⟨Nat.le_refl _, Nat.le_refl _⟩ (Nat.le_of_ble_eq_true rfl) ?_
            refine wp_lstore (n := 151) K dX2_run_149 rfl (by decide) ?_
            refine wp_aload_n (n := 152) K dX2_run_151 rfl rfl ?_
            refine wp_getF (n := 155) K dX2_run_152 rfl fl_X2_15 rfl (liS rfl) rfl rfl ?_
            refine wp_iload_n (n := 156) K dX2_run_155 rfl rfl ?_
            refine wp_iconst (n := 157) K dX2_run_156 rfl ?_
            refine wp_isub (n := 158) K dX2_run_157 rfl ?_
            refine wp_ldc2 (n := 161) K dX2_run_158 rfl (-1000000) co_X2_79 ?_
            refine wp_ldc2 (n := 164) K dX2_run_161 rfl (1000000) co_X2_81 ?_
            refine wp_lload (n := 166) K dX2_run_164 rfl rfl ?_
            refine wp_invS_l (n := 169) K dX2_run_166 rfl cf_X2_83 (j_minl _ _ ⟨by omega, by omega⟩ ⟨by omega, by omega⟩ _ _) rfl rfl (by decide) ⟨Nat.le_refl _, Nat.le_refl _⟩ (Nat.le_of_ble_eq_true rfl) ?_
            refine wp_invS_l (n := 172) K dX2_run_169 rfl cf_X2_86 (j_maxl _ _ ⟨by omega, by omega⟩ ⟨by omega, by omega⟩ _ _) rfl rfl (by decide) ⟨Nat.le_refl _, Nat.le_refl _⟩ (Nat.le_of_ble_eq_true rfl) ?_
            rw [hcl]
            refine wp_l2i (n := 173) K dX2_run_172 rfl ?_
            refine wp_iast (n := 174) K dX2_run_173 rfl rfl (liS rfl) (fun _ => rfl) ⟨by omega, by omega, by omega⟩ ?_
            try simp only [up_same, up_up, up_ne, ne_eq, Nat.reduceEqDiff, not_false_eq_true, Int.reduceToNat, Int.toNat_natCast]
            rw [show ((p : Int) + -1 - 1).toNat = p - 2 by omega, show (p : Int) + -1 = ((p - 1 : Nat) : Int) by omega]
            exact k _ (p - 1) _ _ _ q5
        · omega
    · omega
  refine wp_aload_n (n := 11) K dX2_run_10 rfl rfl ?_
  refine wp_iload_n (n := 12) K dX2_run_11 rfl rfl ?_
  refine wp_iald (n := 13) K dX2_run_12 rfl hs hl ⟨by omega, by omega, by omega⟩ ?_
  rw [Int.toNat_natCast, hx]
  rcases hop with ⟨o1, o2, o3⟩ | ⟨o1, o2, o3⟩ | ⟨o1, o2⟩ | ⟨o1, o2, o3⟩ | ⟨o1, o2, o3⟩ | ⟨o1, o2, o3⟩ | ⟨o1, o2, o3, o4⟩
  · subst o1
    have e : encF (0, v) = v := rfl
    rw [e]
    refine wp_sipush (n := 16) K dX2_run_13 rfl rfl ?_
    refine wp_isub (n := 17) K dX2_run_16 rfl ?_
    refine wp_istore (n := 19) K dX2_run_17 rfl (by decide) ?_
    refine wp_iload (n := 21) K dX2_run_19 rfl rfl ?_
    refine wp_bipush (n := 23) K dX2_run_21 rfl rfl ?_
    refine wp_icmp_ge (n := 26) K dX2_run_23 rfl (tgt := 62) (by decide) ⟨by omega, by omega⟩ ⟨by omega, by omega⟩ (fun c23 => ?_) (fun c23 => ?_)
    · omega
    · refine wp_iload_n (n := 27) K dX2_run_26 rfl rfl ?_
      refine wp_bipush (n := 29) K dX2_run_27 rfl rfl ?_
      refine wp_icmp_ge (n := 32) K dX2_run_29 rfl (tgt := 174) (by decide) ⟨by omega, by omega⟩ ⟨by omega, by omega⟩ (fun c29 => ?_) (fun c29 => ?_)
      · omega
      · refine wp_aload_n (n := 33) K dX2_run_32 rfl rfl ?_
        refine wp_getF (n := 36) K dX2_run_33 rfl fl_X2_15 rfl (liS rfl) rfl rfl ?_
        refine wp_iload_n (n := 37) K dX2_run_36 rfl rfl ?_
        refine wp_iload (n := 39) K dX2_run_37 rfl rfl ?_
        refine wp_if_ge (n := 42) K dX2_run_39 rfl (tgt := 48) (by decide) ⟨by omega, by omega⟩ (fun c39 => ?_) (fun c39 => ?_)
        · omega
        · refine wp_aload_n (n := 43) K dX2_run_42 rfl rfl ?_
          refine wp_iload_n (n := 44) K dX2_run_43 rfl rfl ?_
          refine wp_iald (n := 45) K dX2_run_44 rfl hs hl ⟨by omega, by omega, by omega⟩ ?_
          rw [Int.toNat_natCast, hx, e]
          refine wp_goto K dX2_run_45 (tgt := 55) (by decide) ?_
          refine wp_iast (n := 56) K dX2_run_55 rfl rfl (liS rfl) (fun _ => rfl) ⟨by omega, by omega, by omega⟩ ?_
          try simp only [up_same, up_up, up_ne, ne_eq, Nat.reduceEqDiff, not_false_eq_true, Int.reduceToNat, Int.toNat_natCast]
          refine wp_iinc (n := 59) K dX2_run_56 rfl rfl (by decide) ?_
          refine wp_goto K dX2_run_59 (tgt := 174) (by decide) ?_
          have e2 : evStep nm 0 v (V, n, T, m) = (up V n v, n + 1, T, m) := rfl
          rw [e2] at k
          exact k _ (p + 1) _ _ _ (pl_push v hp)
  · subst o1
    have e : encF (1, v) = 10000 + v := rfl
    rw [e, show (10000 : Int) + v = 10000 + v from rfl]
    refine wp_sipush (n := 16) K dX2_run_13 rfl rfl ?_
    refine wp_isub (n := 17) K dX2_run_16 rfl ?_
    refine wp_istore (n := 19) K dX2_run_17 rfl (by decide) ?_
    rw [show (10000 : Int) + v - 10000 = v by omega]
    refine wp_iload (n := 21) K dX2_run_19 rfl rfl ?_
    refine wp_bipush (n := 23) K dX2_run_21 rfl rfl ?_
    refine wp_icmp_ge (n := 26) K dX2_run_23 rfl (tgt := 62) (by decide) ⟨by omega, by omega⟩ ⟨by omega, by omega⟩ (fun c23 => ?_) (fun c23 => ?_)
    · omega
    · refine wp_iload_n (n := 27) K dX2_run_26 rfl rfl ?_
      refine wp_bipush (n := 29) K dX2_run_27 rfl rfl ?_
      refine wp_icmp_ge (n := 32) K dX2_run_29 rfl (tgt := 174) (by decide) ⟨by omega, by omega⟩ ⟨by omega, by omega⟩ (fun c29 => ?_) (fun c29 => ?_)
      · omega
      · refine wp_aload_n (n := 33) K dX2_run_32 rfl rfl ?_
        refine wp_getF (n := 36) K dX2_run_33 rfl fl_X2_15 rfl (liS rfl) rfl rfl ?_
        refine wp_iload_n (n := 37) K dX2_run_36 rfl rfl ?_
        refine wp_iload (n := 39) K dX2_run_37 rfl rfl ?_
        refine wp_if_ge (n := 42) K dX2_run_39 rfl (tgt := 48) (by decide) ⟨by omega, by omega⟩ (fun c39 => ?_) (fun c39 => ?_)
        · refine wp_aload_n (n := 49) K dX2_run_48 rfl rfl ?_
          refine wp_getF (n := 52) K dX2_run_49 rfl fl_X2_9 rfl (liS rfl) rfl rfl ?_
          refine wp_iload (n := 54) K dX2_run_52 rfl rfl ?_
          refine wp_iald (n := 55) K dX2_run_54 rfl rfl (liS rfl) ⟨by omega, by omega, by omega⟩ ?_
          try simp only [up_same, up_up, up_ne, ne_eq, Nat.reduceEqDiff, not_false_eq_true, Int.reduceToNat, Int.toNat_natCast]
          rw [hnm v.toNat (by omega)]
          refine wp_iast (n := 56) K dX2_run_55 rfl rfl (liS rfl) (fun _ => rfl) ⟨by omega, by omega, by omega⟩ ?_
          try simp only [up_same, up_up, up_ne, ne_eq, Nat.reduceEqDiff, not_false_eq_true, Int.reduceToNat, Int.toNat_natCast]
          refine wp_iinc (n := 59) K dX2_run_56 rfl rfl (by decide) ?_
          refine wp_goto K dX2_run_59 (tgt := 174) (by decide) ?_
          have e2 : evStep nm 1 v (V, n, T, m) = (up V n (nm v.toNat), n + 1, T, m) := rfl
          rw [e2] at k
          exact k _ (p + 1) _ _ _ (pl_push _ hp)
        · omega
  · subst o1
    have e : encF (2, v) = 10033 := rfl
    rw [e]
    have b0 := hp.2.2 (n - 1) (by dsimp only at o2 ⊢; omega)
    dsimp only at o2 b0
    rw [show m + (n - 1) = p - 1 by omega] at b0
    refine wp_sipush (n := 16) K dX2_run_13 rfl rfl ?_
    refine wp_isub (n := 17) K dX2_run_16 rfl ?_
    refine wp_istore (n := 19) K dX2_run_17 rfl (by decide) ?_
    refine wp_iload (n := 21) K dX2_run_19 rfl rfl ?_
    refine wp_bipush (n := 23) K dX2_run_21 rfl rfl ?_
    refine wp_icmp_ge (n := 26) K dX2_run_23 rfl (tgt := 62) (by decide) ⟨by omega, by omega⟩ ⟨by omega, by omega⟩ (fun c23 => ?_) (fun c23 => ?_)
    · refine wp_iload (n := 64) K dX2_run_62 rfl rfl ?_
      refine wp_bipush (n := 66) K dX2_run_64 rfl rfl ?_
      refine wp_icmp_eq (n := 69) K dX2_run_66 rfl (tgt := 76) (by decide) ⟨by omega, by omega⟩ ⟨by omega, by omega⟩ (fun c66 => ?_) (fun c66 => ?_)
      · omega
      · refine wp_iload (n := 71) K dX2_run_69 rfl rfl ?_
        refine wp_bipush (n := 73) K dX2_run_71 rfl rfl ?_
        refine wp_icmp_ne (n := 76) K dX2_run_73 rfl (tgt := 119) (by decide) ⟨by omega, by omega⟩ ⟨by omega, by omega⟩ (fun c73 => ?_) (fun c73 => ?_)
        · omega
        · refine wp_iload_n (n := 77) K dX2_run_76 rfl rfl ?_
          refine wp_iconst (n := 78) K dX2_run_77 rfl ?_
          refine wp_icmp_lt (n := 81) K dX2_run_78 rfl (tgt := 174) (by decide) ⟨by omega, by omega⟩ ⟨by omega, by omega⟩ (fun c78 => ?_) (fun c78 => ?_)
          · omega
          · refine wp_aload_n (n := 82) K dX2_run_81 rfl rfl ?_
            refine wp_getF (n := 85) K dX2_run_82 rfl fl_X2_15 rfl (liS rfl) rfl rfl ?_
            refine wp_iload_n (n := 86) K dX2_run_85 rfl rfl ?_
            refine wp_iconst (n := 87) K dX2_run_86 rfl ?_
            refine wp_isub (n := 88) K dX2_run_87 rfl ?_
            refine wp_iald (n := 89) K dX2_run_88 rfl rfl (liS rfl) ⟨by omega, by omega, by omega⟩ ?_
            try simp only [up_same, up_up, up_ne, ne_eq, Nat.reduceEqDiff, not_false_eq_true, Int.reduceToNat, Int.toNat_natCast]
            refine wp_istore (n := 91) K dX2_run_89 rfl (by decide) ?_
            refine wp_aload_n (n := 92) K dX2_run_91 rfl rfl ?_
            refine wp_getF (n := 95) K dX2_run_92 rfl fl_X2_15 rfl (liS rfl) rfl rfl ?_
            refine wp_iload_n (n := 96) K dX2_run_95 rfl rfl ?_
            refine wp_iconst (n := 97) K dX2_run_96 rfl ?_
            refine wp_isub (n := 98) K dX2_run_97 rfl ?_
            refine wp_iload (n := 100) K dX2_run_98 rfl rfl ?_
            refine wp_bipush (n := 102) K dX2_run_100 rfl rfl ?_
            refine wp_icmp_ne (n := 105) K dX2_run_102 rfl (tgt := 112) (by decide) ⟨by omega, by omega⟩ ⟨by omega, by omega⟩ (fun c102 => ?_) (fun c102 => ?_)
            · refine wp_iload (n := 114) K dX2_run_112 rfl rfl ?_
              refine wp_ineg (n := 115) K dX2_run_114 rfl ?_
              refine wp_iast (n := 116) K dX2_run_115 rfl rfl (liS rfl) (fun _ => rfl) ⟨by omega, by omega, by omega⟩ ?_
              try simp only [up_same, up_up, up_ne, ne_eq, Nat.reduceEqDiff, not_false_eq_true, Int.reduceToNat, Int.toNat_natCast]
              refine wp_goto K dX2_run_116 (tgt := 174) (by decide) ?_
              have e2 : evStep nm 2 v (V, n, T, m) = (up V (n - 1) (-V (n - 1)), n, T, m) := rfl
              rw [e2] at k
              rw [show ((p : Int) - 1).toNat = p - 1 by omega]
              have := pl_top (-V (n - 1)) hp o2
              rw [← b0] at this k
              exact k _ p _ _ _ this
            · omega
    · omega
  · have hout := pl_out (nm := nm) (o := o) (v := v) hp hev (Or.inl ⟨o1, o2, o3⟩)
    have e : encF (o, v) = 10000 + encK o := by unfold encF; dsimp only; rw [if_neg (by omega), if_neg (by omega)]
    have ek : 18 ≤ encK o ∧ encK o ≤ 32 := by
      rcases (show o = 3 ∨ o = 4 ∨ o = 5 ∨ o = 6 by omega) with rfl | rfl | rfl | rfl <;> decide
    rw [e]
    exact bin hout (by omega)
  · have hout := pl_out (nm := nm) (o := o) (v := v) hp hev (Or.inr (Or.inl ⟨o1, o2, o3⟩))
    have e : encF (o, v) = 10000 + encK o := by unfold encF; dsimp only; rw [if_neg (by omega), if_neg (by omega)]
    have ek : 18 ≤ encK o ∧ encK o ≤ 32 := by
      rcases (show o = 10 ∨ o = 11 ∨ o = 12 ∨ o = 13 ∨ o = 14 ∨ o = 15 by omega) with rfl | rfl | rfl | rfl | rfl | rfl <;> decide
    rw [e]
    exact bin hout (by omega)
  · subst o1
    have e : encF (20, v) = 10017 := rfl
    rw [e]
    dsimp only at o2 o3
    subst o2
    have b0 := hp.2.1 (m - 1) (by dsimp only; omega)
    dsimp only at b0
    rw [show m - 1 = p - 1 by omega] at b0
    refine wp_sipush (n := 16) K dX2_run_13 rfl rfl ?_
    refine wp_isub (n := 17) K dX2_run_16 rfl ?_
    refine wp_istore (n := 19) K dX2_run_17 rfl (by decide) ?_
    refine wp_iload (n := 21) K dX2_run_19 rfl rfl ?_
    refine wp_bipush (n := 23) K dX2_run_21 rfl rfl ?_
    refine wp_icmp_ge (n := 26) K dX2_run_23 rfl (tgt := 62) (by decide) ⟨by omega, by omega⟩ ⟨by omega, by omega⟩ (fun c23 => ?_) (fun c23 => ?_)
    · refine wp_iload (n := 64) K dX2_run_62 rfl rfl ?_
      refine wp_bipush (n := 66) K dX2_run_64 rfl rfl ?_
      refine wp_icmp_eq (n := 69) K dX2_run_66 rfl (tgt := 76) (by decide) ⟨by omega, by omega⟩ ⟨by omega, by omega⟩ (fun c66 => ?_) (fun c66 => ?_)
      · refine wp_iload_n (n := 77) K dX2_run_76 rfl rfl ?_
        refine wp_iconst (n := 78) K dX2_run_77 rfl ?_
        refine wp_icmp_lt (n := 81) K dX2_run_78 rfl (tgt := 174) (by decide) ⟨by omega, by omega⟩ ⟨by omega, by omega⟩ (fun c78 => ?_) (fun c78 => ?_)
        · omega
        · refine wp_aload_n (n := 82) K dX2_run_81 rfl rfl ?_
          refine wp_getF (n := 85) K dX2_run_82 rfl fl_X2_15 rfl (liS rfl) rfl rfl ?_
          refine wp_iload_n (n := 86) K dX2_run_85 rfl rfl ?_
          refine wp_iconst (n := 87) K dX2_run_86 rfl ?_
          refine wp_isub (n := 88) K dX2_run_87 rfl ?_
          refine wp_iald (n := 89) K dX2_run_88 rfl rfl (liS rfl) ⟨by omega, by omega, by omega⟩ ?_
          try simp only [up_same, up_up, up_ne, ne_eq, Nat.reduceEqDiff, not_false_eq_true, Int.reduceToNat, Int.toNat_natCast]
          refine wp_istore (n := 91) K dX2_run_89 rfl (by decide) ?_
          refine wp_aload_n (n := 92) K dX2_run_91 rfl rfl ?_
          refine wp_getF (n := 95) K dX2_run_92 rfl fl_X2_15 rfl (liS rfl) rfl rfl ?_
          refine wp_iload_n (n := 96) K dX2_run_95 rfl rfl ?_
          refine wp_iconst (n := 97) K dX2_run_96 rfl ?_
          refine wp_isub (n := 98) K dX2_run_97 rfl ?_
          refine wp_iload (n := 100) K dX2_run_98 rfl rfl ?_
          refine wp_bipush (n := 102) K dX2_run_100 rfl rfl ?_
          refine wp_icmp_ne (n := 105) K dX2_run_102 rfl (tgt := 112) (by decide) ⟨by omega, by omega⟩ ⟨by omega, by omega⟩ (fun c102 => ?_) (fun c102 => ?_)
          · exact absurd rfl c102
          · refine wp_iconst (n := 106) K dX2_run_105 rfl ?_
            refine wp_iload (n := 108) K dX2_run_106 rfl rfl ?_
            refine wp_isub (n := 109) K dX2_run_108 rfl ?_
            refine wp_goto K dX2_run_109 (tgt := 115) (by decide) ?_
            refine wp_iast (n := 116) K dX2_run_115 rfl rfl (liS rfl) (fun _ => rfl) ⟨by omega, by omega, by omega⟩ ?_
            try simp only [up_same, up_up, up_ne, ne_eq, Nat.reduceEqDiff, not_false_eq_true, Int.reduceToNat, Int.toNat_natCast]
            refine wp_goto K dX2_run_116 (tgt := 174) (by decide) ?_
            have e2 : evStep nm 20 v (V, 0, T, m) = (V, 0, up T (m - 1) (1 - T (m - 1)), m) := rfl
            rw [e2, show m - 1 = p - 1 by omega] at k
            rw [show ((p : Int) - 1).toNat = p - 1 by omega]
            have := pl_not (1 - T (m - 1)) hp o3
            rw [show m - 1 = p - 1 by omega, ← b0] at this
            rw [← b0] at k
            exact k _ p _ _ _ this
      · omega
    · omega
  · have hout := pl_out (nm := nm) (o := o) (v := v) hp hev (Or.inr (Or.inr ⟨o1, o2, o3, o4⟩))
    have e : encF (o, v) = 10000 + encK o := by unfold encF; dsimp only; rw [if_neg (by omega), if_neg (by omega)]
    have ek : 15 ≤ encK o ∧ encK o ≤ 16 := by
      rcases (show o = 21 ∨ o = 22 by omega) with rfl | rfl <;> decide
    rw [e]
    exact bin hout (by omega)
theorem c_run_p (S : ST) (M : MT) (a len : Nat) (hs : shp E1 S a = (2, len)) (hl : live E1 S a) (ha : a ∉ [73]) (nm : Nat → Int) (c : Nat → Int × Int) (hok : okC2 c len) (hc : ∀ i, i < len → M a i = encF (c i)) (hnm : ∀ j, j < 8 → M 72 j = nm j) (hnr : ∀ j, j < 8 → -1000000 ≤ nm j ∧ nm j ≤ 1000000) : Ct E1 yX2_run cX2_run 7 (some .int) rm_X2_run [.ref 71, .ref a] S M (Qi (evTop (evRun nm c len)) [73] S M (fun _ => True)) := by
  have hlen := hok.1
  have hda := evRun_dp nm c hok.ok
  have hev := evRun_ok hnr hok.ok
  refine Ct.mk [.ref 71, .ref a, mkV, mkV, mkV, mkV, mkV] (by decide) rfl (Nat.le_of_ble_eq_true rfl) (fun X K => ?_)
  refine wp_iconst (n := 1) K dX2_run_0 rfl ?_
  refine wp_istore_n (n := 2) K dX2_run_1 rfl (by decide) ?_
  refine wp_iconst (n := 3) K dX2_run_2 rfl ?_
  refine wp_istore_n (n := 4) K dX2_run_3 rfl (by decide) ?_
  refine (dn len (Q := fun i => ∀ (B : MT) (p : Nat) (w4 w5 w6 : Value), (∀ b, b ∉ [73] → B b = M b) → PLs (B 73) (evRun nm c i) p → Wp E1 X 4 [.ref 71, .ref a, .int (z (p : Int)), .int (z (i : Int)), w4, w5, w6] [] S B) (fun i hi ih B p w4 w5 w6 hB hp => ?_) 0 (by omega)) M 0 mkV mkV mkV (fun _ _ => rfl) ⟨rfl, (fun j hj => by cases hj), (fun j hj => by cases hj)⟩
  have hd := hda i hi
  have he := hev i hi
  have h38 := hok.2.2 i hi
  rw [← hd] at h38
  dsimp only at h38
  have hBa : B a = M a := hB a ha
  refine wp_iload_n (n := 5) K dX2_run_4 rfl rfl ?_
  refine wp_aload_n (n := 6) K dX2_run_5 rfl rfl ?_
  refine wp_alen (n := 7) K dX2_run_6 rfl hs (by decide) hl ?_
  refine wp_icmp_ge (n := 10) K dX2_run_7 rfl (tgt := 180) (by decide) ⟨by omega, by omega⟩ ⟨by omega, by omega⟩ (fun c7 => ?_) (fun c7 => ?_)
  · have : i = len := by omega
    subst this
    generalize evRun nm c i = s at *
    obtain ⟨V, n, T, m⟩ := s
    obtain ⟨p1, p2, p3⟩ := hp
    dsimp only at p1 p2 p3
    have hle := dpRun_le c i
    rw [← hd] at hle
    dsimp only at hle h38
    refine wp_iload_n (n := 181) K dX2_run_180 rfl rfl ?_
    refine wp_iconst (n := 182) K dX2_run_181 rfl ?_
    refine wp_icmp_lt (n := 185) K dX2_run_182 rfl (tgt := 196) (by decide) ⟨by omega, by omega⟩ ⟨by omega, by omega⟩ (fun c182 => ?_) (fun c182 => ?_)
    · refine wp_iconst (n := 197) K dX2_run_196 rfl ?_
      refine ret_qi K dX2_run_197 ?_ rfl ?_ ?_ ⟨Nat.le_refl _, Nat.le_refl _⟩
      · unfold evTop; dsimp only; rw [if_neg (by omega), if_neg (by omega)]
      · exact hB
      · trivial
    · refine wp_aload_n (n := 186) K dX2_run_185 rfl rfl ?_
      refine wp_getF (n := 189) K dX2_run_186 rfl fl_X2_15 rfl (liS rfl) rfl rfl ?_
      refine wp_iload_n (n := 190) K dX2_run_189 rfl rfl ?_
      refine wp_iconst (n := 191) K dX2_run_190 rfl ?_
      refine wp_isub (n := 192) K dX2_run_191 rfl ?_
      refine wp_iald (n := 193) K dX2_run_192 rfl rfl (liS rfl) ⟨by omega, by omega, by omega⟩ ?_
      try simp only [up_same, up_up, up_ne, ne_eq, Nat.reduceEqDiff, not_false_eq_true, Int.reduceToNat, Int.toNat_natCast]
      refine wp_goto K dX2_run_193 (tgt := 197) (by decide) ?_
      refine ret_qi K dX2_run_197 ?_ rfl ?_ ?_ ⟨Nat.le_refl _, Nat.le_refl _⟩
      · rw [show ((p : Int) - 1).toNat = p - 1 by omega]
        unfold evTop; dsimp only
        by_cases hn : 1 ≤ n
        · rw [if_pos hn, ← p3 _ (by omega)]; congr 1; omega
        · rw [if_neg hn, if_pos (by omega), ← p2 _ (by omega)]; congr 1; omega
      · exact hB
      · trivial
  · have ih := ih (by omega)
    have hoi := hok.2.1 i (by omega)
    rw [← hd] at hoi
    have e : evRun nm c (i + 1) = evStep nm (c i).1 (c i).2 (evRun nm c i) := rfl
    rw [e] at ih
    generalize evRun nm c i = s at *
    obtain ⟨V, n, T, m⟩ := s
    refine c_run1_p K a len hs hl hlen nm V T n m p i (by omega) B (c i) (by rw [hBa]; exact hc i (by omega)) (fun j hj => by rw [hB _ (by decide)]; exact hnm j hj) hp h38 hoi he hnr (fun P q w4 w5 w6 hP => ?_) _ _ _
    refine wp_iinc (n := 177) K dX2_run_174 rfl rfl (by decide) ?_
    refine wp_goto K dX2_run_177 (tgt := 4) (by decide) ?_
    exact ih _ q _ _ _ (fun b hb => by rw [up_ne _ _ (by simpa using hb)]; exact hB b hb) (by rw [up_same]; exact hP)
