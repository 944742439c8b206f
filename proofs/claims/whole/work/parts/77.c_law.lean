/-! the law's code in the class: one row of numbers, one pile -/
def encK (o : Int) : Int := if o = 2 then 33 else if o = 3 then 24 else if o = 4 then 25 else if o = 5 then 26 else if o = 6 then 27 else if o = 10 then 20 else if o = 11 then 31 else if o = 12 then 21 else if o = 13 then 32 else if o = 14 then 22 else if o = 15 then 23 else if o = 20 then 17 else if o = 21 then 16 else 15
def encF (x : Int × Int) : Int := if x.1 = 0 then x.2 else if x.1 = 1 then 10000 + x.2 else 10000 + encK x.1
def okOp2 (o v : Int) (d : Nat × Nat) : Prop := (o = 0 ∧ 0 ≤ v ∧ v ≤ 9999) ∨ (o = 1 ∧ 0 ≤ v ∧ v < 8) ∨ (o = 2 ∧ 1 ≤ d.1) ∨ (3 ≤ o ∧ o ≤ 6 ∧ 2 ≤ d.1) ∨ (10 ≤ o ∧ o ≤ 15 ∧ d.1 = 2) ∨ (o = 20 ∧ d.1 = 0 ∧ 1 ≤ d.2) ∨ (21 ≤ o ∧ o ≤ 22 ∧ d.1 = 0 ∧ 2 ≤ d.2)
def okC2 (c : Nat → Int × Int) (len : Nat) : Prop := len ≤ 299 ∧ (∀ i, i < len → okOp2 (c i).1 (c i).2 (dpRun c i)) ∧ ∀ i, i ≤ len → (dpRun c i).1 + (dpRun c i).2 ≤ 38
theorem okOp2.op {o v : Int} {d : Nat × Nat} (h : okOp2 o v d) : okOp o v d := by
  unfold okOp2 at h; unfold okOp; omega
theorem okC2.ok {c : Nat → Int × Int} {len : Nat} (h : okC2 c len) : okCode c len := ⟨by have := h.1; omega, fun i hi => (h.2.1 i hi).op⟩
/-- what a deed between two comes to, before it is held -/
def outF (o a b : Int) : Int := if o = 3 then a + b else if o = 4 then a - b else if o = 5 then a * b else if o = 6 then (if b = 0 then 0 else Int.tdiv a b) else if o = 21 then (if a ≠ 0 ∧ b ≠ 0 then 1 else 0) else if o = 22 then (if a ≠ 0 ∨ b ≠ 0 then 1 else 0) else bI (askF o a b)
theorem bland01 : ∀ a b : Int, (a = 0 ∨ a = 1) → (b = 0 ∨ b = 1) → bland a b = (if a ≠ 0 ∧ b ≠ 0 then 1 else 0) ∧ blor a b = (if a ≠ 0 ∨ b ≠ 0 then 1 else 0) := by
  rintro a b (rfl | rfl) (rfl | rfl) <;> decide
theorem tdiv_rr {a b : Int} (ha : -1000000 ≤ a ∧ a ≤ 1000000) : -1000000 ≤ Int.tdiv a b ∧ Int.tdiv a b ≤ 1000000 := by
  have h := Int.natAbs_tdiv_le_natAbs a b
  omega
theorem outF_r {o a b : Int} (ha : -1000000 ≤ a ∧ a ≤ 1000000) (hb : -1000000 ≤ b ∧ b ≤ 1000000) : -2000000000000 ≤ outF o a b ∧ outF o a b ≤ 2000000000000 := by
  unfold outF
  split
  · omega
  · split
    · omega
    · split
      · have h1 : a * b ≤ 1000000 * 1000000 := by
          have := Int.natAbs_mul a b
          have h2 : a.natAbs * b.natAbs ≤ 1000000 * 1000000 := Nat.mul_le_mul (by omega) (by omega)
          omega
        have h3 : -(1000000 * 1000000) ≤ a * b := by
          have := Int.natAbs_mul a b
          have h2 : a.natAbs * b.natAbs ≤ 1000000 * 1000000 := Nat.mul_le_mul (by omega) (by omega)
          omega
        omega
      · split
        · split
          · omega
          · have := tdiv_rr (b := b) ha; omega
        · split
          · split <;> omega
          · split
            · split <;> omega
            · rcases bI_01 (askF o a b) with h | h <;> rw [h] <;> omega
theorem c_outcome_a (o a b : Int) (S : ST) (M : MT) (ha : -1000000 ≤ a ∧ a ≤ 1000000) (hb : -1000000 ≤ b ∧ b ≤ 1000000) (ho : (3 ≤ o ∧ o ≤ 6) ∨ (10 ≤ o ∧ o ≤ 15) ∨ ((o = 21 ∨ o = 22) ∧ (a = 0 ∨ a = 1) ∧ (b = 0 ∨ b = 1))) : Ct E1 yX2_outcome cX2_outcome 6 (some .long) rm_X2_outcome [.ref 64, .int (z (encK o)), .long (zl a), .long (zl b)] S M (Pl (outF o a b) S M) := by
  refine Ct.mk [.ref 64, .int (z (encK o)), .long (zl a), mkV, .long (zl b), mkV] (by decide) rfl (Nat.le_of_ble_eq_true rfl) (fun X K => ?_)
  have w1 : w64 a = a := w64_id (by omega) (by omega)
  have w2 : w64 b = b := w64_id (by omega) (by omega)
  have w0 : w64 0 = 0 := rfl
  rcases (show o = 3 ∨ o = 4 ∨ o = 5 ∨ o = 6 ∨ o = 10 ∨ o = 11 ∨ o = 12 ∨ o = 13 ∨ o = 14 ∨ o = 15 ∨ o = 21 ∨ o = 22 by omega) with rfl | rfl | rfl | rfl | rfl | rfl | rfl | rfl | rfl | rfl | rfl | rfl
  · refine wp_iload_n (n := 1) K dX2_outcome_0 rfl rfl ?_
    refine wp_tswIn (a := 24) K dX2_outcome_1 (tgt := 88) ⟨by decide, by decide⟩ (by decide) (by decide) (off := 87) rfl (by decide) ?_
    refine wp_lload_n (n := 89) K dX2_outcome_88 rfl rfl ?_
    refine wp_lload (n := 91) K dX2_outcome_89 rfl rfl ?_
    refine wp_ladd (n := 92) K dX2_outcome_91 rfl ?_
    refine ret_l K dX2_outcome_92 ?_ rfl ?_ ⟨Nat.le_refl _, Nat.le_refl _⟩
    all_goals rfl
  · refine wp_iload_n (n := 1) K dX2_outcome_0 rfl rfl ?_
    refine wp_tswIn (a := 25) K dX2_outcome_1 (tgt := 93) ⟨by decide, by decide⟩ (by decide) (by decide) (off := 92) rfl (by decide) ?_
    refine wp_lload_n (n := 94) K dX2_outcome_93 rfl rfl ?_
    refine wp_lload (n := 96) K dX2_outcome_94 rfl rfl ?_
    refine wp_lsub (n := 97) K dX2_outcome_96 rfl ?_
    refine ret_l K dX2_outcome_97 ?_ rfl ?_ ⟨Nat.le_refl _, Nat.le_refl _⟩
    all_goals rfl
  · refine wp_iload_n (n := 1) K dX2_outcome_0 rfl rfl ?_
    refine wp_tswIn (a := 26) K dX2_outcome_1 (tgt := 98) ⟨by decide, by decide⟩ (by decide) (by decide) (off := 97) rfl (by decide) ?_
    refine wp_lload_n (n := 99) K dX2_outcome_98 rfl rfl ?_
    refine wp_lload (n := 101) K dX2_outcome_99 rfl rfl ?_
    refine wp_lmul (n := 102) K dX2_outcome_101 rfl ?_
    refine ret_l K dX2_outcome_102 ?_ rfl ?_ ⟨Nat.le_refl _, Nat.le_refl _⟩
    all_goals rfl
  · refine wp_iload_n (n := 1) K dX2_outcome_0 rfl rfl ?_
    refine wp_tswIn (a := 27) K dX2_outcome_1 (tgt := 103) ⟨by decide, by decide⟩ (by decide) (by decide) (off := 102) rfl (by decide) ?_
    refine wp_lload (n := 105) K dX2_outcome_103 rfl rfl ?_
    refine wp_lconst (n := 106) (a := 0) K dX2_outcome_105 rfl rfl ?_
    refine wp_lcmp (n := 107) K dX2_outcome_106 rfl ?_
    refine wp_if_ne (n := 110) K dX2_outcome_107 rfl (tgt := 114) (by decide) (lcmp_r _ _) (fun c107 => ?_) (fun c107 => ?_)
    · refine wp_lload_n (n := 115) K dX2_outcome_114 rfl rfl ?_
      refine wp_lload (n := 117) K dX2_outcome_115 rfl rfl ?_
      refine wp_ldiv (n := 118) K dX2_outcome_117 rfl (by rw [w2]; exact fun e => c107 (lcmp_eq.mpr (by rw [w2, w0]; exact e))) ?_
      refine ret_l K dX2_outcome_118 ?_ rfl ?_ ⟨Nat.le_refl _, Nat.le_refl _⟩
      · have hb0 : b ≠ 0 := fun e => c107 (lcmp_eq.mpr (by rw [w2, w0]; exact e))
        show bldiv a b = _
        rw [bldiv_v (by omega) (by omega)]
        unfold outF; rw [if_neg (by decide), if_neg (by decide), if_neg (by decide), if_pos rfl, if_neg hb0]
      · rfl
    · refine wp_lconst (n := 111) (a := 0) K dX2_outcome_110 rfl rfl ?_
      refine wp_goto K dX2_outcome_111 (tgt := 118) (by decide) ?_
      refine ret_l K dX2_outcome_118 ?_ rfl ?_ ⟨Nat.le_refl _, Nat.le_refl _⟩
      · have hb0 := lcmp_eq.mp c107
        rw [w2, w0] at hb0
        unfold outF; rw [if_neg (by decide), if_neg (by decide), if_neg (by decide), if_pos rfl, if_pos hb0]
      · rfl
  · refine wp_iload_n (n := 1) K dX2_outcome_0 rfl rfl ?_
    refine wp_tswIn (a := 20) K dX2_outcome_1 (tgt := 119) ⟨by decide, by decide⟩ (by decide) (by decide) (off := 118) rfl (by decide) ?_
    refine wp_lload_n (n := 120) K dX2_outcome_119 rfl rfl ?_
    refine wp_lload (n := 122) K dX2_outcome_120 rfl rfl ?_
    refine wp_lcmp (n := 123) K dX2_outcome_122 rfl ?_
    refine wp_if_ge (n := 126) K dX2_outcome_123 rfl (tgt := 130) (by decide) (lcmp_r _ _) (fun c123 => ?_) (fun c123 => ?_)
    · refine wp_lconst (n := 131) (a := 0) K dX2_outcome_130 rfl rfl ?_
      refine ret_l K dX2_outcome_131 ?_ rfl ?_ ⟨Nat.le_refl _, Nat.le_refl _⟩
      · show (0 : Int) = bI (askF 10 a b)
        unfold askF
        simp only [Int.reduceEq, if_false, if_true, reduceIte]
        have q := lcmp_ge.mp c123; rw [w1, w2] at q; exact bI_f (by omega)
      · rfl
    · refine wp_lconst (n := 127) (a := 1) K dX2_outcome_126 rfl rfl ?_
      refine wp_goto K dX2_outcome_127 (tgt := 131) (by decide) ?_
      refine ret_l K dX2_outcome_131 ?_ rfl ?_ ⟨Nat.le_refl _, Nat.le_refl _⟩
      · show (1 : Int) = bI (askF 10 a b)
        unfold askF
        simp only [Int.reduceEq, if_false, if_true, reduceIte]
        have q := lcmp_lt.mp c123; rw [w1, w2] at q; exact bI_t (by omega)
      · rfl
  · refine wp_iload_n (n := 1) K dX2_outcome_0 rfl rfl ?_
    refine wp_tswIn (a := 31) K dX2_outcome_1 (tgt := 132) ⟨by decide, by decide⟩ (by decide) (by decide) (off := 131) rfl (by decide) ?_
    refine wp_lload_n (n := 133) K dX2_outcome_132 rfl rfl ?_
    refine wp_lload (n := 135) K dX2_outcome_133 rfl rfl ?_
    refine wp_lcmp (n := 136) K dX2_outcome_135 rfl ?_
    refine wp_if_gt (n := 139) K dX2_outcome_136 rfl (tgt := 143) (by decide) (lcmp_r _ _) (fun c136 => ?_) (fun c136 => ?_)
    · refine wp_lconst (n := 144) (a := 0) K dX2_outcome_143 rfl rfl ?_
      refine ret_l K dX2_outcome_144 ?_ rfl ?_ ⟨Nat.le_refl _, Nat.le_refl _⟩
      · show (0 : Int) = bI (askF 11 a b)
        unfold askF
        simp only [Int.reduceEq, if_false, if_true, reduceIte]
        have q := lcmp_gt.mp c136; rw [w1, w2] at q; exact bI_f (by omega)
      · rfl
    · refine wp_lconst (n := 140) (a := 1) K dX2_outcome_139 rfl rfl ?_
      refine wp_goto K dX2_outcome_140 (tgt := 144) (by decide) ?_
      refine ret_l K dX2_outcome_144 ?_ rfl ?_ ⟨Nat.le_refl _, Nat.le_refl _⟩
      · show (1 : Int) = bI (askF 11 a b)
        unfold askF
        simp only [Int.reduceEq, if_false, if_true, reduceIte]
        have q := lcmp_le.mp c136; rw [w1, w2] at q; exact bI_t (by omega)
      · rfl
  · refine wp_iload_n (n := 1) K dX2_outcome_0 rfl rfl ?_
    refine wp_tswIn (a := 21) K dX2_outcome_1 (tgt := 145) ⟨by decide, by decide⟩ (by decide) (by decide) (off := 144) rfl (by decide) ?_
    refine wp_lload_n (n := 146) K dX2_outcome_145 rfl rfl ?_
    refine wp_lload (n := 148) K dX2_outcome_146 rfl rfl ?_
    refine wp_lcmp (n := 149) K dX2_outcome_148 rfl ?_
    refine wp_if_le (n := 152) K dX2_outcome_149 rfl (tgt := 156) (by decide) (lcmp_r _ _) (fun c149 => ?_) (fun c149 => ?_)
    · refine wp_lconst (n := 157) (a := 0) K dX2_outcome_156 rfl rfl ?_
      refine ret_l K dX2_outcome_157 ?_ rfl ?_ ⟨Nat.le_refl _, Nat.le_refl _⟩
      · show (0 : Int) = bI (askF 12 a b)
        unfold askF
        simp only [Int.reduceEq, if_false, if_true, reduceIte]
        have q := lcmp_le.mp c149; rw [w1, w2] at q; exact bI_f (by omega)
      · rfl
    · refine wp_lconst (n := 153) (a := 1) K dX2_outcome_152 rfl rfl ?_
      refine wp_goto K dX2_outcome_153 (tgt := 157) (by decide) ?_
      refine ret_l K dX2_outcome_157 ?_ rfl ?_ ⟨Nat.le_refl _, Nat.le_refl _⟩
      · show (1 : Int) = bI (askF 12 a b)
        unfold askF
        simp only [Int.reduceEq, if_false, if_true, reduceIte]
        have q := lcmp_gt.mp c149; rw [w1, w2] at q; exact bI_t (by omega)
      · rfl
  · refine wp_iload_n (n := 1) K dX2_outcome_0 rfl rfl ?_
    refine wp_tswIn (a := 32) K dX2_outcome_1 (tgt := 158) ⟨by decide, by decide⟩ (by decide) (by decide) (off := 157) rfl (by decide) ?_
    refine wp_lload_n (n := 159) K dX2_outcome_158 rfl rfl ?_
    refine wp_lload (n := 161) K dX2_outcome_159 rfl rfl ?_
    refine wp_lcmp (n := 162) K dX2_outcome_161 rfl ?_
    refine wp_if_lt (n := 165) K dX2_outcome_162 rfl (tgt := 169) (by decide) (lcmp_r _ _) (fun c162 => ?_) (fun c162 => ?_)
    · refine wp_lconst (n := 170) (a := 0) K dX2_outcome_169 rfl rfl ?_
      refine ret_l K dX2_outcome_170 ?_ rfl ?_ ⟨Nat.le_refl _, Nat.le_refl _⟩
      · show (0 : Int) = bI (askF 13 a b)
        unfold askF
        simp only [Int.reduceEq, if_false, if_true, reduceIte]
        have q := lcmp_lt.mp c162; rw [w1, w2] at q; exact bI_f (by omega)
      · rfl
    · refine wp_lconst (n := 166) (a := 1) K dX2_outcome_165 rfl rfl ?_
      refine wp_goto K dX2_outcome_166 (tgt := 170) (by decide) ?_
      refine ret_l K dX2_outcome_170 ?_ rfl ?_ ⟨Nat.le_refl _, Nat.le_refl _⟩
      · show (1 : Int) = bI (askF 13 a b)
        unfold askF
        simp only [Int.reduceEq, if_false, if_true, reduceIte]
        have q := lcmp_ge.mp c162; rw [w1, w2] at q; exact bI_t (by omega)
      · rfl
  · refine wp_iload_n (n := 1) K dX2_outcome_0 rfl rfl ?_
    refine wp_tswIn (a := 22) K dX2_outcome_1 (tgt := 171) ⟨by decide, by decide⟩ (by decide) (by decide) (off := 170) rfl (by decide) ?_
    refine wp_lload_n (n := 172) K dX2_outcome_171 rfl rfl ?_
    refine wp_lload (n := 174) K dX2_outcome_172 rfl rfl ?_
    refine wp_lcmp (n := 175) K dX2_outcome_174 rfl ?_
    refine wp_if_ne (n := 178) K dX2_outcome_175 rfl (tgt := 182) (by decide) (lcmp_r _ _) (fun c175 => ?_) (fun c175 => ?_)
    · refine wp_lconst (n := 183) (a := 0) K dX2_outcome_182 rfl rfl ?_
      refine ret_l K dX2_outcome_183 ?_ rfl ?_ ⟨Nat.le_refl _, Nat.le_refl _⟩
      · show (0 : Int) = bI (askF 14 a b)
        unfold askF
        simp only [Int.reduceEq, if_false, if_true, reduceIte]
        exact bI_f (fun e => c175 (lcmp_eq.mpr (by rw [w1, w2]; exact e)))
      · rfl
    · refine wp_lconst (n := 179) (a := 1) K dX2_outcome_178 rfl rfl ?_
      refine wp_goto K dX2_outcome_179 (tgt := 183) (by decide) ?_
      refine ret_l K dX2_outcome_183 ?_ rfl ?_ ⟨Nat.le_refl _, Nat.le_refl _⟩
      · show (1 : Int) = bI (askF 14 a b)
        unfold askF
        simp only [Int.reduceEq, if_false, if_true, reduceIte]
        have q := lcmp_eq.mp c175; rw [w1, w2] at q; exact bI_t q
      · rfl
  · refine wp_iload_n (n := 1) K dX2_outcome_0 rfl rfl ?_
    refine wp_tswIn (a := 23) K dX2_outcome_1 (tgt := 184) ⟨by decide, by decide⟩ (by decide) (by decide) (off := 183) rfl (by decide) ?_
    refine wp_lload_n (n := 185) K dX2_outcome_184 rfl rfl ?_
    refine wp_lload (n := 187) K dX2_outcome_185 rfl rfl ?_
    refine wp_lcmp (n := 188) K dX2_outcome_187 rfl ?_
    refine wp_if_eq (n := 191) K dX2_outcome_188 rfl (tgt := 195) (by decide) (lcmp_r _ _) (fun c188 => ?_) (fun c188 => ?_)
    · refine wp_lconst (n := 196) (a := 0) K dX2_outcome_195 rfl rfl ?_
      refine ret_l K dX2_outcome_196 ?_ rfl ?_ ⟨Nat.le_refl _, Nat.le_refl _⟩
      · show (0 : Int) = bI (askF 15 a b)
        unfold askF
        simp only [Int.reduceEq, if_false, if_true, reduceIte]
        have q := lcmp_eq.mp c188; rw [w1, w2] at q; exact bI_f (fun e => e q)
      · rfl
    · refine wp_lconst (n := 192) (a := 1) K dX2_outcome_191 rfl rfl ?_
      refine wp_goto K dX2_outcome_192 (tgt := 196) (by decide) ?_
      refine ret_l K dX2_outcome_196 ?_ rfl ?_ ⟨Nat.le_refl _, Nat.le_refl _⟩
      · show (1 : Int) = bI (askF 15 a b)
        unfold askF
        simp only [Int.reduceEq, if_false, if_true, reduceIte]
        exact bI_t (fun e => c188 (lcmp_eq.mpr (by rw [w1, w2]; exact e)))
      · rfl
  · refine wp_iload_n (n := 1) K dX2_outcome_0 rfl rfl ?_
    refine wp_tswIn (a := 16) K dX2_outcome_1 (tgt := 197) ⟨by decide, by decide⟩ (by decide) (by decide) (off := 196) rfl (by decide) ?_
    refine wp_lload_n (n := 198) K dX2_outcome_197 rfl rfl ?_
    refine wp_lload (n := 200) K dX2_outcome_198 rfl rfl ?_
    refine wp_land (n := 201) K dX2_outcome_200 rfl ?_
    refine ret_l K dX2_outcome_201 ?_ rfl ?_ ⟨Nat.le_refl _, Nat.le_refl _⟩
    · obtain ⟨q1, q2⟩ := (show (a = 0 ∨ a = 1) ∧ (b = 0 ∨ b = 1) by omega)
      exact (bland01 a b q1 q2).1
    · rfl
  · refine wp_iload_n (n := 1) K dX2_outcome_0 rfl rfl ?_
    refine wp_tswIn (a := 15) K dX2_outcome_1 (tgt := 202) ⟨by decide, by decide⟩ (by decide) (by decide) (off := 201) rfl (by decide) ?_
    refine wp_lload_n (n := 203) K dX2_outcome_202 rfl rfl ?_
    refine wp_lload (n := 205) K dX2_outcome_203 rfl rfl ?_
    refine wp_lor (n := 206) K dX2_outcome_205 rfl ?_
    refine ret_l K dX2_outcome_206 ?_ rfl ?_ ⟨Nat.le_refl _, Nat.le_refl _⟩
    · obtain ⟨q1, q2⟩ := (show (a = 0 ∨ a = 1) ∧ (b = 0 ∨ b = 1) by omega)
      exact (bland01 a b q1 q2).2
    · rfl
theorem c_outcome_p (o a b : Int) (S : ST) (M : MT) (ha : -1000000 ≤ a ∧ a ≤ 1000000) (hb : -1000000 ≤ b ∧ b ≤ 1000000) (ho : (3 ≤ o ∧ o ≤ 6) ∨ (10 ≤ o ∧ o ≤ 15) ∨ ((o = 21 ∨ o = 22) ∧ (a = 0 ∨ a = 1) ∧ (b = 0 ∨ b = 1))) : Ct E1 yX2_outcome cX2_outcome 6 (some .long) rm_X2_outcome [.ref 71, .int (z (encK o)), .long (zl a), .long (zl b)] S M (Pl (outF o a b) S M) := by
  refine Ct.mk [.ref 71, .int (z (encK o)), .long (zl a), mkV, .long (zl b), mkV] (by decide) rfl (Nat.le_of_ble_eq_true rfl) (fun X K => ?_)
  have w1 : w64 a = a := w64_id (by omega) (by omega)
  have w2 : w64 b = b := w64_id (by omega) (by omega)
  have w0 : w64 0 = 0 := rfl
  rcases (show o = 3 ∨ o = 4 ∨ o = 5 ∨ o = 6 ∨ o = 10 ∨ o = 11 ∨ o = 12 ∨ o = 13 ∨ o = 14 ∨ o = 15 ∨ o = 21 ∨ o = 22 by omega) with rfl | rfl | rfl | rfl | rfl | rfl | rfl | rfl | rfl | rfl | rfl | rfl
  · refine wp_iload_n (n := 1) K dX2_outcome_0 rfl rfl ?_
    refine wp_tswIn (a := 24) K dX2_outcome_1 (tgt := 88) ⟨by decide, by decide⟩ (by decide) (by decide) (off := 87) rfl (by decide) ?_
    refine wp_lload_n (n := 89) K dX2_outcome_88 rfl rfl ?_
    refine wp_lload (n := 91) K dX2_outcome_89 rfl rfl ?_
    refine wp_ladd (n := 92) K dX2_outcome_91 rfl ?_
    refine ret_l K dX2_outcome_92 ?_ rfl ?_ ⟨Nat.le_refl _, Nat.le_refl _⟩
    all_goals rfl
  · refine wp_iload_n (n := 1) K dX2_outcome_0 rfl rfl ?_
    refine wp_tswIn (a := 25) K dX2_outcome_1 (tgt := 93) ⟨by decide, by decide⟩ (by decide) (by decide) (off := 92) rfl (by decide) ?_
    refine wp_lload_n (n := 94) K dX2_outcome_93 rfl rfl ?_
    refine wp_lload (n := 96) K dX2_outcome_94 rfl rfl ?_
    refine wp_lsub (n := 97) K dX2_outcome_96 rfl ?_
    refine ret_l K dX2_outcome_97 ?_ rfl ?_ ⟨Nat.le_refl _, Nat.le_refl _⟩
    all_goals rfl
  · refine wp_iload_n (n := 1) K dX2_outcome_0 rfl rfl ?_
    refine wp_tswIn (a := 26) K dX2_outcome_1 (tgt := 98) ⟨by decide, by decide⟩ (by decide) (by decide) (off := 97) rfl (by decide) ?_
    refine wp_lload_n (n := 99) K dX2_outcome_98 rfl rfl ?_
    refine wp_lload (n := 101) K dX2_outcome_99 rfl rfl ?_
    refine wp_lmul (n := 102) K dX2_outcome_101 rfl ?_
    refine ret_l K dX2_outcome_102 ?_ rfl ?_ ⟨Nat.le_refl _, Nat.le_refl _⟩
    all_goals rfl
  · refine wp_iload_n (n := 1) K dX2_outcome_0 rfl rfl ?_
    refine wp_tswIn (a := 27) K dX2_outcome_1 (tgt := 103) ⟨by decide, by decide⟩ (by decide) (by decide) (off := 102) rfl (by decide) ?_
    refine wp_lload (n := 105) K dX2_outcome_103 rfl rfl ?_
    refine wp_lconst (n := 106) (a := 0) K dX2_outcome_105 rfl rfl ?_
    refine wp_lcmp (n := 107) K dX2_outcome_106 rfl ?_
    refine wp_if_ne (n := 110) K dX2_outcome_107 rfl (tgt := 114) (by decide) (lcmp_r _ _) (fun c107 => ?_) (fun c107 => ?_)
    · refine wp_lload_n (n := 115) K dX2_outcome_114 rfl rfl ?_
      refine wp_lload (n := 117) K dX2_outcome_115 rfl rfl ?_
      refine wp_ldiv (n := 118) K dX2_outcome_117 rfl (by rw [w2]; exact fun e => c107 (lcmp_eq.mpr (by rw [w2, w0]; exact e))) ?_
      refine ret_l K dX2_outcome_118 ?_ rfl ?_ ⟨Nat.le_refl _, Nat.le_refl _⟩
      · have hb0 : b ≠ 0 := fun e => c107 (lcmp_eq.mpr (by rw [w2, w0]; exact e))
        show bldiv a b = _
        rw [bldiv_v (by omega) (by omega)]
        unfold outF; rw [if_neg (by decide), if_neg (by decide), if_neg (by decide), if_pos rfl, if_neg hb0]
      · rfl
    · refine wp_lconst (n := 111) (a := 0) K dX2_outcome_110 rfl rfl ?_
      refine wp_goto K dX2_outcome_111 (tgt := 118) (by decide) ?_
      refine ret_l K dX2_outcome_118 ?_ rfl ?_ ⟨Nat.le_refl _, Nat.le_refl _⟩
      · have hb0 := lcmp_eq.mp c107
        rw [w2, w0] at hb0
        unfold outF; rw [if_neg (by decide), if_neg (by decide), if_neg (by decide), if_pos rfl, if_pos hb0]
      · rfl
  · refine wp_iload_n (n := 1) K dX2_outcome_0 rfl rfl ?_
    refine wp_tswIn (a := 20) K dX2_outcome_1 (tgt := 119) ⟨by decide, by decide⟩ (by decide) (by decide) (off := 118) rfl (by decide) ?_
    refine wp_lload_n (n := 120) K dX2_outcome_119 rfl rfl ?_
    refine wp_lload (n := 122) K dX2_outcome_120 rfl rfl ?_
    refine wp_lcmp (n := 123) K dX2_outcome_122 rfl ?_
    refine wp_if_ge (n := 126) K dX2_outcome_123 rfl (tgt := 130) (by decide) (lcmp_r _ _) (fun c123 => ?_) (fun c123 => ?_)
    · refine wp_lconst (n := 131) (a := 0) K dX2_outcome_130 rfl rfl ?_
      refine ret_l K dX2_outcome_131 ?_ rfl ?_ ⟨Nat.le_refl _, Nat.le_refl _⟩
      · show (0 : Int) = bI (askF 10 a b)
        unfold askF
        simp only [Int.reduceEq, if_false, if_true, reduceIte]
        have q := lcmp_ge.mp c123; rw [w1, w2] at q; exact bI_f (by omega)
      · rfl
    · refine wp_lconst (n := 127) (a := 1) K dX2_outcome_126 rfl rfl ?_
      refine wp_goto K dX2_outcome_127 (tgt := 131) (by decide) ?_
      refine ret_l K dX2_outcome_131 ?_ rfl ?_ ⟨Nat.le_refl _, Nat.le_refl _⟩
      · show (1 : Int) = bI (askF 10 a b)
        unfold askF
        simp only [Int.reduceEq, if_false, if_true, reduceIte]
        have q := lcmp_lt.mp c123; rw [w1, w2] at q; exact bI_t (by omega)
      · rfl
  · refine wp_iload_n (n := 1) K dX2_outcome_0 rfl rfl ?_
    refine wp_tswIn (a := 31) K dX2_outcome_1 (tgt := 132) ⟨by decide, by decide⟩ (by decide) (by decide) (off := 131) rfl (by decide) ?_
    refine wp_lload_n (n := 133) K dX2_outcome_132 rfl rfl ?_
    refine wp_lload (n := 135) K dX2_outcome_133 rfl rfl ?_
    refine wp_lcmp (n := 136) K dX2_outcome_135 rfl ?_
    refine wp_if_gt (n := 139) K dX2_outcome_136 rfl (tgt := 143) (by decide) (lcmp_r _ _) (fun c136 => ?_) (fun c136 => ?_)
    · refine wp_lconst (n := 144) (a := 0) K dX2_outcome_143 rfl rfl ?_
      refine ret_l K dX2_outcome_144 ?_ rfl ?_ ⟨Nat.le_refl _, Nat.le_refl _⟩
      · show (0 : Int) = bI (askF 11 a b)
        unfold askF
        simp only [Int.reduceEq, if_false, if_true, reduceIte]
        have q := lcmp_gt.mp c136; rw [w1, w2] at q; exact bI_f (by omega)
      · rfl
    · refine wp_lconst (n := 140) (a := 1) K dX2_outcome_139 rfl rfl ?_
      refine wp_goto K dX2_outcome_140 (tgt := 144) (by decide) ?_
      refine ret_l K dX2_outcome_144 ?_ rfl ?_ ⟨Nat.le_refl _, Nat.le_refl _⟩
      · show (1 : Int) = bI (askF 11 a b)
        unfold askF
        simp only [Int.reduceEq, if_false, if_true, reduceIte]
        have q := lcmp_le.mp c136; rw [w1, w2] at q; exact bI_t (by omega)
      · rfl
  · refine wp_iload_n (n := 1) K dX2_outcome_0 rfl rfl ?_
    refine wp_tswIn (a := 21) K dX2_outcome_1 (tgt := 145) ⟨by decide, by decide⟩ (by decide) (by decide) (off := 144) rfl (by decide) ?_
    refine wp_lload_n (n := 146) K dX2_outcome_145 rfl rfl ?_
    refine wp_lload (n := 148) K dX2_outcome_146 rfl rfl ?_
    refine wp_lcmp (n := 149) K dX2_outcome_148 rfl ?_
    refine wp_if_le (n := 152) K dX2_outcome_149 rfl (tgt := 156) (by decide) (lcmp_r _ _) (fun c149 => ?_) (fun c149 => ?_)
    · refine wp_lconst (n := 157) (a := 0) K dX2_outcome_156 rfl rfl ?_
      refine ret_l K dX2_outcome_157 ?_ rfl ?_ ⟨Nat.le_refl _, Nat.le_refl _⟩
      · show (0 : Int) = bI (askF 12 a b)
        unfold askF
        simp only [Int.reduceEq, if_false, if_true, reduceIte]
        have q := lcmp_le.mp c149; rw [w1, w2] at q; exact bI_f (by omega)
      · rfl
    · refine wp_lconst (n := 153) (a := 1) K dX2_outcome_152 rfl rfl ?_
      refine wp_goto K dX2_outcome_153 (tgt := 157) (by decide) ?_
      refine ret_l K dX2_outcome_157 ?_ rfl ?_ ⟨Nat.le_refl _, Nat.le_refl _⟩
      · show (1 : Int) = bI (askF 12 a b)
        unfold askF
        simp only [Int.reduceEq, if_false, if_true, reduceIte]
        have q := lcmp_gt.mp c149; rw [w1, w2] at q; exact bI_t (by omega)
      · rfl
  · refine wp_iload_n (n := 1) K dX2_outcome_0 rfl rfl ?_
    refine wp_tswIn (a := 32) K dX2_outcome_1 (tgt := 158) ⟨by decide, by decide⟩ (by decide) (by decide) (off := 157) rfl (by decide) ?_
    refine wp_lload_n (n := 159) K dX2_outcome_158 rfl rfl ?_
    refine wp_lload (n := 161) K dX2_outcome_159 rfl rfl ?_
    refine wp_lcmp (n := 162) K dX2_outcome_161 rfl ?_
    refine wp_if_lt (n := 165) K dX2_outcome_162 rfl (tgt := 169) (by decide) (lcmp_r _ _) (fun c162 => ?_) (fun c162 => ?_)
    · refine wp_lconst (n := 170) (a := 0) K dX2_outcome_169 rfl rfl ?_
      refine ret_l K dX2_outcome_170 ?_ rfl ?_ ⟨Nat.le_refl _, Nat.le_refl _⟩
      · show (0 : Int) = bI (askF 13 a b)
        unfold askF
        simp only [Int.reduceEq, if_false, if_true, reduceIte]
        have q := lcmp_lt.mp c162; rw [w1, w2] at q; exact bI_f (by omega)
      · rfl
    · refine wp_lconst (n := 166) (a := 1) K dX2_outcome_165 rfl rfl ?_
      refine wp_goto K dX2_outcome_166 (tgt := 170) (by decide) ?_
      refine ret_l K dX2_outcome_170 ?_ rfl ?_ ⟨Nat.le_refl _, Nat.le_refl _⟩
      · show (1 : Int) = bI (askF 13 a b)
        unfold askF
        simp only [Int.reduceEq, if_false, if_true, reduceIte]
        have q := lcmp_ge.mp c162; rw [w1, w2] at q; exact bI_t (by omega)
      · rfl
  · refine wp_iload_n (n := 1) K dX2_outcome_0 rfl rfl ?_
    refine wp_tswIn (a := 22) K dX2_outcome_1 (tgt := 171) ⟨by decide, by decide⟩ (by decide) (by decide) (off := 170) rfl (by decide) ?_
    refine wp_lload_n (n := 172) K dX2_outcome_171 rfl rfl ?_
    refine wp_lload (n := 174) K dX2_outcome_172 rfl rfl ?_
    refine wp_lcmp (n := 175) K dX2_outcome_174 rfl ?_
    refine wp_if_ne (n := 178) K dX2_outcome_175 rfl (tgt := 182) (by decide) (lcmp_r _ _) (fun c175 => ?_) (fun c175 => ?_)
    · refine wp_lconst (n := 183) (a := 0) K dX2_outcome_182 rfl rfl ?_
      refine ret_l K dX2_outcome_183 ?_ rfl ?_ ⟨Nat.le_refl _, Nat.le_refl _⟩
      · show (0 : Int) = bI (askF 14 a b)
        unfold askF
        simp only [Int.reduceEq, if_false, if_true, reduceIte]
        exact bI_f (fun e => c175 (lcmp_eq.mpr (by rw [w1, w2]; exact e)))
      · rfl
    · refine wp_lconst (n := 179) (a := 1) K dX2_outcome_178 rfl rfl ?_
      refine wp_goto K dX2_outcome_179 (tgt := 183) (by decide) ?_
      refine ret_l K dX2_outcome_183 ?_ rfl ?_ ⟨Nat.le_refl _, Nat.le_refl _⟩
      · show (1 : Int) = bI (askF 14 a b)
        unfold askF
        simp only [Int.reduceEq, if_false, if_true, reduceIte]
        have q := lcmp_eq.mp c175; rw [w1, w2] at q; exact bI_t q
      · rfl
  · refine wp_iload_n (n := 1) K dX2_outcome_0 rfl rfl ?_
    refine wp_tswIn (a := 23) K dX2_outcome_1 (tgt := 184) ⟨by decide, by decide⟩ (by decide) (by decide) (off := 183) rfl (by decide) ?_
    refine wp_lload_n (n := 185) K dX2_outcome_184 rfl rfl ?_
    refine wp_lload (n := 187) K dX2_outcome_185 rfl rfl ?_
    refine wp_lcmp (n := 188) K dX2_outcome_187 rfl ?_
    refine wp_if_eq (n := 191) K dX2_outcome_188 rfl (tgt := 195) (by decide) (lcmp_r _ _) (fun c188 => ?_) (fun c188 => ?_)
    · refine wp_lconst (n := 196) (a := 0) K dX2_outcome_195 rfl rfl ?_
      refine ret_l K dX2_outcome_196 ?_ rfl ?_ ⟨Nat.le_refl _, Nat.le_refl _⟩
      · show (0 : Int) = bI (askF 15 a b)
        unfold askF
        simp only [Int.reduceEq, if_false, if_true, reduceIte]
        have q := lcmp_eq.mp c188; rw [w1, w2] at q; exact bI_f (fun e => e q)
      · rfl
    · refine wp_lconst (n := 192) (a := 1) K dX2_outcome_191 rfl rfl ?_
      refine wp_goto K dX2_outcome_192 (tgt := 196) (by decide) ?_
      refine ret_l K dX2_outcome_196 ?_ rfl ?_ ⟨Nat.le_refl _, Nat.le_refl _⟩
      · show (1 : Int) = bI (askF 15 a b)
        unfold askF
        simp only [Int.reduceEq, if_false, if_true, reduceIte]
        exact bI_t (fun e => c188 (lcmp_eq.mpr (by rw [w1, w2]; exact e)))
      · rfl
  · refine wp_iload_n (n := 1) K dX2_outcome_0 rfl rfl ?_
    refine wp_tswIn (a := 16) K dX2_outcome_1 (tgt := 197) ⟨by decide, by decide⟩ (by decide) (by decide) (off := 196) rfl (by decide) ?_
    refine wp_lload_n (n := 198) K dX2_outcome_197 rfl rfl ?_
    refine wp_lload (n := 200) K dX2_outcome_198 rfl rfl ?_
    refine wp_land (n := 201) K dX2_outcome_200 rfl ?_
    refine ret_l K dX2_outcome_201 ?_ rfl ?_ ⟨Nat.le_refl _, Nat.le_refl _⟩
    · obtain ⟨q1, q2⟩ := (show (a = 0 ∨ a = 1) ∧ (b = 0 ∨ b = 1) by omega)
      exact (bland01 a b q1 q2).1
    · rfl
  · refine wp_iload_n (n := 1) K dX2_outcome_0 rfl rfl ?_
    refine wp_tswIn (a := 15) K dX2_outcome_1 (tgt := 202) ⟨by decide, by decide⟩ (by decide) (by decide) (off := 201) rfl (by decide) ?_
    refine wp_lload_n (n := 203) K dX2_outcome_202 rfl rfl ?_
    refine wp_lload (n := 205) K dX2_outcome_203 rfl rfl ?_
    refine wp_lor (n := 206) K dX2_outcome_205 rfl ?_
    refine ret_l K dX2_outcome_206 ?_ rfl ?_ ⟨Nat.le_refl _, Nat.le_refl _⟩
    · obtain ⟨q1, q2⟩ := (show (a = 0 ∨ a = 1) ∧ (b = 0 ∨ b = 1) by omega)
      exact (bland01 a b q1 q2).2
    · rfl
