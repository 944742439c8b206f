/-- a row of the steps: what is kept -/
def stepR (σ : Nat → Int) (i : Nat) : Int := if i = 0 then σ 1 else if i = 1 then σ 3 else if i % 2 = 0 then σ (70 + 3 * ((i - 2) / 2)) else σ (71 + 3 * ((i - 3) / 2))
def shiftA (σ : Nat → Int) (k : Nat) : Nat → Int := fun j => if 120 ≤ j ∧ j < 120 + k then σ (j + 22) else σ j
def keep1 (σ : Nat → Int) : Nat → Int := if σ 6 = 30 then up (shiftA σ 638) 6 29 else σ
def rowT (σ : Nat → Int) (x n : Nat) : Nat → Int := fun j => if x ≤ j ∧ j < x + n then stepR σ (j - x) else σ j
def keepA (σ : Nat → Int) : Nat → Int := up (rowT (keep1 σ) (120 + 22 * (keep1 σ 6).toNat) 22) 6 (keep1 σ 6 + 1)
theorem shiftA_s (σ : Nat → Int) (k : Nat) : up (shiftA σ k) (120 + k) (σ (142 + k)) = shiftA σ (k + 1) := by
  funext j; unfold up shiftA
  by_cases h : j = 120 + k
  · subst h; rw [if_pos rfl, if_pos (by omega), show 120 + k + 22 = 142 + k by omega]
  · rw [if_neg h]
    by_cases h2 : 120 ≤ j ∧ j < 120 + k
    · rw [if_pos h2, if_pos (by omega)]
    · rw [if_neg h2, if_neg (by omega)]
theorem shiftA_lo (σ : Nat → Int) (k j : Nat) (h : j < 120 ∨ 120 + k ≤ j) : shiftA σ k j = σ j := by unfold shiftA; rw [if_neg (by omega)]
theorem rowT_s (σ : Nat → Int) (x n : Nat) (v : Int) (hv : v = stepR σ n) : up (rowT σ x n) (x + n) v = rowT σ x (n + 1) := by
  subst hv
  funext j; unfold up rowT
  by_cases h : j = x + n
  · subst h; rw [if_pos rfl, if_pos (by omega), show x + n - x = n by omega]
  · rw [if_neg h]
    by_cases h2 : x ≤ j ∧ j < x + n
    · rw [if_pos h2, if_pos (by omega)]
    · rw [if_neg h2, if_neg (by omega)]
theorem rowT_lo (σ : Nat → Int) (x n j : Nat) (h : j < x) : rowT σ x n j = σ j := by unfold rowT; rw [if_neg (by omega)]
theorem rowT_0 (σ : Nat → Int) (x : Nat) : rowT σ x 0 = σ := by funext j; unfold rowT; rw [if_neg (by omega)]

theorem m_keep2 {X : XT} {S : ST} {M : MT} (σ : Nat → Int) (h6 : 0 ≤ σ 6 ∧ σ 6 < 30) (K : Ok E1 X yX12_keep cX12_keep 3 none rm_X12_keep (Pn S (up M 78 (up (rowT σ (120 + 22 * (σ 6).toNat) 22) 6 (σ 6 + 1)))) S) (l1 : Value) : Wp E1 X 57 [.ref 77, l1, mkV] [] S (up M 78 σ) := by
  have hx : ((120 : Int) + 22 * σ 6).toNat = 120 + 22 * (σ 6).toNat := by omega
  obtain ⟨q, hq⟩ : ∃ q : Nat, σ 6 = q := ⟨(σ 6).toNat, by omega⟩
  rw [hq, Int.toNat_natCast] at K
  refine wp_bipush (n := 59) K dX12_keep_57 rfl rfl ?_
  refine wp_bipush (n := 61) K dX12_keep_59 rfl rfl ?_
  refine wp_aload_n (n := 62) K dX12_keep_61 rfl rfl ?_
  refine wp_getF (n := 65) K dX12_keep_62 rfl fl_X12_7 rfl (liS rfl) rfl rfl ?_
  refine wp_bipush (n := 67) K dX12_keep_65 rfl rfl ?_
  refine wp_iald (n := 68) K dX12_keep_67 rfl rfl (liS rfl) ⟨by omega, by omega, by omega⟩ ?_
  try simp only [up_same, up_up, Int.reduceToNat, Int.toNat_natCast]
  refine wp_imul (n := 69) K dX12_keep_68 rfl ?_
  refine wp_iadd (n := 70) K dX12_keep_69 rfl ?_
  rw [hq]
  refine wp_istore_n (n := 71) K dX12_keep_70 rfl (by decide) ?_
  have ex : (120 : Int) + 22 * (q : Int) = ((120 + 22 * q : Nat) : Int) := by omega
  rw [ex]
  have hb : 120 + 22 * q + 22 ≤ 780 := by omega
  generalize hxx : 120 + 22 * q = x at K ex hb ⊢
  have hx1 : 120 ≤ x := by omega
  refine wp_aload_n (n := 72) K dX12_keep_71 rfl rfl ?_
  refine wp_getF (n := 75) K dX12_keep_72 rfl fl_X12_7 rfl (liS rfl) rfl rfl ?_
  refine wp_iload_n (n := 76) K dX12_keep_75 rfl rfl ?_
  refine wp_aload_n (n := 77) K dX12_keep_76 rfl rfl ?_
  refine wp_getF (n := 80) K dX12_keep_77 rfl fl_X12_7 rfl (liS rfl) rfl rfl ?_
  refine wp_iconst (n := 81) K dX12_keep_80 rfl ?_
  refine wp_iald (n := 82) K dX12_keep_81 rfl rfl (liS rfl) ⟨by omega, by omega, by omega⟩ ?_
  try simp only [up_same, up_up, Int.reduceToNat, Int.toNat_natCast]
  refine wp_iast (n := 83) K dX12_keep_82 rfl rfl (liS rfl) (fun _ => rfl) ⟨by omega, by omega, by omega⟩ ?_
  try simp only [up_same, up_up, Int.reduceToNat, Int.toNat_natCast]
  rw [show up σ x (σ 1) = rowT σ x 1 from by rw [← rowT_s σ x 0 (σ 1) rfl, rowT_0]; rfl]
  refine wp_aload_n (n := 84) K dX12_keep_83 rfl rfl ?_
  refine wp_getF (n := 87) K dX12_keep_84 rfl fl_X12_7 rfl (liS rfl) rfl rfl ?_
  refine wp_iload_n (n := 88) K dX12_keep_87 rfl rfl ?_
  refine wp_iconst (n := 89) K dX12_keep_88 rfl ?_
  refine wp_iadd (n := 90) K dX12_keep_89 rfl ?_
  refine wp_aload_n (n := 91) K dX12_keep_90 rfl rfl ?_
  refine wp_getF (n := 94) K dX12_keep_91 rfl fl_X12_7 rfl (liS rfl) rfl rfl ?_
  refine wp_iconst (n := 95) K dX12_keep_94 rfl ?_
  refine wp_iald (n := 96) K dX12_keep_95 rfl rfl (liS rfl) ⟨by omega, by omega, by omega⟩ ?_
  try simp only [up_same, up_up, Int.reduceToNat, Int.toNat_natCast]
  refine wp_iast (n := 97) K dX12_keep_96 rfl rfl (liS rfl) (fun _ => rfl) ⟨by omega, by omega, by omega⟩ ?_
  try simp only [up_same, up_up, Int.reduceToNat, Int.toNat_natCast]
  rw [show ((x : Int) + 1).toNat = x + 1 by omega, rowT_lo _ _ _ _ (by omega), rowT_s σ x 1 (σ 3) rfl]
  refine wp_iconst (n := 98) K dX12_keep_97 rfl ?_
  refine wp_istore_n (n := 99) K dX12_keep_98 rfl (by decide) ?_
  refine dn 10 (Q := fun h => Wp E1 X 99 [.ref 77, .int (z (x : Int)), .int (z (h : Int))] [] S (up M 78 (rowT σ x (2 + 2 * h)))) (fun h hh ih => ?_) 0 (by omega)
  refine wp_iload_n (n := 100) K dX12_keep_99 rfl rfl ?_
  refine wp_bipush (n := 102) K dX12_keep_100 rfl rfl ?_
  refine wp_icmp_ge (n := 105) K dX12_keep_102 rfl (tgt := 155) (by decide) ⟨by omega, by omega⟩ ⟨by omega, by omega⟩ (fun c102 => ?_) (fun c102 => ?_)
  · refine wp_aload_n (n := 156) K dX12_keep_155 rfl rfl ?_
    refine wp_getF (n := 159) K dX12_keep_156 rfl fl_X12_7 rfl (liS rfl) rfl rfl ?_
    refine wp_bipush (n := 161) K dX12_keep_159 rfl rfl ?_
    refine wp_dup2 (n := 162) K dX12_keep_161 rfl rfl rfl ?_
    refine wp_iald (n := 163) K dX12_keep_162 rfl rfl (liS rfl) ⟨by omega, by omega, by omega⟩ ?_
    try simp only [up_same, up_up, Int.reduceToNat, Int.toNat_natCast]
    refine wp_iconst (n := 164) K dX12_keep_163 rfl ?_
    refine wp_iadd (n := 165) K dX12_keep_164 rfl ?_
    refine wp_iast (n := 166) K dX12_keep_165 rfl rfl (liS rfl) (fun _ => rfl) ⟨by omega, by omega, by omega⟩ ?_
    try simp only [up_same, up_up, Int.reduceToNat, Int.toNat_natCast]
    refine ret_n K dX12_keep_166 rfl ?_ ⟨Nat.le_refl _, Nat.le_refl _⟩
    rw [show h = 10 by omega, rowT_lo _ _ _ _ (by omega), hq]
  · refine wp_aload_n (n := 106) K dX12_keep_105 rfl rfl ?_
    refine wp_getF (n := 109) K dX12_keep_106 rfl fl_X12_7 rfl (liS rfl) rfl rfl ?_
    refine wp_iload_n (n := 110) K dX12_keep_109 rfl rfl ?_
    refine wp_iconst (n := 111) K dX12_keep_110 rfl ?_
    refine wp_iadd (n := 112) K dX12_keep_111 rfl ?_
    refine wp_iconst (n := 113) K dX12_keep_112 rfl ?_
    refine wp_iload_n (n := 114) K dX12_keep_113 rfl rfl ?_
    refine wp_imul (n := 115) K dX12_keep_114 rfl ?_
    refine wp_iadd (n := 116) K dX12_keep_115 rfl ?_
    refine wp_aload_n (n := 117) K dX12_keep_116 rfl rfl ?_
    refine wp_getF (n := 120) K dX12_keep_117 rfl fl_X12_7 rfl (liS rfl) rfl rfl ?_
    refine wp_iload_n (n := 121) K dX12_keep_120 rfl rfl ?_
    refine wp_invS_i (n := 124) K dX12_keep_121 rfl cf_X12_77 (m_houseAt _ _ _) rfl rfl (by decide) ⟨Nat.le_refl _, Nat.le_refl _⟩ (Nat.le_of_ble_eq_true rfl) ?_
    refine wp_iald (n := 125) K dX12_keep_124 rfl rfl (liS rfl) ⟨by omega, by omega, by omega⟩ ?_
    try simp only [up_same, up_up, Int.reduceToNat, Int.toNat_natCast]
    refine wp_iast (n := 126) K dX12_keep_125 rfl rfl (liS rfl) (fun _ => rfl) ⟨by omega, by omega, by omega⟩ ?_
    try simp only [up_same, up_up, Int.reduceToNat, Int.toNat_natCast]
    rw [show ((x : Int) + 2 + 2 * (h : Int)).toNat = x + (2 + 2 * h) by omega, show (70 + 3 * (h : Int)).toNat = 70 + 3 * h by omega, rowT_lo _ _ _ _ (by omega), rowT_s σ x _ (σ (70 + 3 * h)) (by unfold stepR; rw [if_neg (by omega), if_neg (by omega), if_pos (by omega), show (2 + 2 * h - 2) / 2 = h by omega])]
    refine wp_aload_n (n := 127) K dX12_keep_126 rfl rfl ?_
    refine wp_getF (n := 130) K dX12_keep_127 rfl fl_X12_7 rfl (liS rfl) rfl rfl ?_
    refine wp_iload_n (n := 131) K dX12_keep_130 rfl rfl ?_
    refine wp_iconst (n := 132) K dX12_keep_131 rfl ?_
    refine wp_iadd (n := 133) K dX12_keep_132 rfl ?_
    refine wp_iconst (n := 134) K dX12_keep_133 rfl ?_
    refine wp_iload_n (n := 135) K dX12_keep_134 rfl rfl ?_
    refine wp_imul (n := 136) K dX12_keep_135 rfl ?_
    refine wp_iadd (n := 137) K dX12_keep_136 rfl ?_
    refine wp_aload_n (n := 138) K dX12_keep_137 rfl rfl ?_
    refine wp_getF (n := 141) K dX12_keep_138 rfl fl_X12_7 rfl (liS rfl) rfl rfl ?_
    refine wp_iload_n (n := 142) K dX12_keep_141 rfl rfl ?_
    refine wp_invS_i (n := 145) K dX12_keep_142 rfl cf_X12_77 (m_houseAt _ _ _) rfl rfl (by decide) ⟨Nat.le_refl _, Nat.le_refl _⟩ (Nat.le_of_ble_eq_true rfl) ?_
    refine wp_iconst (n := 146) K dX12_keep_145 rfl ?_
    refine wp_iadd (n := 147) K dX12_keep_146 rfl ?_
    refine wp_iald (n := 148) K dX12_keep_147 rfl rfl (liS rfl) ⟨by omega, by omega, by omega⟩ ?_
    try simp only [up_same, up_up, Int.reduceToNat, Int.toNat_natCast]
    refine wp_iast (n := 149) K dX12_keep_148 rfl rfl (liS rfl) (fun _ => rfl) ⟨by omega, by omega, by omega⟩ ?_
    try simp only [up_same, up_up, Int.reduceToNat, Int.toNat_natCast]
    rw [show ((x : Int) + 3 + 2 * (h : Int)).toNat = x + (2 + 2 * h + 1) by omega, show (70 + 3 * (h : Int) + 1).toNat = 71 + 3 * h by omega, rowT_lo _ _ _ _ (by omega), rowT_s σ x _ (σ (71 + 3 * h)) (by unfold stepR; rw [if_neg (by omega), if_neg (by omega), if_neg (by omega), show (2 + 2 * h + 1 - 3) / 2 = h by omega])]
    refine wp_iinc (n := 152) K dX12_keep_149 rfl rfl (by decide) ?_
    refine wp_goto K dX12_keep_152 (tgt := 99) (by decide) ?_
    exact ih (by omega)
theorem m_keep (S : ST) (M : MT) (h6 : 0 ≤ M 78 6 ∧ M 78 6 ≤ 30) : Ct E1 yX12_keep cX12_keep 3 none rm_X12_keep [.ref 77] S M (Pn S (up M 78 (keepA (M 78)))) := by
  refine Ct.mk [.ref 77, mkV, mkV] (by decide) rfl (Nat.le_of_ble_eq_true rfl) (fun X K => ?_)
  unfold keepA keep1 at K
  refine wp_aload_n (n := 1) K dX12_keep_0 rfl rfl ?_
  refine wp_getF (n := 4) K dX12_keep_1 rfl fl_X12_7 rfl (liS rfl) rfl rfl ?_
  refine wp_bipush (n := 6) K dX12_keep_4 rfl rfl ?_
  refine wp_iald (n := 7) K dX12_keep_6 rfl rfl (liS rfl) ⟨by omega, by omega, by omega⟩ ?_
  try simp only [up_same, up_up, Int.reduceToNat, Int.toNat_natCast]
  refine wp_bipush (n := 9) K dX12_keep_7 rfl rfl ?_
  refine wp_icmp_ne (n := 12) K dX12_keep_9 rfl (tgt := 57) (by decide) ⟨by omega, by omega⟩ ⟨by omega, by omega⟩ (fun c9 => ?_) (fun c9 => ?_)
  · rw [if_neg c9] at K
    have := m_keep2 (M := M) (M 78) (by omega) K mkV
    rw [up_self] at this
    exact this
  · rw [if_pos c9] at K
    refine wp_iconst (n := 13) K dX12_keep_12 rfl ?_
    refine wp_istore_n (n := 14) K dX12_keep_13 rfl (by decide) ?_
    have e0 : M = up M 78 (shiftA (M 78) 0) := by
      rw [show shiftA (M 78) 0 = M 78 from by funext j; unfold shiftA; rw [if_neg (by omega)], up_self]
    rw [e0]
    refine dn 638 (Q := fun k => Wp E1 X 14 [.ref 77, .int (z (k : Int)), mkV] [] S (up M 78 (shiftA (M 78) k))) (fun k hk ih => ?_) 0 (by omega)
    refine wp_iload_n (n := 15) K dX12_keep_14 rfl rfl ?_
    refine wp_sipush (n := 18) K dX12_keep_15 rfl rfl ?_
    refine wp_icmp_ge (n := 21) K dX12_keep_18 rfl (tgt := 46) (by decide) ⟨by omega, by omega⟩ ⟨by omega, by omega⟩ (fun c18 => ?_) (fun c18 => ?_)
    · have hk : k = 638 := by omega
      subst hk
      refine wp_aload_n (n := 47) K dX12_keep_46 rfl rfl ?_
      refine wp_getF (n := 50) K dX12_keep_47 rfl fl_X12_7 rfl (liS rfl) rfl rfl ?_
      refine wp_bipush (n := 52) K dX12_keep_50 rfl rfl ?_
      refine wp_dup2 (n := 53) K dX12_keep_52 rfl rfl rfl ?_
      refine wp_iald (n := 54) K dX12_keep_53 rfl rfl (liS rfl) ⟨by omega, by omega, by omega⟩ ?_
      try simp only [up_same, up_up, Int.reduceToNat, Int.toNat_natCast]
      refine wp_iconst (n := 55) K dX12_keep_54 rfl ?_
      refine wp_isub (n := 56) K dX12_keep_55 rfl ?_
      refine wp_iast (n := 57) K dX12_keep_56 rfl rfl (liS rfl) (fun _ => rfl) ⟨by omega, by omega, by omega⟩ ?_
      try simp only [up_same, up_up, Int.reduceToNat, Int.toNat_natCast]
      rw [show shiftA (M 78) 638 6 = M 78 6 from shiftA_lo _ _ _ (by omega), c9]
      refine m_keep2 (M := M) (up (shiftA (M 78) 638) 6 29) (by rw [up_same]; omega) K (.int (z (638 : Nat)))
    · refine wp_aload_n (n := 22) K dX12_keep_21 rfl rfl ?_
      refine wp_getF (n := 25) K dX12_keep_22 rfl fl_X12_7 rfl (liS rfl) rfl rfl ?_
      refine wp_bipush (n := 27) K dX12_keep_25 rfl rfl ?_
      refine wp_iload_n (n := 28) K dX12_keep_27 rfl rfl ?_
      refine wp_iadd (n := 29) K dX12_keep_28 rfl ?_
      refine wp_aload_n (n := 30) K dX12_keep_29 rfl rfl ?_
      refine wp_getF (n := 33) K dX12_keep_30 rfl fl_X12_7 rfl (liS rfl) rfl rfl ?_
      refine wp_sipush (n := 36) K dX12_keep_33 rfl rfl ?_
      refine wp_iload_n (n := 37) K dX12_keep_36 rfl rfl ?_
      refine wp_iadd (n := 38) K dX12_keep_37 rfl ?_
      refine wp_iald (n := 39) K dX12_keep_38 rfl rfl (liS rfl) ⟨by omega, by omega, by omega⟩ ?_
      try simp only [up_same, up_up, Int.reduceToNat, Int.toNat_natCast]
      refine wp_iast (n := 40) K dX12_keep_39 rfl rfl (liS rfl) (fun _ => rfl) ⟨by omega, by omega, by omega⟩ ?_
      try simp only [up_same, up_up, Int.reduceToNat, Int.toNat_natCast]
      rw [show (120 + (k : Int)).toNat = 120 + k by omega, show (142 + (k : Int)).toNat = 142 + k by omega, shiftA_lo _ _ _ (by omega), shiftA_s]
      refine wp_iinc (n := 43) K dX12_keep_40 rfl rfl (by decide) ?_
      refine wp_goto K dX12_keep_43 (tgt := 14) (by decide) ?_
      exact ih (by omega)


def undoT (σ : Nat → Int) (x n : Nat) : Nat → Int := fun j => if 70 ≤ j ∧ j < 70 + 3 * n ∧ (j - 70) % 3 ≠ 2 then (if (j - 70) % 3 = 0 then σ (x + 2 + 2 * ((j - 70) / 3)) else σ (x + 3 + 2 * ((j - 70) / 3))) else σ j
def undo1 (σ : Nat → Int) : Nat → Int := up (up σ 6 (σ 6 - 1)) 1 (σ (120 + 22 * (σ 6 - 1).toNat))
def undoA (σ : Nat → Int) : Nat → Int := undoT (undo1 σ) (120 + 22 * (σ 6 - 1).toNat) (σ (121 + 22 * (σ 6 - 1).toNat)).toNat
theorem undoT_0 (σ : Nat → Int) (x : Nat) : undoT σ x 0 = σ := by funext j; unfold undoT; rw [if_neg (by omega)]
theorem undoT_s (σ : Nat → Int) (x n : Nat) (hn : n < 10) (hx : 120 ≤ x) : up (up (undoT σ x n) (70 + 3 * n) (σ (x + 2 + 2 * n))) (71 + 3 * n) (σ (x + 3 + 2 * n)) = undoT σ x (n + 1) := by
  funext j; unfold up undoT
  by_cases h1 : j = 71 + 3 * n
  · subst h1; rw [if_pos rfl, if_pos (by omega), if_neg (by omega), show (71 + 3 * n - 70) / 3 = n by omega]
  · rw [if_neg h1]
    by_cases h2 : j = 70 + 3 * n
    · subst h2; rw [if_pos rfl, if_pos (by omega), if_pos (by omega), show (70 + 3 * n - 70) / 3 = n by omega]
    · rw [if_neg h2]
      by_cases h3 : 70 ≤ j ∧ j < 70 + 3 * n ∧ (j - 70) % 3 ≠ 2
      · have h4 : 70 ≤ j ∧ j < 70 + 3 * (n + 1) ∧ (j - 70) % 3 ≠ 2 := by omega
        rw [if_pos h3, if_pos h4]
      · rw [if_neg h3, if_neg (by omega)]
theorem undoT_lo (σ : Nat → Int) (x n j : Nat) (h : j < 70 ∨ 70 + 3 * n ≤ j) : undoT σ x n j = σ j := by unfold undoT; rw [if_neg (by omega)]
theorem m_undo (S : ST) (M : MT) (h6 : 0 ≤ M 78 6 ∧ M 78 6 ≤ 30) (hs : ∀ i : Nat, i < 30 → 0 ≤ M 78 (121 + 22 * i) ∧ M 78 (121 + 22 * i) ≤ 10) : Ct E1 yX12_undo cX12_undo 3 (some .int) rm_X12_undo [.ref 77] S M (Pi (if M 78 6 = 0 then -1 else M 78 6 - 1) S (if M 78 6 = 0 then M else up M 78 (undoA (M 78)))) := by
  refine Ct.mk [.ref 77, mkV, mkV] (by decide) rfl (Nat.le_of_ble_eq_true rfl) (fun X K => ?_)
  refine wp_aload_n (n := 1) K dX12_undo_0 rfl rfl ?_
  refine wp_getF (n := 4) K dX12_undo_1 rfl fl_X12_7 rfl (liS rfl) rfl rfl ?_
  refine wp_bipush (n := 6) K dX12_undo_4 rfl rfl ?_
  refine wp_iald (n := 7) K dX12_undo_6 rfl rfl (liS rfl) ⟨by omega, by omega, by omega⟩ ?_
  try simp only [up_same, up_up, Int.reduceToNat, Int.toNat_natCast]
  refine wp_if_ne (n := 10) K dX12_undo_7 rfl (tgt := 12) (by decide) ⟨by omega, by omega⟩ (fun c7 => ?_) (fun c7 => ?_)
  · rw [if_neg c7, if_neg c7] at K
    unfold undoA undo1 at K
    obtain ⟨q, hq⟩ : ∃ q : Nat, M 78 6 = q + 1 := ⟨(M 78 6 - 1).toNat, by omega⟩
    have hq2 : M 78 6 - 1 = q := by omega
    have hc := hs q (by omega)
    obtain ⟨n, hn⟩ : ∃ n : Nat, M 78 (121 + 22 * q) = n := ⟨(M 78 (121 + 22 * q)).toNat, by omega⟩
    have hn10 : n ≤ 10 := by omega
    rw [hq2, Int.toNat_natCast, hn, Int.toNat_natCast] at K
    refine wp_aload_n (n := 13) K dX12_undo_12 rfl rfl ?_
    refine wp_getF (n := 16) K dX12_undo_13 rfl fl_X12_7 rfl (liS rfl) rfl rfl ?_
    refine wp_bipush (n := 18) K dX12_undo_16 rfl rfl ?_
    refine wp_dup2 (n := 19) K dX12_undo_18 rfl rfl rfl ?_
    refine wp_iald (n := 20) K dX12_undo_19 rfl rfl (liS rfl) ⟨by omega, by omega, by omega⟩ ?_
    try simp only [up_same, up_up, Int.reduceToNat, Int.toNat_natCast]
    refine wp_iconst (n := 21) K dX12_undo_20 rfl ?_
    refine wp_isub (n := 22) K dX12_undo_21 rfl ?_
    refine wp_iast (n := 23) K dX12_undo_22 rfl rfl (liS rfl) (fun _ => rfl) ⟨by omega, by omega, by omega⟩ ?_
    try simp only [up_same, up_up, Int.reduceToNat, Int.toNat_natCast]
    refine wp_bipush (n := 25) K dX12_undo_23 rfl rfl ?_
    refine wp_bipush (n := 27) K dX12_undo_25 rfl rfl ?_
    refine wp_aload_n (n := 28) K dX12_undo_27 rfl rfl ?_
    refine wp_getF (n := 31) K dX12_undo_28 rfl fl_X12_7 rfl (liS rfl) rfl rfl ?_
    refine wp_bipush (n := 33) K dX12_undo_31 rfl rfl ?_
    refine wp_iald (n := 34) K dX12_undo_33 rfl rfl (liS rfl) ⟨by omega, by omega, by omega⟩ ?_
    try simp only [up_same, up_up, Int.reduceToNat, Int.toNat_natCast]
    refine wp_imul (n := 35) K dX12_undo_34 rfl ?_
    refine wp_iadd (n := 36) K dX12_undo_35 rfl ?_
    rw [hq2, show (120 : Int) + 22 * (q : Int) = ((120 + 22 * q : Nat) : Int) by omega]
    have hx0 : 121 + 22 * q = 120 + 22 * q + 1 := by omega
    rw [hx0] at hn
    generalize hxx : 120 + 22 * q = x at K hn ⊢
    have hb : x + 22 ≤ 780 ∧ 120 ≤ x := by omega
    have u6 : ∀ j : Nat, 10 ≤ j → up (M 78) 6 (q : Int) j = M 78 j := fun j hj => up_ne _ _ (by omega)
    refine wp_istore_n (n := 37) K dX12_undo_36 rfl (by decide) ?_
    refine wp_aload_n (n := 38) K dX12_undo_37 rfl rfl ?_
    refine wp_getF (n := 41) K dX12_undo_38 rfl fl_X12_7 rfl (liS rfl) rfl rfl ?_
    refine wp_iconst (n := 42) K dX12_undo_41 rfl ?_
    refine wp_aload_n (n := 43) K dX12_undo_42 rfl rfl ?_
    refine wp_getF (n := 46) K dX12_undo_43 rfl fl_X12_7 rfl (liS rfl) rfl rfl ?_
    refine wp_iload_n (n := 47) K dX12_undo_46 rfl rfl ?_
    refine wp_iald (n := 48) K dX12_undo_47 rfl rfl (liS rfl) ⟨by omega, by omega, by omega⟩ ?_
    try simp only [up_same, up_up, Int.reduceToNat, Int.toNat_natCast]
    refine wp_iast (n := 49) K dX12_undo_48 rfl rfl (liS rfl) (fun _ => rfl) ⟨by omega, by omega, by omega⟩ ?_
    try simp only [up_same, up_up, Int.reduceToNat, Int.toNat_natCast]
    rw [u6 x (by omega)]
    generalize hσ : up (up (M 78) 6 (q : Int)) 1 (M 78 x) = σ at K ⊢
    have hσx : ∀ j : Nat, 10 ≤ j → σ j = M 78 j := fun j hj => by rw [← hσ, up_ne _ _ (by omega), up_ne _ _ (by omega)]
    have hσ6 : σ 6 = q := by rw [← hσ]; rfl
    refine wp_iconst (n := 50) K dX12_undo_49 rfl ?_
    refine wp_istore_n (n := 51) K dX12_undo_50 rfl (by decide) ?_
    rw [show σ = undoT σ x 0 from (undoT_0 σ x).symm]
    refine dn n (Q := fun h => Wp E1 X 51 [.ref 77, .int (z (x : Int)), .int (z (h : Int))] [] S (up M 78 (undoT σ x h))) (fun h hh ih => ?_) 0 (by omega)
    have hxn : undoT σ x h ((x : Int) + 1).toNat = n := by rw [show ((x : Int) + 1).toNat = x + 1 by omega, undoT_lo _ _ _ _ (by omega), hσx _ (by omega), hn]
    refine wp_iload_n (n := 52) K dX12_undo_51 rfl rfl ?_
    refine wp_aload_n (n := 53) K dX12_undo_52 rfl rfl ?_
    refine wp_getF (n := 56) K dX12_undo_53 rfl fl_X12_7 rfl (liS rfl) rfl rfl ?_
    refine wp_iload_n (n := 57) K dX12_undo_56 rfl rfl ?_
    refine wp_iconst (n := 58) K dX12_undo_57 rfl ?_
    refine wp_iadd (n := 59) K dX12_undo_58 rfl ?_
    refine wp_iald (n := 60) K dX12_undo_59 rfl rfl (liS rfl) ⟨by omega, by omega, by omega⟩ ?_
    try simp only [up_same, up_up, Int.reduceToNat, Int.toNat_natCast]
    rw [hxn]
    refine wp_icmp_ge (n := 63) K dX12_undo_60 rfl (tgt := 113) (by decide) ⟨by omega, by omega⟩ ⟨by omega, by omega⟩ (fun c60 => ?_) (fun c60 => ?_)
    · refine wp_aload_n (n := 114) K dX12_undo_113 rfl rfl ?_
      refine wp_getF (n := 117) K dX12_undo_114 rfl fl_X12_7 rfl (liS rfl) rfl rfl ?_
      refine wp_bipush (n := 119) K dX12_undo_117 rfl rfl ?_
      refine wp_iald (n := 120) K dX12_undo_119 rfl rfl (liS rfl) ⟨by omega, by omega, by omega⟩ ?_
      try simp only [up_same, up_up, Int.reduceToNat, Int.toNat_natCast]
      refine ret_i K dX12_undo_120 ?_ rfl ?_ ⟨Nat.le_refl _, Nat.le_refl _⟩
      · rw [undoT_lo _ _ _ _ (by omega), hσ6]
      · rw [show h = n by omega]
    · refine wp_aload_n (n := 64) K dX12_undo_63 rfl rfl ?_
      refine wp_getF (n := 67) K dX12_undo_64 rfl fl_X12_7 rfl (liS rfl) rfl rfl ?_
      refine wp_iload_n (n := 68) K dX12_undo_67 rfl rfl ?_
      refine wp_invS_i (n := 71) K dX12_undo_68 rfl cf_X12_77 (m_houseAt _ _ _) rfl rfl (by decide) ⟨Nat.le_refl _, Nat.le_refl _⟩ (Nat.le_of_ble_eq_true rfl) ?_
      refine wp_aload_n (n := 72) K dX12_undo_71 rfl rfl ?_
      refine wp_getF (n := 75) K dX12_undo_72 rfl fl_X12_7 rfl (liS rfl) rfl rfl ?_
      refine wp_iload_n (n := 76) K dX12_undo_75 rfl rfl ?_
      refine wp_iconst (n := 77) K dX12_undo_76 rfl ?_
      refine wp_iadd (n := 78) K dX12_undo_77 rfl ?_
      refine wp_iconst (n := 79) K dX12_undo_78 rfl ?_
      refine wp_iload_n (n := 80) K dX12_undo_79 rfl rfl ?_
      refine wp_imul (n := 81) K dX12_undo_80 rfl ?_
      refine wp_iadd (n := 82) K dX12_undo_81 rfl ?_
      refine wp_iald (n := 83) K dX12_undo_82 rfl rfl (liS rfl) ⟨by omega, by omega, by omega⟩ ?_
      try simp only [up_same, up_up, Int.reduceToNat, Int.toNat_natCast]
      refine wp_iast (n := 84) K dX12_undo_83 rfl rfl (liS rfl) (fun _ => rfl) ⟨by omega, by omega, by omega⟩ ?_
      try simp only [up_same, up_up, Int.reduceToNat, Int.toNat_natCast]
      rw [show (70 + 3 * (h : Int)).toNat = 70 + 3 * h by omega, show ((x : Int) + 2 + 2 * (h : Int)).toNat = x + 2 + 2 * h by omega, undoT_lo _ _ _ _ (by omega)]
      refine wp_aload_n (n := 85) K dX12_undo_84 rfl rfl ?_
      refine wp_getF (n := 88) K dX12_undo_85 rfl fl_X12_7 rfl (liS rfl) rfl rfl ?_
      refine wp_iload_n (n := 89) K dX12_undo_88 rfl rfl ?_
      refine wp_invS_i (n := 92) K dX12_undo_89 rfl cf_X12_77 (m_houseAt _ _ _) rfl rfl (by decide) ⟨Nat.le_refl _, Nat.le_refl _⟩ (Nat.le_of_ble_eq_true rfl) ?_
      refine wp_iconst (n := 93) K dX12_undo_92 rfl ?_
      refine wp_iadd (n := 94) K dX12_undo_93 rfl ?_
      refine wp_aload_n (n := 95) K dX12_undo_94 rfl rfl ?_
      refine wp_getF (n := 98) K dX12_undo_95 rfl fl_X12_7 rfl (liS rfl) rfl rfl ?_
      refine wp_iload_n (n := 99) K dX12_undo_98 rfl rfl ?_
      refine wp_iconst (n := 100) K dX12_undo_99 rfl ?_
      refine wp_iadd (n := 101) K dX12_undo_100 rfl ?_
      refine wp_iconst (n := 102) K dX12_undo_101 rfl ?_
      refine wp_iload_n (n := 103) K dX12_undo_102 rfl rfl ?_
      refine wp_imul (n := 104) K dX12_undo_103 rfl ?_
      refine wp_iadd (n := 105) K dX12_undo_104 rfl ?_
      refine wp_iald (n := 106) K dX12_undo_105 rfl rfl (liS rfl) ⟨by omega, by omega, by omega⟩ ?_
      try simp only [up_same, up_up, Int.reduceToNat, Int.toNat_natCast]
      refine wp_iast (n := 107) K dX12_undo_106 rfl rfl (liS rfl) (fun _ => rfl) ⟨by omega, by omega, by omega⟩ ?_
      try simp only [up_same, up_up, Int.reduceToNat, Int.toNat_natCast]
      rw [show (70 + 3 * (h : Int) + 1).toNat = 71 + 3 * h by omega, show ((x : Int) + 3 + 2 * (h : Int)).toNat = x + 3 + 2 * h by omega, up_ne _ _ (by omega), undoT_lo _ _ _ _ (by omega), undoT_s σ x h (by omega) (by omega)]
      refine wp_iinc (n := 110) K dX12_undo_107 rfl rfl (by decide) ?_
      refine wp_goto K dX12_undo_110 (tgt := 51) (by decide) ?_
      exact ih (by omega)
  · rw [if_pos c7, if_pos c7] at K
    refine wp_iconst (n := 11) K dX12_undo_10 rfl ?_
    refine ret_i K dX12_undo_11 ?_ rfl ?_ ⟨Nat.le_refl _, Nat.le_refl _⟩
    all_goals rfl
