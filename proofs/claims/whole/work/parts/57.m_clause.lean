/-! a clause, of the reference -/
section ST
variable {K : Nat → Nat} {V : Nat → Int} {t f so : Nat} {pl : List Int} {c : List (Int × Int)} {cm : Int} {no : Nat} {an od : Bool} {fr : Nat} {cR : Nat → Int} {nc on : Nat}
theorem s0_e (h : K t = 41) : stp K V (cf 0 t f so pl c cm no an od fr cR nc on) = cf 9 t 0 0 [] c 0 0 false false 0 cR nc on := by
  show (if K t = 41 then _ else _) = _
  rw [if_pos h]; rfl
theorem s0_1 (h : K t ≠ 41) (h1 : ¬ (8 ≤ K t ∧ K t ≤ 13)) : stp K V (cf 0 t f so pl c cm no an od fr cR nc on) = flt t 1 cR nc on := by
  show (if K t = 41 then _ else if ¬ (8 ≤ K t ∧ K t ≤ 13) then _ else _) = _
  rw [if_neg h, if_pos h1]; rfl
theorem s0_4 (h1 : 8 ≤ K t ∧ K t ≤ 13) (h2 : K t ≤ 10 ∧ on / 2 ^ (K t - 8) % 2 = 1) : stp K V (cf 0 t f so pl c cm no an od fr cR nc on) = flt t 4 cR nc on := by
  show (if K t = 41 then _ else if ¬ (8 ≤ K t ∧ K t ≤ 13) then _ else if K t ≤ 10 ∧ on / 2 ^ (K t - 8) % 2 = 1 then _ else _) = _
  rw [if_neg (by omega), if_neg (fun q => q h1), if_pos h2]; rfl
theorem s0_6 (h1 : 8 ≤ K t ∧ K t ≤ 13) (h2 : ¬ (K t ≤ 10 ∧ on / 2 ^ (K t - 8) % 2 = 1)) (h3 : nc = 24) : stp K V (cf 0 t f so pl c cm no an od fr cR nc on) = flt t 6 cR nc on := by
  show (if K t = 41 then _ else if ¬ (8 ≤ K t ∧ K t ≤ 13) then _ else if K t ≤ 10 ∧ on / 2 ^ (K t - 8) % 2 = 1 then _ else if nc = 24 then _ else _) = _
  rw [if_neg (by omega), if_neg (fun q => q h1), if_neg h2, if_pos h3]; rfl
def bgM (s : Nat) : Nat := if s = 0 then 2 else if s ≤ 2 then 1 else 7
def onF (on s : Nat) : Nat := if s ≤ 2 then on + 2 ^ s else on
theorem s0_y {s : Nat} (hs : s ≤ 5) (h1 : K t = s + 8) (h2 : ¬ (s ≤ 2 ∧ on / 2 ^ s % 2 = 1)) (h3 : nc ≠ 24) : stp K V (cf 0 t f so pl c cm no an od fr cR nc on) = cf (bgM s) (t + 1) 0 s [] c 0 0 false false c.length (up cR (3 * nc) (s : Int)) nc (onF on s) := by
  show (if K t = 41 then _ else if ¬ (8 ≤ K t ∧ K t ≤ 13) then _ else if K t ≤ 10 ∧ on / 2 ^ (K t - 8) % 2 = 1 then _ else if nc = 24 then _ else cf (if K t = 8 then 2 else if K t ≤ 10 then 1 else 7) (t + 1) 0 (K t - 8) [] c 0 0 false false c.length (up cR (3 * nc) ((K t : Int) - 8)) nc (if K t ≤ 10 then on + 2 ^ (K t - 8) else on)) = _
  have e1 : K t - 8 = s := by omega
  have e2 : (K t : Int) - 8 = (s : Int) := by omega
  have e3 : (if K t = 8 then 2 else if K t ≤ 10 then 1 else 7) = bgM s := by
    unfold bgM
    by_cases q : s = 0
    · rw [if_pos q, if_pos (by omega)]
    · rw [if_neg q, if_neg (by omega)]
      by_cases q2 : s ≤ 2
      · rw [if_pos q2, if_pos (by omega)]
      · rw [if_neg q2, if_neg (by omega)]
  have e4 : (if K t ≤ 10 then on + 2 ^ (K t - 8) else on) = onF on s := by
    unfold onF; rw [e1]
    by_cases q : s ≤ 2
    · rw [if_pos q, if_pos (by omega)]
    · rw [if_neg q, if_neg (by omega)]
  rw [if_neg (by omega), if_neg (fun q => q (by omega)), if_neg (by rw [e1]; intro q; exact h2 ⟨by omega, q.2⟩), if_neg h3, e1, e2]
  rw [e1] at e4
  rw [e3, e4]
theorem s6_n (h : K t ≠ 30) : stp K V (cf 6 t f so pl c cm no an od fr cR nc on) = flt t 1 cR nc on := by
  show (if K t = 30 then _ else _) = _
  rw [if_neg h]; rfl
theorem s6_y (h : K t = 30) : stp K V (cf 6 t f so pl c cm no an od fr cR nc on) = cf 0 (t + 1) 0 0 [] c 0 0 false false 0 (if so < 3 then up (up cR (3 * nc + 1) (fr : Int)) (3 * nc + 2) (c.length : Int) else cR) (nc + 1) on := by
  show (if K t = 30 then _ else _) = _
  rw [if_pos h]; rfl
end ST
/-- rows of the clauses -/
def CW (r : Nat → Int) (t0 : Nat) (cR : Nat → Int) (nc : Nat) : Prop := ∀ k, k < nc → r (t0 + 1 + 3 * k) = cR (3 * k) ∧ r (t0 + 1 + 3 * k + 1) = cR (3 * k + 1) ∧ (cR (3 * k) ≠ 3 → cR (3 * k) ≠ 4 → r (t0 + 1 + 3 * k + 2) = cR (3 * k + 2))
def TP (b : Nat → Int) (n t0 : Nat) (M : MT) (t : Nat) (c : List (Int × Int)) (cR : Nat → Int) (nc on : Nat) : Prop := AT b n M t ∧ (M 77 12 = t0 ∧ M 77 14 = c.length ∧ CR (cs M t0) c) ∧ M 77 18 = 0 ∧ M 77 21 = (on : Int) ∧ M 80 t0 = (nc : Int) ∧ CW (M 80) t0 cR nc
def FRT (t0 : Nat) (M M1 : MT) : Prop := (∀ j, (j < 7 ∨ j = 12 ∨ j = 13 ∨ j = 15 ∨ 22 ≤ j) → M1 77 j = M 77 j) ∧ (∀ j, j < t0 → M1 80 j = M 80 j)
theorem FRT.trans {t0 : Nat} {M M1 M2 : MT} (h : FRT t0 M M1) (h' : FRT t0 M1 M2) : FRT t0 M M2 := ⟨fun j a => (h'.1 j a).trans (h.1 j a), fun j a => (h'.2 j a).trans (h.2 j a)⟩
theorem FRN.t {t0 : Nat} {M M1 : MT} (h : FRN t0 M M1) : FRT t0 M M1 := ⟨fun j a => h.1 j (by omega), fun j a => h.2 j (by omega)⟩
theorem bit_o : ∀ on, on < 8 → ∀ s, s < 3 → ¬ (on / 2 ^ s % 2 = 1) → on ||| 2 ^ s = on + 2 ^ s ∧ on + 2 ^ s < 8 := by decide
/-- within a clause, behind its word -/
def BD (b : Nat → Int) (n t0 : Nat) (M : MT) (t : Nat) (s : Nat) (c : List (Int × Int)) (cR : Nat → Int) (nc on : Nat) : Prop := AT b n M t ∧ (M 77 12 = t0 ∧ M 77 14 = c.length ∧ CR (cs M t0) c) ∧ M 77 18 = 0 ∧ M 77 20 = (s : Int) ∧ M 77 21 = (on : Int) ∧ M 80 t0 = (nc : Int) ∧ CW (M 80) t0 cR nc ∧ M 80 (t0 + 1 + 3 * nc) = (s : Int) ∧ cR (3 * nc) = (s : Int)

/-- the clause's end -/
theorem cl_end {X : XT} {S : ST} {M M3 : MT} {F : Int → MT → Prop} (K : Ok E1 X yX12_clause cX12_clause 6 (some .int) rm_X12_clause (Qe [77, 80, 82] S M F) S) {b : Nat → Int} {n t0 t3 s : Nat} {c3 : List (Int × Int)} {cR3 : Nat → Int} {nc on fr : Nat} (hok : okTp b n) (ht0 : t0 ≤ 2040) (hs : s ≤ 5) (hnc : nc < 24) (hB : BD b n t0 M3 t3 s c3 cR3 nc on) (hdeed : 3 ≤ s → M3 80 (t0 + 1 + 3 * nc + 1) = cR3 (3 * nc + 1) ∧ (s = 5 → M3 80 (t0 + 1 + 3 * nc + 2) = cR3 (3 * nc + 2))) (hc3 : c3.length ≤ 300) (hfr : fr ≤ 300)
    (hfa : ∀ a, a ∉ [77, 80, 82] → M3 a = M a)
    (kn : KT b n t3 ≠ 30 → ∀ M4, FRT t0 M3 M4 → M4 77 8 = (BT b n t3 : Int) → F 1 M4)
    (ky : KT b n t3 = 30 → ∀ M4, FRT t0 M3 M4 → TP b n t0 M4 (t3 + 1) c3 (if s < 3 then up (up cR3 (3 * nc + 1) (fr : Int)) (3 * nc + 2) (c3.length : Int) else cR3) (nc + 1) on → F 0 M4) (l5 : Value) : Wp E1 X 144 [.ref 77, .int (z (s : Int)), .int (z (nc : Int)), .int (z ((t0 + 1 + 3 * nc : Nat) : Int)), .int (z (fr : Int)), l5] [.int (z 0)] S M3 := by
  obtain ⟨hA, ⟨h12, h14, hCR⟩, h18, h20, h21, htx, hCW, hx, hcx⟩ := hB
  have hT := hA.2.2.2.2
  have hTr := hT.r
  have tail : ∀ (T4 : Nat → Int) (l5 : Value), T4 t0 = nc → CW (up T4 t0 ((nc : Int) + 1)) t0 (if s < 3 then up (up cR3 (3 * nc + 1) (fr : Int)) (3 * nc + 2) (c3.length : Int) else cR3) (nc + 1) → (∀ j, t0 + 75 ≤ j → T4 j = M3 80 j) → (∀ j, j < t0 → T4 j = M3 80 j) → Wp E1 X 181 [.ref 77, .int (z (s : Int)), .int (z (nc : Int)), .int (z ((t0 + 1 + 3 * nc : Nat) : Int)), .int (z (fr : Int)), l5] [] S (up M3 80 T4) := by
    intro T4 l5 q1 q2 q3 q4
    refine wp_aload_n (n := 182) K dX12_clause_181 rfl rfl ?_
    refine wp_getF (n := 185) K dX12_clause_182 rfl fl_X12_16 rfl (liS rfl) rfl rfl ?_
    refine wp_aload_n (n := 186) K dX12_clause_185 rfl rfl ?_
    refine wp_getI (n := 189) K dX12_clause_186 rfl fl_X12_129 rfl (liS rfl) rfl ?_
    try simp only [up_same, up_up, up_ne, ne_eq, Nat.reduceEqDiff, not_false_eq_true, Int.reduceToNat, Int.toNat_natCast]
    rw [h12]
    refine wp_dup2 (n := 190) K dX12_clause_189 rfl rfl rfl ?_
    refine wp_iald (n := 191) K dX12_clause_190 rfl rfl (liS rfl) ⟨by omega, by omega, by omega⟩ ?_
    try simp only [up_same, up_up, up_ne, ne_eq, Nat.reduceEqDiff, not_false_eq_true, Int.reduceToNat, Int.toNat_natCast]
    refine wp_iconst (n := 192) K dX12_clause_191 rfl ?_
    refine wp_iadd (n := 193) K dX12_clause_192 rfl ?_
    refine wp_iast (n := 194) K dX12_clause_193 rfl rfl (liS rfl) (fun _ => rfl) ⟨by omega, by omega, by omega⟩ ?_
    try simp only [up_same, up_up, up_ne, ne_eq, Nat.reduceEqDiff, not_false_eq_true, Int.reduceToNat, Int.toNat_natCast]
    rw [q1]
    have fr5 : FRT t0 M3 (up M3 80 (up T4 t0 ((nc : Int) + 1))) := ⟨fun j _ => rfl, fun j hj => by rw [up_same, up_ne _ _ (by omega)]; exact q4 j hj⟩
    have a5 : ∀ a, a ∉ [77, 80, 82] → up M3 80 (up T4 t0 ((nc : Int) + 1)) a = M a := fun a ha => by rw [up_ne _ _ (fun q => ha (by rw [q]; decide))]; exact hfa a ha
    refine wp_aload_n (n := 195) K dX12_clause_194 rfl rfl ?_
    refine wp_getI (n := 198) K dX12_clause_195 rfl fl_X12_104 rfl (liS rfl) rfl ?_
    try simp only [up_same, up_up, up_ne, ne_eq, Nat.reduceEqDiff, not_false_eq_true, Int.reduceToNat, Int.toNat_natCast]
    refine wp_bipush (n := 200) K dX12_clause_198 rfl rfl ?_
    refine wp_icmp_eq (n := 203) K dX12_clause_200 rfl (tgt := 205) (by decide) ⟨by omega, by omega⟩ ⟨by omega, by omega⟩ (fun c200 => ?_) (fun c200 => ?_)
    rotate_left
    · have n30 : KT b n t3 ≠ 30 := fun q => c200 ((hT.is (c := 59) (by decide)).mpr q)
      refine wp_iconst (n := 204) K dX12_clause_203 rfl ?_
      refine ret_ei K dX12_clause_204 rfl ?_ ?_ ⟨Nat.le_refl _, Nat.le_refl _⟩
      · exact a5
      · exact kn n30 _ fr5 hA.2.2.2.1
    have e30 : KT b n t3 = 30 := (hT.is (j := 30) (by decide)).mp c200
    have A5 : AT b n (up M3 80 (up T4 t0 ((nc : Int) + 1))) t3 := hA.of rfl (fun j _ _ => rfl)
    refine wp_aload_n (n := 206) K dX12_clause_205 rfl rfl ?_
    refine wp_invV_qn (n := 209) K dX12_clause_206 rfl cf_X12_160 (m_next hok _ _ A5) rfl rfl rfl (liS rfl) rfl (by decide) ⟨Nat.le_refl _, Nat.le_refl _⟩ (Nat.le_of_ble_eq_true rfl) (fun M206 hM206 gM206 => ?_)
    try simp only [up_same, up_up, up_ne, ne_eq, Nat.reduceEqDiff, not_false_eq_true, Int.reduceToNat, Int.toNat_natCast]
    obtain ⟨A6, o6⟩ := A5.nx hM206 gM206
    have ot : ∀ j, j ≠ 7 → j ≠ 8 → j ≠ 9 → j ≠ 10 → j ≠ 11 → M206 77 j = M3 77 j := fun j p1 p2 p3 p4 p5 => o6 j p1 p2 p3 p4 p5
    have tx : M206 80 = up T4 t0 ((nc : Int) + 1) := by rw [hM206 80 (by decide), up_same]
    refine wp_iconst (n := 210) K dX12_clause_209 rfl ?_
    refine ret_ei K dX12_clause_210 rfl ?_ ?_ ⟨Nat.le_refl _, Nat.le_refl _⟩
    · intro a ha
      rw [hM206 a (fun q => ha (by simp only [List.mem_cons, List.mem_nil_iff, or_false] at q ⊢; omega))]
      exact a5 a ha
    · refine ky e30 _ (fr5.trans ⟨fun j hj => o6 j (by omega) (by omega) (by omega) (by omega) (by omega), fun j hj => by rw [tx, up_same]⟩) ⟨A6, ⟨?_, ?_, ?_⟩, ?_, ?_, ?_, ?_⟩
      · rw [ot 12 (by decide) (by decide) (by decide) (by decide) (by decide)]; exact h12
      · rw [ot 14 (by decide) (by decide) (by decide) (by decide) (by decide)]; exact h14
      · refine hCR.of (fun j hj => ?_)
        unfold cs
        rw [tx, up_ne _ _ (by omega)]
        exact q3 _ (by omega)
      · rw [ot 18 (by decide) (by decide) (by decide) (by decide) (by decide)]; exact h18
      · rw [ot 21 (by decide) (by decide) (by decide) (by decide) (by decide)]; exact h21
      · rw [tx, up_same]; omega
      · rw [tx]; exact q2
  refine wp_istore (n := 146) K dX12_clause_144 rfl (by decide) ?_
  refine wp_iload (n := 148) K dX12_clause_146 rfl rfl ?_
  refine wp_if_eq (n := 151) K dX12_clause_148 rfl (tgt := 154) (by decide) ⟨by omega, by omega⟩ (fun c148 => ?_) (fun c148 => ?_)
  rotate_left
  · exact absurd rfl c148
  refine wp_iload_n (n := 155) K dX12_clause_154 rfl rfl ?_
  refine wp_iconst (n := 156) K dX12_clause_155 rfl ?_
  refine wp_icmp_ge (n := 159) K dX12_clause_156 rfl (tgt := 181) (by decide) ⟨by omega, by omega⟩ ⟨by omega, by omega⟩ (fun c156 => ?_) (fun c156 => ?_)
  · have e := tail (M3 80) (.int (z 0)) htx ?_ (fun j _ => rfl) (fun j _ => rfl)
    · rw [up_self] at e
      exact e
    · rw [if_neg (by omega)]
      obtain ⟨d1, d2⟩ := hdeed (by omega)
      intro k hk
      rw [up_ne _ _ (by omega), up_ne _ _ (by omega), up_ne _ _ (by omega)]
      rcases Nat.lt_or_ge k nc with q | q
      · exact hCW k q
      · have ek : k = nc := by omega
        rw [ek]
        exact ⟨hx.trans hcx.symm, d1, fun p1 p2 => d2 (by rw [hcx] at p1 p2; omega)⟩
  · refine wp_aload_n (n := 160) K dX12_clause_159 rfl rfl ?_
    refine wp_getF (n := 163) K dX12_clause_160 rfl fl_X12_16 rfl (liS rfl) rfl rfl ?_
    refine wp_iload_n (n := 164) K dX12_clause_163 rfl rfl ?_
    refine wp_iconst (n := 165) K dX12_clause_164 rfl ?_
    refine wp_iadd (n := 166) K dX12_clause_165 rfl ?_
    refine wp_iload (n := 168) K dX12_clause_166 rfl rfl ?_
    rw [show ((t0 + 1 + 3 * nc : Nat) : Int) + 1 = ((t0 + 1 + 3 * nc + 1 : Nat) : Int) by omega]
    refine wp_iast (n := 169) K dX12_clause_168 rfl rfl (liS rfl) (fun _ => rfl) ⟨by omega, by omega, by omega⟩ ?_
    try simp only [up_same, up_up, up_ne, ne_eq, Nat.reduceEqDiff, not_false_eq_true, Int.reduceToNat, Int.toNat_natCast]
    refine wp_aload_n (n := 170) K dX12_clause_169 rfl rfl ?_
    refine wp_getF (n := 173) K dX12_clause_170 rfl fl_X12_16 rfl (liS rfl) rfl rfl ?_
    refine wp_iload_n (n := 174) K dX12_clause_173 rfl rfl ?_
    refine wp_iconst (n := 175) K dX12_clause_174 rfl ?_
    refine wp_iadd (n := 176) K dX12_clause_175 rfl ?_
    refine wp_aload_n (n := 177) K dX12_clause_176 rfl rfl ?_
    refine wp_getI (n := 180) K dX12_clause_177 rfl fl_X12_132 rfl (liS rfl) rfl ?_
    try simp only [up_same, up_up, up_ne, ne_eq, Nat.reduceEqDiff, not_false_eq_true, Int.reduceToNat, Int.toNat_natCast]
    rw [show ((t0 + 1 + 3 * nc : Nat) : Int) + 2 = ((t0 + 1 + 3 * nc + 2 : Nat) : Int) by omega]
    refine wp_iast (n := 181) K dX12_clause_180 rfl rfl (liS rfl) (fun _ => rfl) ⟨by omega, by omega, by omega⟩ ?_
    try simp only [up_same, up_up, up_ne, ne_eq, Nat.reduceEqDiff, not_false_eq_true, Int.reduceToNat, Int.toNat_natCast]
    rw [h14]
    refine tail _ (.int (z 0)) (by rw [up_ne _ _ (by omega), up_ne _ _ (by omega)]; exact htx) ?_ (fun j hj => by rw [up_ne _ _ (by omega), up_ne _ _ (by omega)]) (fun j hj => by rw [up_ne _ _ (by omega), up_ne _ _ (by omega)])
    rw [if_pos (by omega)]
    intro k hk
    rw [up_ne (k := t0) _ _ (by omega), up_ne (k := t0) _ _ (by omega), up_ne (k := t0) _ _ (by omega)]
    rcases Nat.lt_or_ge k nc with q | q
    · have := hCW k q
      rw [up_ne _ _ (by omega), up_ne _ _ (by omega), up_ne _ _ (by omega), up_ne _ _ (by omega), up_ne _ _ (by omega), up_ne _ _ (by omega), up_ne _ _ (by omega), up_ne _ _ (by omega), up_ne _ _ (by omega), up_ne _ _ (by omega), up_ne _ _ (by omega), up_ne _ _ (by omega)]
      exact this
    · have ek : k = nc := by omega
      rw [ek]
      refine ⟨?_, ?_, fun _ _ => ?_⟩
      · rw [up_ne _ _ (by omega), up_ne _ _ (by omega), up_ne _ _ (by omega), up_ne _ _ (by omega)]; exact hx.trans hcx.symm
      · rw [up_ne _ _ (by omega), up_same, up_ne _ _ (by omega), up_same]
      · rw [up_same, up_same]
