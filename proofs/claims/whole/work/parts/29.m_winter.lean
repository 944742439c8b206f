def owT (σ : Nat → Int) : Nat → Nat
  | 0 => 0
  | h + 1 => owT σ h + (if σ (71 + 3 * h) ≠ 0 then 2 ^ h else 0)
theorem owT_lt (σ : Nat → Int) (h : Nat) : owT σ h < 2 ^ h := by
  induction h with
  | zero => exact Nat.zero_lt_one
  | succ h ih => unfold owT; rw [Nat.pow_succ]; split <;> omega
def smT (σ : Nat → Int) (k : Nat) : Nat → Int
  | 0 => 0
  | h + 1 => if k.testBit h = true then smT σ k h + σ (71 + 3 * h) else smT σ k h
def mxT (p : Nat → Int) (k : Nat) : Nat → Int
  | 0 => 0
  | h + 1 => if k.testBit h = true then (if mxT p k h < p (wo k (2 ^ h)) then p (wo k (2 ^ h)) else mxT p k h) else mxT p k h
def ptV (σ p : Nat → Int) (n k : Nat) : Int := mxT p k n + (if smT σ k n = 0 ∧ k ≠ 0 then 1 else 0)
def ptT (σ p : Nat → Int) (n : Nat) : Nat → Nat → Int
  | 0 => p
  | k + 1 => up (ptT σ p n k) k (ptV σ (ptT σ p n k) n k)
theorem smT_r {σ : Nat → Int} (hw : WH σ) (k : Nat) : ∀ h : Nat, h ≤ 10 → -(1000000 * (h : Int)) ≤ smT σ k h ∧ smT σ k h ≤ 1000000 * (h : Int) := by
  intro h
  induction h with
  | zero => intro _; unfold smT; omega
  | succ h ih =>
    intro hh
    have := ih (by omega)
    obtain ⟨-, b, -⟩ := hw.2 h (by omega)
    unfold smT
    split <;> omega
theorem wo_lt {k h : Nat} (hb : k.testBit h = true) : wo k (2 ^ h) < k := by
  rcases Nat.lt_or_eq_of_le (wo_le k (2 ^ h)) with q | q
  · exact q
  · have := wo_bit k (2 ^ h) h
    rw [q, hb, Nat.testBit_two_pow_self] at this
    cases this
theorem mxT_r {p : Nat → Int} {k : Nat} {B : Int} (hB : 0 ≤ B) (hp : ∀ j, j < k → 0 ≤ p j ∧ p j ≤ B) : ∀ h, 0 ≤ mxT p k h ∧ mxT p k h ≤ B := by
  intro h
  induction h with
  | zero => unfold mxT; omega
  | succ h ih =>
    unfold mxT
    split
    · rename_i hb
      have := hp _ (wo_lt hb)
      split <;> omega
    · exact ih
theorem mxT_congr {p q : Nat → Int} {k : Nat} (hp : ∀ j, j < k → p j = q j) : ∀ h, mxT p k h = mxT q k h := by
  intro h
  induction h with
  | zero => rfl
  | succ h ih =>
    unfold mxT
    split
    · rename_i hb; rw [ih, hp _ (wo_lt hb)]
    · exact ih
theorem ptT_r (σ p : Nat → Int) (n : Nat) : ∀ k : Nat, k ≤ 1024 → ∀ j, j < k → 0 ≤ ptT σ p n k j ∧ ptT σ p n k j ≤ k := by
  intro k
  induction k with
  | zero => intro _ j hj; omega
  | succ k ih =>
    intro hk j hj
    have ih := ih (by omega)
    unfold ptT
    by_cases he : j = k
    · subst he
      rw [up_same]
      unfold ptV
      have := mxT_r (p := ptT σ p n j) (k := j) (B := j) (by omega) ih n
      split <;> omega
    · rw [up_ne _ _ he]
      have := ih j (by omega)
      omega

def winF (σ p : Nat → Int) : Int := (cnt 12 (owT σ (σ 3).toNat) : Int) - ptT σ p (σ 3).toNat (2 ^ (σ 3).toNat) (owT σ (σ 3).toNat)
theorem ptT_keep (σ p : Nat → Int) (n : Nat) {j k : Nat} (h : j < k) : ∀ d, ptT σ p n (k + d) j = ptT σ p n k j := by
  intro d
  induction d with
  | zero => rfl
  | succ d ih => rw [← ih]; show up (ptT σ p n (k + d)) (k + d) _ j = _; exact up_ne _ _ (by omega)
theorem m_winter (S : ST) (M : MT) (hw : WH (M 78)) : Ct E1 yX12_winter cX12_winter 6 (some .int) rm_X12_winter [.ref 77] S M (Pi (winF (M 78) (M 90)) S (up M 90 (ptT (M 78) (M 90) (M 78 3).toNat (2 ^ (M 78 3).toNat)))) := by
  have h3 := hw.1
  obtain ⟨N, hN⟩ : ∃ N : Nat, M 78 3 = N := ⟨(M 78 3).toNat, by omega⟩
  have hp : (2 ^ N : Nat) ≤ 1024 := Nat.pow_le_pow_right (n := 2) (by decide) (show N ≤ 10 by omega)
  unfold winF
  rw [hN, Int.toNat_natCast]
  have i1 : ∀ h : Nat, (70 + 3 * (h : Int) + 1).toNat = 71 + 3 * h := fun h => by omega
  refine Ct.mk [.ref 77, mkV, mkV, mkV, mkV, mkV] (by decide) rfl (Nat.le_of_ble_eq_true rfl) (fun X K => ?_)
  refine wp_iconst (n := 1) K dX12_winter_0 rfl ?_
  refine wp_istore_n (n := 2) K dX12_winter_1 rfl (by decide) ?_
  refine wp_iconst (n := 3) K dX12_winter_2 rfl ?_
  refine wp_istore_n (n := 4) K dX12_winter_3 rfl (by decide) ?_
  refine dn N (Q := fun h => Wp E1 X 4 [.ref 77, .int (z (owT (M 78) h : Int)), .int (z (h : Int)), mkV, mkV, mkV] [] S M) (fun h hh ih => ?_) 0 (by omega)
  have ho := owT_lt (M 78) h
  have hph : (2 ^ h : Nat) ≤ 1024 := Nat.pow_le_pow_right (n := 2) (by decide) (show h ≤ 10 by omega)
  refine wp_iload_n (n := 5) K dX12_winter_4 rfl rfl ?_
  refine wp_aload_n (n := 6) K dX12_winter_5 rfl rfl ?_
  refine wp_getF (n := 9) K dX12_winter_6 rfl fl_X12_7 rfl (liS rfl) rfl rfl ?_
  refine wp_iconst (n := 10) K dX12_winter_9 rfl ?_
  refine wp_iald (n := 11) K dX12_winter_10 rfl rfl (liS rfl) ⟨by omega, by omega, by omega⟩ ?_
  try simp only [up_same, up_up, up_ne, ne_eq, Nat.reduceEqDiff, not_false_eq_true, Int.reduceToNat, Int.toNat_natCast]
  rw [hN]
  refine wp_icmp_ge (n := 14) K dX12_winter_11 rfl (tgt := 44) (by decide) ⟨by omega, by omega⟩ ⟨by omega, by omega⟩ (fun c11 => ?_) (fun c11 => ?_)
  · have he : h = N := by omega
    subst he
    generalize hOW : owT (M 78) h = OW at *
    refine wp_iconst (n := 45) K dX12_winter_44 rfl ?_
    refine wp_istore_n (n := 46) K dX12_winter_45 rfl (by decide) ?_
    refine wp_iconst (n := 47) K dX12_winter_46 rfl ?_
    refine wp_istore_n (n := 48) K dX12_winter_47 rfl (by decide) ?_
    have e0 : M = up M 90 (ptT (M 78) (M 90) h 0) := (up_self M 90).symm
    rw [e0]
    refine dn (2 ^ h) (Q := fun k => ∀ (a4 a5 : Value), Wp E1 X 48 [.ref 77, .int (z (OW : Int)), .int (z (if OW < k then (cnt 12 OW : Int) - ptT (M 78) (M 90) h k OW else 0)), .int (z (k : Int)), a4, a5] [] S (up M 90 (ptT (M 78) (M 90) h k))) (fun k hk ihk a4 a5 => ?_) 0 (by omega) mkV mkV
    refine wp_iload_n (n := 49) K dX12_winter_48 rfl rfl ?_
    refine wp_iconst (n := 50) K dX12_winter_49 rfl ?_
    refine wp_aload_n (n := 51) K dX12_winter_50 rfl rfl ?_
    refine wp_getF (n := 54) K dX12_winter_51 rfl fl_X12_7 rfl (liS rfl) rfl rfl ?_
    refine wp_iconst (n := 55) K dX12_winter_54 rfl ?_
    refine wp_iald (n := 56) K dX12_winter_55 rfl rfl (liS rfl) ⟨by omega, by omega, by omega⟩ ?_
    try simp only [up_same, up_up, up_ne, ne_eq, Nat.reduceEqDiff, not_false_eq_true, Int.reduceToNat, Int.toNat_natCast]
    refine wp_ishl (n := 57) K dX12_winter_56 rfl ?_
    rw [hN, bshl_1 (by omega)]
    refine wp_icmp_ge (n := 60) K dX12_winter_57 rfl (tgt := 206) (by decide) ⟨by omega, by omega⟩ ⟨by omega, by omega⟩ (fun c57 => ?_) (fun c57 => ?_)
    · refine wp_iload_n (n := 207) K dX12_winter_206 rfl rfl ?_
      refine ret_i K dX12_winter_207 ?_ rfl ?_ ⟨Nat.le_refl _, Nat.le_refl _⟩
      · rw [show k = 2 ^ h by omega, if_pos ho]
      · rw [show k = 2 ^ h by omega]
    · have hkl : k < 2 ^ h := by omega
      have ihk := ihk hkl
      have hr := ptT_r (M 78) (M 90) h k (by omega)
      generalize hres : (if OW < k then (cnt 12 OW : Int) - ptT (M 78) (M 90) h k OW else 0) = res
      have ihk2 : ∀ (a4 a5 : Value) (res2 : Int), res2 = (if OW < k + 1 then (cnt 12 OW : Int) - ptT (M 78) (M 90) h (k + 1) OW else 0) → Wp E1 X 48 [.ref 77, .int (z (OW : Int)), .int (z res2), .int (z ((k + 1 : Nat) : Int)), a4, a5] [] S (up M 90 (up (ptT (M 78) (M 90) h k) k (ptV (M 78) (ptT (M 78) (M 90) h k) h k))) := fun a4 a5 r2 q => by rw [q]; exact ihk a4 a5
      have hkeep : ∀ v : Int, OW ≠ k → res = (if OW < k + 1 then (cnt 12 OW : Int) - ptT (M 78) (M 90) h (k + 1) OW else 0) := by
        intro v hne
        rw [← hres]
        by_cases q : OW < k
        · rw [if_pos q, if_pos (by omega), ptT_keep _ _ _ q 1]
        · rw [if_neg q, if_neg (by omega)]
      have hself : OW = k → (cnt 12 k : Int) - ptV (M 78) (ptT (M 78) (M 90) h k) h k = (if OW < k + 1 then (cnt 12 OW : Int) - ptT (M 78) (M 90) h (k + 1) OW else 0) := by
        intro hq
        rw [if_pos (by omega), hq]
        show _ = _ - up _ _ _ _
        rw [up_same]
      clear ihk hres
      generalize ptT (M 78) (M 90) h k = p at *
      refine wp_iconst (n := 61) K dX12_winter_60 rfl ?_
      refine wp_istore (n := 63) K dX12_winter_61 rfl (by decide) ?_
      refine wp_aload_n (n := 64) K dX12_winter_63 rfl rfl ?_
      refine wp_getF (n := 67) K dX12_winter_64 rfl fl_X12_55 rfl (liS rfl) rfl rfl ?_
      refine wp_iload_n (n := 68) K dX12_winter_67 rfl rfl ?_
      refine wp_iconst (n := 69) K dX12_winter_68 rfl ?_
      refine wp_iast (n := 70) K dX12_winter_69 rfl rfl (liS rfl) (fun _ => rfl) ⟨by omega, by omega, by omega⟩ ?_
      try simp only [up_same, up_up, up_ne, ne_eq, Nat.reduceEqDiff, not_false_eq_true, Int.reduceToNat, Int.toNat_natCast]
      refine wp_iconst (n := 71) K dX12_winter_70 rfl ?_
      refine wp_istore (n := 73) K dX12_winter_71 rfl (by decide) ?_
      refine dn h (Q := fun j => Wp E1 X 73 [.ref 77, .int (z (OW : Int)), .int (z res), .int (z (k : Int)), .int (z (smT (M 78) k j)), .int (z (j : Int))] [] S (up M 90 (up p k (mxT p k j)))) (fun j hj ihj => ?_) 0 (by omega)
      have hs := smT_r hw k j (by omega)
      have hm := mxT_r (p := p) (k := k) (B := k) (by omega) hr j
      refine wp_iload (n := 75) K dX12_winter_73 rfl rfl ?_
      refine wp_aload_n (n := 76) K dX12_winter_75 rfl rfl ?_
      refine wp_getF (n := 79) K dX12_winter_76 rfl fl_X12_7 rfl (liS rfl) rfl rfl ?_
      refine wp_iconst (n := 80) K dX12_winter_79 rfl ?_
      refine wp_iald (n := 81) K dX12_winter_80 rfl rfl (liS rfl) ⟨by omega, by omega, by omega⟩ ?_
      try simp only [up_same, up_up, up_ne, ne_eq, Nat.reduceEqDiff, not_false_eq_true, Int.reduceToNat, Int.toNat_natCast]
      rw [hN]
      refine wp_icmp_ge (n := 84) K dX12_winter_81 rfl (tgt := 160) (by decide) ⟨by omega, by omega⟩ ⟨by omega, by omega⟩ (fun c81 => ?_) (fun c81 => ?_)
      · have he : j = h := by omega
        subst he
        have fin1 : ∀ v : Int, v = (if smT (M 78) k j = 0 ∧ k ≠ 0 then 1 else 0) → Wp E1 X 181 [.ref 77, .int (z (OW : Int)), .int (z res), .int (z (k : Int)), .int (z (smT (M 78) k j)), .int (z (j : Int))] [.int (z v), .int (z (mxT p k j)), .int (z (k : Int)), .ref 90] S (up M 90 (up p k (mxT p k j))) := by
          intro v hv
          refine wp_iadd (n := 182) K dX12_winter_181 rfl ?_
          refine wp_iast (n := 183) K dX12_winter_182 rfl rfl (liS rfl) (fun _ => rfl) ⟨by omega, by omega, by omega⟩ ?_
          try simp only [up_same, up_up, up_ne, ne_eq, Nat.reduceEqDiff, not_false_eq_true, Int.reduceToNat, Int.toNat_natCast]
          rw [show mxT p k j + v = ptV (M 78) p j k from by unfold ptV; rw [hv]]
          have hpv : 0 ≤ ptV (M 78) p j k ∧ ptV (M 78) p j k ≤ k + 1 := by unfold ptV; split <;> omega
          refine wp_iload_n (n := 184) K dX12_winter_183 rfl rfl ?_
          refine wp_iload_n (n := 185) K dX12_winter_184 rfl rfl ?_
          refine wp_icmp_ne (n := 188) K dX12_winter_185 rfl (tgt := 200) (by decide) ⟨by omega, by omega⟩ ⟨by omega, by omega⟩ (fun c185 => ?_) (fun c185 => ?_)
          · refine wp_iinc (n := 203) K dX12_winter_200 rfl rfl (by decide) ?_
            refine wp_goto K dX12_winter_203 (tgt := 48) (by decide) ?_
            exact ihk2 _ _ _ (hkeep 0 (by omega))
          · have hcl := cnt_le 12 k
            refine wp_iload_n (n := 189) K dX12_winter_188 rfl rfl ?_
            refine wp_invS_i (n := 192) K dX12_winter_189 rfl cf_X12_70 (m_bits _ (by omega) _ _) rfl rfl (by decide) ⟨Nat.le_refl _, Nat.le_refl _⟩ (Nat.le_of_ble_eq_true rfl) ?_
            refine wp_aload_n (n := 193) K dX12_winter_192 rfl rfl ?_
            refine wp_getF (n := 196) K dX12_winter_193 rfl fl_X12_55 rfl (liS rfl) rfl rfl ?_
            refine wp_iload_n (n := 197) K dX12_winter_196 rfl rfl ?_
            refine wp_iald (n := 198) K dX12_winter_197 rfl rfl (liS rfl) ⟨by omega, by omega, by omega⟩ ?_
            try simp only [up_same, up_up, up_ne, ne_eq, Nat.reduceEqDiff, not_false_eq_true, Int.reduceToNat, Int.toNat_natCast]
            refine wp_isub (n := 199) K dX12_winter_198 rfl ?_
            refine wp_istore_n (n := 200) K dX12_winter_199 rfl (by decide) ?_
            refine wp_iinc (n := 203) K dX12_winter_200 rfl rfl (by decide) ?_
            refine wp_goto K dX12_winter_203 (tgt := 48) (by decide) ?_
            exact ihk2 _ _ _ (hself (by omega))
        refine wp_aload_n (n := 161) K dX12_winter_160 rfl rfl ?_
        refine wp_getF (n := 164) K dX12_winter_161 rfl fl_X12_55 rfl (liS rfl) rfl rfl ?_
        refine wp_iload_n (n := 165) K dX12_winter_164 rfl rfl ?_
        refine wp_dup2 (n := 166) K dX12_winter_165 rfl rfl rfl ?_
        refine wp_iald (n := 167) K dX12_winter_166 rfl rfl (liS rfl) ⟨by omega, by omega, by omega⟩ ?_
        try simp only [up_same, up_up, up_ne, ne_eq, Nat.reduceEqDiff, not_false_eq_true, Int.reduceToNat, Int.toNat_natCast]
        refine wp_iload (n := 169) K dX12_winter_167 rfl rfl ?_
        refine wp_if_ne (n := 172) K dX12_winter_169 rfl (tgt := 180) (by decide) ⟨by omega, by omega⟩ (fun c169 => ?_) (fun c169 => ?_)
        · refine wp_iconst (n := 181) K dX12_winter_180 rfl ?_
          exact fin1 0 (by rw [if_neg (fun q => c169 q.1)])
        · refine wp_iload_n (n := 173) K dX12_winter_172 rfl rfl ?_
          refine wp_if_eq (n := 176) K dX12_winter_173 rfl (tgt := 180) (by decide) ⟨by omega, by omega⟩ (fun c173 => ?_) (fun c173 => ?_)
          · refine wp_iconst (n := 181) K dX12_winter_180 rfl ?_
            exact fin1 0 (by rw [if_neg (fun q => by omega)])
          · refine wp_iconst (n := 177) K dX12_winter_176 rfl ?_
            refine wp_goto K dX12_winter_177 (tgt := 181) (by decide) ?_
            exact fin1 1 (by rw [if_pos ⟨c169, by omega⟩])
      · have ihj := ihj (by omega)
        unfold smT mxT at ihj
        refine wp_iload_n (n := 85) K dX12_winter_84 rfl rfl ?_
        refine wp_iload (n := 87) K dX12_winter_85 rfl rfl ?_
        refine wp_invS_i (n := 90) K dX12_winter_87 rfl cf_X12_249 (m_has _ _ (by omega) (by omega) _ _) rfl rfl (by decide) ⟨Nat.le_refl _, Nat.le_refl _⟩ (Nat.le_of_ble_eq_true rfl) ?_
        refine wp_if_ne_b (n := 93) K dX12_winter_90 rfl (tgt := 96) (by decide) (fun c90 => ?_) (fun c90 => ?_)
        · rw [if_pos c90, if_pos c90] at ihj
          have hlt := wo_lt c90
          have hpj : (2 ^ j : Nat) < 1024 := Nat.pow_lt_pow_right (by decide) (show j < 10 by omega)
          have hr2 := hr _ hlt
          have u1 : ∀ v : Int, up p k v (wo k (2 ^ j)) = p (wo k (2 ^ j)) := fun v => up_ne _ _ (by omega)
          obtain ⟨-, wb, -⟩ := hw.2 j (by omega)
          have e1 : band (k : Int) (bxor (bshl 1 (j : Int)) (-1)) = ((wo k (2 ^ j) : Nat) : Int) := by rw [bshl_1 (by omega), bandn_n (by omega) (by omega)]
          refine wp_iload (n := 98) K dX12_winter_96 rfl rfl ?_
          refine wp_aload_n (n := 99) K dX12_winter_98 rfl rfl ?_
          refine wp_getF (n := 102) K dX12_winter_99 rfl fl_X12_7 rfl (liS rfl) rfl rfl ?_
          refine wp_iload (n := 104) K dX12_winter_102 rfl rfl ?_
          refine wp_invS_i (n := 107) K dX12_winter_104 rfl cf_X12_77 (m_houseAt _ _ _) rfl rfl (by decide) ⟨Nat.le_refl _, Nat.le_refl _⟩ (Nat.le_of_ble_eq_true rfl) ?_
          refine wp_iconst (n := 108) K dX12_winter_107 rfl ?_
          refine wp_iadd (n := 109) K dX12_winter_108 rfl ?_
          refine wp_iald (n := 110) K dX12_winter_109 rfl rfl (liS rfl) ⟨by omega, by omega, by omega⟩ ?_
          try simp only [up_same, up_up, up_ne, ne_eq, Nat.reduceEqDiff, not_false_eq_true, Int.reduceToNat, Int.toNat_natCast]
          refine wp_iadd (n := 111) K dX12_winter_110 rfl ?_
          refine wp_istore (n := 113) K dX12_winter_111 rfl (by decide) ?_
          refine wp_aload_n (n := 114) K dX12_winter_113 rfl rfl ?_
          refine wp_getF (n := 117) K dX12_winter_114 rfl fl_X12_55 rfl (liS rfl) rfl rfl ?_
          refine wp_iload_n (n := 118) K dX12_winter_117 rfl rfl ?_
          refine wp_iconst (n := 119) K dX12_winter_118 rfl ?_
          refine wp_iload (n := 121) K dX12_winter_119 rfl rfl ?_
          refine wp_ishl (n := 122) K dX12_winter_121 rfl ?_
          refine wp_iconst (n := 123) K dX12_winter_122 rfl ?_
          refine wp_ixor (n := 124) K dX12_winter_123 rfl ?_
          refine wp_iand (n := 125) K dX12_winter_124 rfl ?_
          rw [i1, e1]
          refine wp_iald (n := 126) K dX12_winter_125 rfl rfl (liS rfl) ⟨by omega, by omega, by omega⟩ ?_
          rw [Int.toNat_natCast, show up M 90 (up p k (mxT p k j)) 90 = up p k (mxT p k j) from rfl, u1]
          refine wp_aload_n (n := 127) K dX12_winter_126 rfl rfl ?_
          refine wp_getF (n := 130) K dX12_winter_127 rfl fl_X12_55 rfl (liS rfl) rfl rfl ?_
          refine wp_iload_n (n := 131) K dX12_winter_130 rfl rfl ?_
          refine wp_iald (n := 132) K dX12_winter_131 rfl rfl (liS rfl) ⟨by omega, by omega, by omega⟩ ?_
          try simp only [up_same, up_up, up_ne, ne_eq, Nat.reduceEqDiff, not_false_eq_true, Int.reduceToNat, Int.toNat_natCast]
          refine wp_icmp_le (n := 135) K dX12_winter_132 rfl (tgt := 154) (by decide) ⟨by omega, by omega⟩ ⟨by omega, by omega⟩ (fun c132 => ?_) (fun c132 => ?_)
          · rw [if_neg (by omega)] at ihj
            refine wp_iinc (n := 157) K dX12_winter_154 rfl rfl (by decide) ?_
            refine wp_goto K dX12_winter_157 (tgt := 73) (by decide) ?_
            exact ihj
          · rw [if_pos (by omega)] at ihj
            refine wp_aload_n (n := 136) K dX12_winter_135 rfl rfl ?_
            refine wp_getF (n := 139) K dX12_winter_136 rfl fl_X12_55 rfl (liS rfl) rfl rfl ?_
            refine wp_iload_n (n := 140) K dX12_winter_139 rfl rfl ?_
            refine wp_aload_n (n := 141) K dX12_winter_140 rfl rfl ?_
            refine wp_getF (n := 144) K dX12_winter_141 rfl fl_X12_55 rfl (liS rfl) rfl rfl ?_
            refine wp_iload_n (n := 145) K dX12_winter_144 rfl rfl ?_
            refine wp_iconst (n := 146) K dX12_winter_145 rfl ?_
            refine wp_iload (n := 148) K dX12_winter_146 rfl rfl ?_
            refine wp_ishl (n := 149) K dX12_winter_148 rfl ?_
            refine wp_iconst (n := 150) K dX12_winter_149 rfl ?_
            refine wp_ixor (n := 151) K dX12_winter_150 rfl ?_
            refine wp_iand (n := 152) K dX12_winter_151 rfl ?_
            rw [e1]
            refine wp_iald (n := 153) K dX12_winter_152 rfl rfl (liS rfl) ⟨by omega, by omega, by omega⟩ ?_
            rw [Int.toNat_natCast, show up M 90 (up p k (mxT p k j)) 90 = up p k (mxT p k j) from rfl, u1]
            refine wp_iast (n := 154) K dX12_winter_153 rfl rfl (liS rfl) (fun _ => rfl) ⟨by omega, by omega, by omega⟩ ?_
            try simp only [up_same, up_up, up_ne, ne_eq, Nat.reduceEqDiff, not_false_eq_true, Int.reduceToNat, Int.toNat_natCast]
            refine wp_iinc (n := 157) K dX12_winter_154 rfl rfl (by decide) ?_
            refine wp_goto K dX12_winter_157 (tgt := 73) (by decide) ?_
            exact ihj
        · rw [if_neg (by rw [c90]; decide), if_neg (by rw [c90]; decide)] at ihj
          refine wp_goto K dX12_winter_93 (tgt := 154) (by decide) ?_
          refine wp_iinc (n := 157) K dX12_winter_154 rfl rfl (by decide) ?_
          refine wp_goto K dX12_winter_157 (tgt := 73) (by decide) ?_
          exact ihj
  · have ih := ih (by omega)
    unfold owT at ih
    have ho2 : (2 ^ h : Nat) < 1024 := Nat.pow_lt_pow_right (by decide) (show h < 10 by omega)
    obtain ⟨-, wb, -⟩ := hw.2 h (by omega)
    refine wp_iload_n (n := 15) K dX12_winter_14 rfl rfl ?_
    refine wp_aload_n (n := 16) K dX12_winter_15 rfl rfl ?_
    refine wp_getF (n := 19) K dX12_winter_16 rfl fl_X12_7 rfl (liS rfl) rfl rfl ?_
    refine wp_iload_n (n := 20) K dX12_winter_19 rfl rfl ?_
    refine wp_invS_i (n := 23) K dX12_winter_20 rfl cf_X12_77 (m_houseAt _ _ _) rfl rfl (by decide) ⟨Nat.le_refl _, Nat.le_refl _⟩ (Nat.le_of_ble_eq_true rfl) ?_
    refine wp_iconst (n := 24) K dX12_winter_23 rfl ?_
    refine wp_iadd (n := 25) K dX12_winter_24 rfl ?_
    refine wp_iald (n := 26) K dX12_winter_25 rfl rfl (liS rfl) ⟨by omega, by omega, by omega⟩ ?_
    try simp only [up_same, up_up, up_ne, ne_eq, Nat.reduceEqDiff, not_false_eq_true, Int.reduceToNat, Int.toNat_natCast]
    rw [i1]
    refine wp_if_eq (n := 29) K dX12_winter_26 rfl (tgt := 35) (by decide) ⟨by omega, by omega⟩ (fun c26 => ?_) (fun c26 => ?_)
    · rw [if_neg (fun q => q c26)] at ih
      refine wp_iconst (n := 36) K dX12_winter_35 rfl ?_
      refine wp_iadd (n := 37) K dX12_winter_36 rfl ?_
      refine wp_istore_n (n := 38) K dX12_winter_37 rfl (by decide) ?_
      refine wp_iinc (n := 41) K dX12_winter_38 rfl rfl (by decide) ?_
      refine wp_goto K dX12_winter_41 (tgt := 4) (by decide) ?_
      exact ih
    · rw [if_pos c26] at ih
      refine wp_iconst (n := 30) K dX12_winter_29 rfl ?_
      refine wp_iload_n (n := 31) K dX12_winter_30 rfl rfl ?_
      refine wp_ishl (n := 32) K dX12_winter_31 rfl ?_
      refine wp_goto K dX12_winter_32 (tgt := 36) (by decide) ?_
      rw [bshl_1 (by omega)]
      refine wp_iadd (n := 37) K dX12_winter_36 rfl ?_
      refine wp_istore_n (n := 38) K dX12_winter_37 rfl (by decide) ?_
      refine wp_iinc (n := 41) K dX12_winter_38 rfl rfl (by decide) ?_
      refine wp_goto K dX12_winter_41 (tgt := 4) (by decide) ?_
      exact ih
