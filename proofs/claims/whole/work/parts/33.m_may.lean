def clT (τ : Nat → Int) (b : Nat) (sort : Int) : Nat → Int
  | 0 => -1
  | k + 1 => if 0 ≤ clT τ b sort k then clT τ b sort k else if τ (b + 1 + 3 * k) = sort then (k : Int) else -1
theorem clT_r (τ : Nat → Int) (b : Nat) (sort : Int) (k : Nat) : clT τ b sort k = -1 ∨ (0 ≤ clT τ b sort k ∧ clT τ b sort k < k ∧ τ (b + 1 + 3 * (clT τ b sort k).toNat) = sort) := by
  induction k with
  | zero => exact Or.inl rfl
  | succ k ih =>
    unfold clT
    split
    · rename_i h; right; rcases ih with q | q <;> omega
    · split
      · rename_i h; right; exact ⟨by omega, by omega, by rw [Int.toNat_natCast]; exact h⟩
      · exact Or.inl rfl
theorem clT_up (τ : Nat → Int) (b : Nat) (sort : Int) {k : Nat} (h : 0 ≤ clT τ b sort k) : ∀ d, clT τ b sort (k + d) = clT τ b sort k := by
  intro d
  induction d with
  | zero => rfl
  | succ d ih => show (if 0 ≤ clT τ b sort (k + d) then clT τ b sort (k + d) else _) = _; rw [ih, if_pos h]
def clauseF (σ τ : Nat → Int) (sort : Int) : Int := if σ 5 < 0 then -1 else clT τ (680 * (σ 5).toNat) sort (τ (680 * (σ 5).toNat)).toNat
def okNm (c : Nat → Int × Int) (len : Nat) (fits : Bool) : Prop := ∀ i, i < len → (c i).1 = 1 → if fits then ((c i).2 ≤ 3 ∨ (c i).2 = 7) else (c i).2 ≤ 6
/-- a text that was read well -/
def WT (τ : Nat → Int) (t : Nat) : Prop := (0 ≤ τ (680 * t) ∧ τ (680 * t) ≤ 24) ∧ ∀ k : Nat, (k : Int) < τ (680 * t) → (0 ≤ τ (680 * t + 1 + 3 * k) ∧ τ (680 * t + 1 + 3 * k) ≤ 5) ∧
  (τ (680 * t + 1 + 3 * k) ≤ 2 → (0 ≤ τ (680 * t + 2 + 3 * k) ∧ τ (680 * t + 2 + 3 * k) ≤ τ (680 * t + 3 + 3 * k) ∧ τ (680 * t + 3 + 3 * k) ≤ 302) ∧ okCode (codeF τ (680 * t) (τ (680 * t + 2 + 3 * k)).toNat) ((τ (680 * t + 3 + 3 * k)).toNat - (τ (680 * t + 2 + 3 * k)).toNat) ∧ dpRun (codeF τ (680 * t) (τ (680 * t + 2 + 3 * k)).toNat) ((τ (680 * t + 3 + 3 * k)).toNat - (τ (680 * t + 2 + 3 * k)).toNat) = (if τ (680 * t + 1 + 3 * k) = 0 then (1, 0) else (0, 1)) ∧ okNm (codeF τ (680 * t) (τ (680 * t + 2 + 3 * k)).toNat) ((τ (680 * t + 3 + 3 * k)).toNat - (τ (680 * t + 2 + 3 * k)).toNat) (decide (τ (680 * t + 1 + 3 * k) = 2))) ∧
  (3 ≤ τ (680 * t + 1 + 3 * k) → (0 ≤ τ (680 * t + 2 + 3 * k) ∧ τ (680 * t + 2 + 3 * k) ≤ 11)) ∧ (τ (680 * t + 1 + 3 * k) = 5 → (0 ≤ τ (680 * t + 3 + 3 * k) ∧ τ (680 * t + 3 + 3 * k) ≤ 9))
def LW (σ τ : Nat → Int) : Prop := WS σ ∧ (0 ≤ σ 2 ∧ σ 2 < 24) ∧ (-1 ≤ σ 5 ∧ σ 5 < 4) ∧ (0 ≤ σ 5 → WT τ (σ 5).toNat)
theorem evRun_congr {nm nm' : Nat → Int} {c : Nat → Int × Int} {len : Nat} (h : ∀ i, i < len → (c i).1 = 1 → nm (c i).2.toNat = nm' (c i).2.toNat) (hok : okCode c len) : ∀ i, i ≤ len → evRun nm c i = evRun nm' c i := by
  intro i
  induction i with
  | zero => intro _; rfl
  | succ i ih =>
    intro hi
    show evStep nm _ _ (evRun nm c i) = evStep nm' _ _ (evRun nm' c i)
    rw [ih (by omega)]
    have ho := hok.2 i (by omega)
    by_cases h1 : (c i).1 = 1
    · unfold evStep; rw [h i (by omega) h1]
    · by_cases h2 : (c i).1 ≤ 1
      · have h0 : (c i).1 = 0 := by unfold okOp at ho; omega
        unfold evStep; rw [if_pos h0, if_pos h0]
      · unfold evStep; rw [if_neg h2, if_neg h2]

theorem m_clauseOf (sort : Int) (hs : InR sort) (S : ST) (M : MT) (hL : LW (M 78) (M 80)) : Ct E1 yX12_clauseOf cX12_clauseOf 3 (some .int) rm_X12_clauseOf [.ref 77, .int (z sort)] S M (Pi (clauseF (M 78) (M 80) sort) S M) := by
  obtain ⟨-, -, h5, hwt⟩ := hL
  refine Ct.mk [.ref 77, .int (z sort), mkV] (by decide) rfl (Nat.le_of_ble_eq_true rfl) (fun X K => ?_)
  unfold clauseF at K
  refine wp_iconst (n := 1) K dX12_clauseOf_0 rfl ?_
  refine wp_istore_n (n := 2) K dX12_clauseOf_1 rfl (by decide) ?_
  by_cases hneg : M 78 5 < 0
  · rw [if_pos hneg] at K
    refine wp_aload_n (n := 3) K dX12_clauseOf_2 rfl rfl ?_
    refine wp_getF (n := 6) K dX12_clauseOf_3 rfl fl_X12_7 rfl (liS rfl) rfl rfl ?_
    refine wp_iconst (n := 7) K dX12_clauseOf_6 rfl ?_
    refine wp_iald (n := 8) K dX12_clauseOf_7 rfl rfl (liS rfl) ⟨by omega, by omega, by omega⟩ ?_
    try simp only [up_same, up_up, Int.reduceToNat, Int.toNat_natCast]
    refine wp_if_lt (n := 11) K dX12_clauseOf_8 rfl (tgt := 63) (by decide) ⟨by omega, by omega⟩ (fun c8 => ?_) (fun c8 => ?_)
    · refine wp_iconst (n := 64) K dX12_clauseOf_63 rfl ?_
      refine ret_i K dX12_clauseOf_64 ?_ rfl ?_ ⟨Nat.le_refl _, Nat.le_refl _⟩
      all_goals rfl
    · omega
  · rw [if_neg hneg] at K
    have hwt := hwt (by omega)
    obtain ⟨t, ht⟩ : ∃ t : Nat, M 78 5 = t := ⟨(M 78 5).toNat, by omega⟩
    rw [ht, Int.toNat_natCast] at K hwt
    obtain ⟨hn, hc⟩ := hwt
    obtain ⟨N, hN⟩ : ∃ N : Nat, M 80 (680 * t) = N := ⟨(M 80 (680 * t)).toNat, by omega⟩
    rw [hN, Int.toNat_natCast] at K
    have i0 : (680 * (t : Int)).toNat = 680 * t := by omega
    have key := dn N (Q := fun k => clT (M 80) (680 * t) sort k = -1 → Wp E1 X 2 [.ref 77, .int (z sort), .int (z (k : Int))] [] S M) (fun k hk ih hno => ?_) 0 (by omega)
    · exact key rfl
    refine wp_aload_n (n := 3) K dX12_clauseOf_2 rfl rfl ?_
    refine wp_getF (n := 6) K dX12_clauseOf_3 rfl fl_X12_7 rfl (liS rfl) rfl rfl ?_
    refine wp_iconst (n := 7) K dX12_clauseOf_6 rfl ?_
    refine wp_iald (n := 8) K dX12_clauseOf_7 rfl rfl (liS rfl) ⟨by omega, by omega, by omega⟩ ?_
    try simp only [up_same, up_up, Int.reduceToNat, Int.toNat_natCast]
    refine wp_if_lt (n := 11) K dX12_clauseOf_8 rfl (tgt := 63) (by decide) ⟨by omega, by omega⟩ (fun c8 => ?_) (fun c8 => ?_)
    · omega
    refine wp_iload_n (n := 12) K dX12_clauseOf_11 rfl rfl ?_
    refine wp_aload_n (n := 13) K dX12_clauseOf_12 rfl rfl ?_
    refine wp_getF (n := 16) K dX12_clauseOf_13 rfl fl_X12_16 rfl (liS rfl) rfl rfl ?_
    refine wp_sipush (n := 19) K dX12_clauseOf_16 rfl rfl ?_
    refine wp_aload_n (n := 20) K dX12_clauseOf_19 rfl rfl ?_
    refine wp_getF (n := 23) K dX12_clauseOf_20 rfl fl_X12_7 rfl (liS rfl) rfl rfl ?_
    refine wp_iconst (n := 24) K dX12_clauseOf_23 rfl ?_
    refine wp_iald (n := 25) K dX12_clauseOf_24 rfl rfl (liS rfl) ⟨by omega, by omega, by omega⟩ ?_
    try simp only [up_same, up_up, Int.reduceToNat, Int.toNat_natCast]
    refine wp_imul (n := 26) K dX12_clauseOf_25 rfl ?_
    refine wp_iald (n := 27) K dX12_clauseOf_26 rfl rfl (liS rfl) ⟨by omega, by omega, by omega⟩ ?_
    try simp only [up_same, up_up, Int.reduceToNat, Int.toNat_natCast]
    rw [ht, i0, hN]
    refine wp_icmp_ge (n := 30) K dX12_clauseOf_27 rfl (tgt := 63) (by decide) ⟨by omega, by omega⟩ ⟨by omega, by omega⟩ (fun c27 => ?_) (fun c27 => ?_)
    · refine wp_iconst (n := 64) K dX12_clauseOf_63 rfl ?_
      refine ret_i K dX12_clauseOf_64 ?_ rfl ?_ ⟨Nat.le_refl _, Nat.le_refl _⟩
      · rw [show N = k by omega, hno]
      · rfl
    · have h1 := (hc k (by omega)).1
      refine wp_aload_n (n := 31) K dX12_clauseOf_30 rfl rfl ?_
      refine wp_getF (n := 34) K dX12_clauseOf_31 rfl fl_X12_16 rfl (liS rfl) rfl rfl ?_
      refine wp_sipush (n := 37) K dX12_clauseOf_34 rfl rfl ?_
      refine wp_aload_n (n := 38) K dX12_clauseOf_37 rfl rfl ?_
      refine wp_getF (n := 41) K dX12_clauseOf_38 rfl fl_X12_7 rfl (liS rfl) rfl rfl ?_
      refine wp_iconst (n := 42) K dX12_clauseOf_41 rfl ?_
      refine wp_iald (n := 43) K dX12_clauseOf_42 rfl rfl (liS rfl) ⟨by omega, by omega, by omega⟩ ?_
      try simp only [up_same, up_up, Int.reduceToNat, Int.toNat_natCast]
      refine wp_imul (n := 44) K dX12_clauseOf_43 rfl ?_
      refine wp_iconst (n := 45) K dX12_clauseOf_44 rfl ?_
      refine wp_iadd (n := 46) K dX12_clauseOf_45 rfl ?_
      refine wp_iconst (n := 47) K dX12_clauseOf_46 rfl ?_
      refine wp_iload_n (n := 48) K dX12_clauseOf_47 rfl rfl ?_
      refine wp_imul (n := 49) K dX12_clauseOf_48 rfl ?_
      refine wp_iadd (n := 50) K dX12_clauseOf_49 rfl ?_
      refine wp_iald (n := 51) K dX12_clauseOf_50 rfl rfl (liS rfl) ⟨by omega, by omega, by omega⟩ ?_
      try simp only [up_same, up_up, Int.reduceToNat, Int.toNat_natCast]
      rw [ht, show (680 * (t : Int) + 1 + 3 * (k : Int)).toNat = 680 * t + 1 + 3 * k by omega]
      have hstep : clT (M 80) (680 * t) sort (k + 1) = if M 80 (680 * t + 1 + 3 * k) = sort then (k : Int) else -1 := by
        show (if 0 ≤ clT (M 80) (680 * t) sort k then _ else _) = _
        rw [hno, if_neg (by decide)]
      refine wp_iload_n (n := 52) K dX12_clauseOf_51 rfl rfl ?_
      refine wp_icmp_ne (n := 55) K dX12_clauseOf_52 rfl (tgt := 57) (by decide) ⟨by omega, by omega⟩ ⟨by omega, by omega⟩ (fun c52 => ?_) (fun c52 => ?_)
      · rw [if_neg c52] at hstep
        refine wp_iinc (n := 60) K dX12_clauseOf_57 rfl rfl (by decide) ?_
        refine wp_goto K dX12_clauseOf_60 (tgt := 2) (by decide) ?_
        exact ih (by omega) hstep
      · rw [if_pos c52] at hstep
        refine wp_iload_n (n := 56) K dX12_clauseOf_55 rfl rfl ?_
        refine ret_i K dX12_clauseOf_56 ?_ rfl ?_ ⟨Nat.le_refl _, Nat.le_refl _⟩
        · obtain ⟨d, hd⟩ : ∃ d, N = k + 1 + d := ⟨N - (k + 1), by omega⟩
          rw [hd, clT_up _ _ _ (by omega), hstep]
        · rfl

def nameA (ν σ : Nat → Int) (s k : Nat) : Nat → Int := fun j => if j = 0 then (s : Int) else if j < 1 + k then σ (9 + 5 * s + j) else ν j
theorem nameA_s (ν σ : Nat → Int) (s k : Nat) : up (nameA ν σ s k) (1 + k) (σ (10 + 5 * s + k)) = nameA ν σ s (k + 1) := by
  funext j; unfold up nameA
  by_cases h : j = 1 + k
  · subst h; rw [if_pos rfl, if_neg (by omega), if_pos (by omega), show 9 + 5 * s + (1 + k) = 10 + 5 * s + k by omega]
  · rw [if_neg h]
    by_cases h0 : j = 0
    · rw [if_pos h0, if_pos h0]
    · rw [if_neg h0, if_neg h0]
      by_cases h2 : j < 1 + k
      · rw [if_pos h2, if_pos (by omega)]
      · rw [if_neg h2, if_neg (by omega)]

theorem m_name (s : Nat) (hs : s < 12) (S : ST) (M : MT) : Ct E1 yX12_name cX12_name 3 none rm_X12_name [.ref 77, .int (z (s : Int))] S M (Pn S (up M 83 (nameA (M 83) (M 78) s 3))) := by
  refine Ct.mk [.ref 77, .int (z (s : Int)), mkV] (by decide) rfl (Nat.le_of_ble_eq_true rfl) (fun X K => ?_)
  refine wp_aload_n (n := 1) K dX12_name_0 rfl rfl ?_
  refine wp_getF (n := 4) K dX12_name_1 rfl fl_X12_32 rfl (liS rfl) rfl rfl ?_
  refine wp_iconst (n := 5) K dX12_name_4 rfl ?_
  refine wp_iload_n (n := 6) K dX12_name_5 rfl rfl ?_
  refine wp_iast (n := 7) K dX12_name_6 rfl rfl (liS rfl) (fun _ => rfl) ⟨by omega, by omega, by omega⟩ ?_
  try simp only [up_same, up_up, up_ne, ne_eq, Nat.reduceEqDiff, not_false_eq_true, Int.reduceToNat, Int.toNat_natCast]
  refine wp_iconst (n := 8) K dX12_name_7 rfl ?_
  refine wp_istore_n (n := 9) K dX12_name_8 rfl (by decide) ?_
  rw [show up (M 83) 0 (s : Int) = nameA (M 83) (M 78) s 0 from by
    funext j; unfold up nameA
    by_cases h : j = 0
    · rw [if_pos h, if_pos h]
    · rw [if_neg h, if_neg h, if_neg (by omega)]]
  refine dn 3 (Q := fun k => Wp E1 X 9 [.ref 77, .int (z (s : Int)), .int (z (k : Int))] [] S (up M 83 (nameA (M 83) (M 78) s k))) (fun k hk ih => ?_) 0 (by omega)
  refine wp_iload_n (n := 10) K dX12_name_9 rfl rfl ?_
  refine wp_iconst (n := 11) K dX12_name_10 rfl ?_
  refine wp_icmp_ge (n := 14) K dX12_name_11 rfl (tgt := 39) (by decide) ⟨by omega, by omega⟩ ⟨by omega, by omega⟩ (fun c11 => ?_) (fun c11 => ?_)
  · refine ret_n K dX12_name_39 rfl ?_ ⟨Nat.le_refl _, Nat.le_refl _⟩
    rw [show k = 3 by omega]
  · refine wp_aload_n (n := 15) K dX12_name_14 rfl rfl ?_
    refine wp_getF (n := 18) K dX12_name_15 rfl fl_X12_32 rfl (liS rfl) rfl rfl ?_
    refine wp_iconst (n := 19) K dX12_name_18 rfl ?_
    refine wp_iload_n (n := 20) K dX12_name_19 rfl rfl ?_
    refine wp_iadd (n := 21) K dX12_name_20 rfl ?_
    refine wp_aload_n (n := 22) K dX12_name_21 rfl rfl ?_
    refine wp_getF (n := 25) K dX12_name_22 rfl fl_X12_7 rfl (liS rfl) rfl rfl ?_
    refine wp_iload_n (n := 26) K dX12_name_25 rfl rfl ?_
    refine wp_invS_i (n := 29) K dX12_name_26 rfl cf_X12_74 (m_stoneAt _ _ _) rfl rfl (by decide) ⟨Nat.le_refl _, Nat.le_refl _⟩ (Nat.le_of_ble_eq_true rfl) ?_
    refine wp_iload_n (n := 30) K dX12_name_29 rfl rfl ?_
    refine wp_iadd (n := 31) K dX12_name_30 rfl ?_
    refine wp_iald (n := 32) K dX12_name_31 rfl rfl (liS rfl) ⟨by omega, by omega, by omega⟩ ?_
    try simp only [up_same, up_up, up_ne, ne_eq, Nat.reduceEqDiff, not_false_eq_true, Int.reduceToNat, Int.toNat_natCast]
    refine wp_iast (n := 33) K dX12_name_32 rfl rfl (liS rfl) (fun _ => rfl) ⟨by omega, by omega, by omega⟩ ?_
    try simp only [up_same, up_up, up_ne, ne_eq, Nat.reduceEqDiff, not_false_eq_true, Int.reduceToNat, Int.toNat_natCast]
    rw [show (1 + (k : Int)).toNat = 1 + k by omega, show (10 + 5 * (s : Int) + (k : Int)).toNat = 10 + 5 * s + k by omega, nameA_s]
    refine wp_iinc (n := 36) K dX12_name_33 rfl rfl (by decide) ?_
    refine wp_goto K dX12_name_36 (tgt := 9) (by decide) ?_
    exact ih (by omega)
def topT (σ : Nat → Int) (set : Nat) : Nat → Int
  | 0 => -1
  | k + 1 => if set.testBit k = true ∧ topT σ set k < σ (11 + 5 * k) then σ (11 + 5 * k) else topT σ set k
theorem topT_r {σ : Nat → Int} (hw : WS σ) (set : Nat) : ∀ k, k ≤ 12 → -1 ≤ topT σ set k ∧ topT σ set k ≤ 20 := by
  intro k
  induction k with
  | zero => intro _; unfold topT; omega
  | succ k ih =>
    intro hk
    have := ih (by omega)
    obtain ⟨-, b, -⟩ := hw.2 k (by omega)
    unfold topT
    split <;> omega
def nameU (ν σ : Nat → Int) (s set : Nat) : Nat → Int := fun j => if j < 4 then nameA ν σ s 3 j else if j = 4 then (cnt 12 set : Int) else if j = 5 then topT σ set (σ 0).toNat else if j = 6 then (((σ 2).toNat + cnt 12 set) % 24 : Nat) else ν j

theorem m_nameUpon (s set : Nat) (hs : s < 12) (hset : set < 4096) (S : ST) (M : MT) (hL : LW (M 78) (M 80)) : Ct E1 yX12_nameUpon cX12_nameUpon 4 none rm_X12_nameUpon [.ref 77, .int (z (s : Int)), .int (z (set : Int))] S M (Pn S (up M 83 (nameU (M 83) (M 78) s set))) := by
  obtain ⟨hw, h2, -⟩ := hL
  have h0 := hw.1
  obtain ⟨N, hN⟩ : ∃ N : Nat, M 78 0 = N := ⟨(M 78 0).toNat, by omega⟩
  obtain ⟨H, hH⟩ : ∃ N : Nat, M 78 2 = N := ⟨(M 78 2).toNat, by omega⟩
  have hcl := cnt_le 12 set
  refine Ct.mk [.ref 77, .int (z (s : Int)), .int (z (set : Int)), mkV] (by decide) rfl (Nat.le_of_ble_eq_true rfl) (fun X K => ?_)
  refine wp_aload_n (n := 1) K dX12_nameUpon_0 rfl rfl ?_
  refine wp_iload_n (n := 2) K dX12_nameUpon_1 rfl rfl ?_
  refine wp_invV_n (n := 5) K dX12_nameUpon_2 rfl cf_X12_246 (m_name _ (by omega) _ _) rfl rfl rfl (liS rfl) rfl (by decide) ⟨Nat.le_refl _, Nat.le_refl _⟩ (Nat.le_of_ble_eq_true rfl) ?_
  refine wp_aload_n (n := 6) K dX12_nameUpon_5 rfl rfl ?_
  refine wp_getF (n := 9) K dX12_nameUpon_6 rfl fl_X12_32 rfl (liS rfl) rfl rfl ?_
  refine wp_iconst (n := 10) K dX12_nameUpon_9 rfl ?_
  refine wp_iload_n (n := 11) K dX12_nameUpon_10 rfl rfl ?_
  refine wp_invS_i (n := 14) K dX12_nameUpon_11 rfl cf_X12_70 (m_bits _ (by omega) _ _) rfl rfl (by decide) ⟨Nat.le_refl _, Nat.le_refl _⟩ (Nat.le_of_ble_eq_true rfl) ?_
  refine wp_iast (n := 15) K dX12_nameUpon_14 rfl rfl (liS rfl) (fun _ => rfl) ⟨by omega, by omega, by omega⟩ ?_
  try simp only [up_same, up_up, up_ne, ne_eq, Nat.reduceEqDiff, not_false_eq_true, Int.reduceToNat, Int.toNat_natCast]
  refine wp_aload_n (n := 16) K dX12_nameUpon_15 rfl rfl ?_
  refine wp_getF (n := 19) K dX12_nameUpon_16 rfl fl_X12_32 rfl (liS rfl) rfl rfl ?_
  refine wp_iconst (n := 20) K dX12_nameUpon_19 rfl ?_
  refine wp_iconst (n := 21) K dX12_nameUpon_20 rfl ?_
  refine wp_iast (n := 22) K dX12_nameUpon_21 rfl rfl (liS rfl) (fun _ => rfl) ⟨by omega, by omega, by omega⟩ ?_
  try simp only [up_same, up_up, up_ne, ne_eq, Nat.reduceEqDiff, not_false_eq_true, Int.reduceToNat, Int.toNat_natCast]
  refine wp_iconst (n := 23) K dX12_nameUpon_22 rfl ?_
  refine wp_istore_n (n := 24) K dX12_nameUpon_23 rfl (by decide) ?_
  have eB : ∀ v : Int, up (up (nameA (M 83) (M 78) s 3) 4 (cnt 12 set : Int)) 5 v = up (up (nameA (M 83) (M 78) s 3) 4 (cnt 12 set : Int)) 5 v := fun _ => rfl
  generalize hB : up (nameA (M 83) (M 78) s 3) 4 (cnt 12 set : Int) = B
  have hB4 : B 4 = (cnt 12 set : Int) := by rw [← hB]; rfl
  refine dn N (Q := fun k => Wp E1 X 24 [.ref 77, .int (z (s : Int)), .int (z (set : Int)), .int (z (k : Int))] [] S (up M 83 (up B 5 (topT (M 78) set k)))) (fun k hk ih => ?_) 0 (by omega)
  have htr := topT_r hw set k (by omega)
  refine wp_iload_n (n := 25) K dX12_nameUpon_24 rfl rfl ?_
  refine wp_aload_n (n := 26) K dX12_nameUpon_25 rfl rfl ?_
  refine wp_getF (n := 29) K dX12_nameUpon_26 rfl fl_X12_7 rfl (liS rfl) rfl rfl ?_
  refine wp_iconst (n := 30) K dX12_nameUpon_29 rfl ?_
  refine wp_iald (n := 31) K dX12_nameUpon_30 rfl rfl (liS rfl) ⟨by omega, by omega, by omega⟩ ?_
  try simp only [up_same, up_up, up_ne, ne_eq, Nat.reduceEqDiff, not_false_eq_true, Int.reduceToNat, Int.toNat_natCast]
  rw [hN]
  refine wp_icmp_ge (n := 34) K dX12_nameUpon_31 rfl (tgt := 85) (by decide) ⟨by omega, by omega⟩ ⟨by omega, by omega⟩ (fun c31 => ?_) (fun c31 => ?_)
  · refine wp_aload_n (n := 86) K dX12_nameUpon_85 rfl rfl ?_
    refine wp_getF (n := 89) K dX12_nameUpon_86 rfl fl_X12_32 rfl (liS rfl) rfl rfl ?_
    refine wp_bipush (n := 91) K dX12_nameUpon_89 rfl rfl ?_
    refine wp_aload_n (n := 92) K dX12_nameUpon_91 rfl rfl ?_
    refine wp_getF (n := 95) K dX12_nameUpon_92 rfl fl_X12_7 rfl (liS rfl) rfl rfl ?_
    refine wp_iconst (n := 96) K dX12_nameUpon_95 rfl ?_
    refine wp_iald (n := 97) K dX12_nameUpon_96 rfl rfl (liS rfl) ⟨by omega, by omega, by omega⟩ ?_
    try simp only [up_same, up_up, up_ne, ne_eq, Nat.reduceEqDiff, not_false_eq_true, Int.reduceToNat, Int.toNat_natCast]
    refine wp_aload_n (n := 98) K dX12_nameUpon_97 rfl rfl ?_
    refine wp_getF (n := 101) K dX12_nameUpon_98 rfl fl_X12_32 rfl (liS rfl) rfl rfl ?_
    refine wp_iconst (n := 102) K dX12_nameUpon_101 rfl ?_
    refine wp_iald (n := 103) K dX12_nameUpon_102 rfl rfl (liS rfl) ⟨by omega, by omega, by omega⟩ ?_
    try simp only [up_same, up_up, up_ne, ne_eq, Nat.reduceEqDiff, not_false_eq_true, Int.reduceToNat, Int.toNat_natCast]
    refine wp_iadd (n := 104) K dX12_nameUpon_103 rfl ?_
    refine wp_bipush (n := 106) K dX12_nameUpon_104 rfl rfl ?_
    refine wp_irem (n := 107) K dX12_nameUpon_106 rfl (by decide) ?_
    rw [hB4, hH, show (H : Int) + (cnt 12 set : Int) = ((H + cnt 12 set : Nat) : Int) by omega, show (24 : Int) = ((24 : Nat) : Int) from rfl, brem_n (by omega) (by omega) (by omega)]
    refine wp_iast (n := 108) K dX12_nameUpon_107 rfl rfl (liS rfl) (fun _ => rfl) ⟨by omega, by omega, by omega⟩ ?_
    try simp only [up_same, up_up, up_ne, ne_eq, Nat.reduceEqDiff, not_false_eq_true, Int.reduceToNat, Int.toNat_natCast]
    refine ret_n K dX12_nameUpon_108 rfl ?_ ⟨Nat.le_refl _, Nat.le_refl _⟩
    congr 1
    rw [show k = N by omega, ← hB]
    funext j
    unfold nameU
    rw [hN, Int.toNat_natCast, hH, Int.toNat_natCast]
    by_cases q6 : j = 6
    · subst q6; rfl
    · rw [up_ne _ _ q6]
      by_cases q5 : j = 5
      · subst q5; rfl
      · rw [up_ne _ _ q5]
        by_cases q4 : j = 4
        · subst q4; rfl
        · rw [up_ne _ _ q4]
          by_cases q3 : j < 4
          · rw [if_pos q3]
          · rw [if_neg q3, if_neg q4, if_neg q5, if_neg q6]; unfold nameA; rw [if_neg (by omega), if_neg (by omega)]
  · have ih := ih (by omega)
    unfold topT at ih
    obtain ⟨-, b, -⟩ := hw.2 k (by omega)
    refine wp_iload_n (n := 35) K dX12_nameUpon_34 rfl rfl ?_
    refine wp_iload_n (n := 36) K dX12_nameUpon_35 rfl rfl ?_
    refine wp_invS_i (n := 39) K dX12_nameUpon_36 rfl cf_X12_249 (m_has _ _ (by omega) (by omega) _ _) rfl rfl (by decide) ⟨Nat.le_refl _, Nat.le_refl _⟩ (Nat.le_of_ble_eq_true rfl) ?_
    refine wp_if_eq_b (n := 42) K dX12_nameUpon_39 rfl (tgt := 79) (by decide) (fun c39 => ?_) (fun c39 => ?_)
    · rw [if_neg (by rw [c39]; exact fun q => by cases q.1)] at ih
      refine wp_iinc (n := 82) K dX12_nameUpon_79 rfl rfl (by decide) ?_
      refine wp_goto K dX12_nameUpon_82 (tgt := 24) (by decide) ?_
      exact ih
    · have i1 : (10 + 5 * (k : Int) + 1).toNat = 11 + 5 * k := by omega
      refine wp_aload_n (n := 43) K dX12_nameUpon_42 rfl rfl ?_
      refine wp_getF (n := 46) K dX12_nameUpon_43 rfl fl_X12_7 rfl (liS rfl) rfl rfl ?_
      refine wp_iload_n (n := 47) K dX12_nameUpon_46 rfl rfl ?_
      refine wp_invS_i (n := 50) K dX12_nameUpon_47 rfl cf_X12_74 (m_stoneAt _ _ _) rfl rfl (by decide) ⟨Nat.le_refl _, Nat.le_refl _⟩ (Nat.le_of_ble_eq_true rfl) ?_
      refine wp_iconst (n := 51) K dX12_nameUpon_50 rfl ?_
      refine wp_iadd (n := 52) K dX12_nameUpon_51 rfl ?_
      refine wp_iald (n := 53) K dX12_nameUpon_52 rfl rfl (liS rfl) ⟨by omega, by omega, by omega⟩ ?_
      try simp only [up_same, up_up, up_ne, ne_eq, Nat.reduceEqDiff, not_false_eq_true, Int.reduceToNat, Int.toNat_natCast]
      refine wp_aload_n (n := 54) K dX12_nameUpon_53 rfl rfl ?_
      refine wp_getF (n := 57) K dX12_nameUpon_54 rfl fl_X12_32 rfl (liS rfl) rfl rfl ?_
      refine wp_iconst (n := 58) K dX12_nameUpon_57 rfl ?_
      refine wp_iald (n := 59) K dX12_nameUpon_58 rfl rfl (liS rfl) ⟨by omega, by omega, by omega⟩ ?_
      try simp only [up_same, up_up, up_ne, ne_eq, Nat.reduceEqDiff, not_false_eq_true, Int.reduceToNat, Int.toNat_natCast]
      rw [i1]
      refine wp_icmp_le (n := 62) K dX12_nameUpon_59 rfl (tgt := 79) (by decide) ⟨by omega, by omega⟩ ⟨by omega, by omega⟩ (fun c59 => ?_) (fun c59 => ?_)
      · rw [if_neg (by omega)] at ih
        refine wp_iinc (n := 82) K dX12_nameUpon_79 rfl rfl (by decide) ?_
        refine wp_goto K dX12_nameUpon_82 (tgt := 24) (by decide) ?_
        exact ih
      · rw [if_pos ⟨c39, by omega⟩] at ih
        refine wp_aload_n (n := 63) K dX12_nameUpon_62 rfl rfl ?_
        refine wp_getF (n := 66) K dX12_nameUpon_63 rfl fl_X12_32 rfl (liS rfl) rfl rfl ?_
        refine wp_iconst (n := 67) K dX12_nameUpon_66 rfl ?_
        refine wp_aload_n (n := 68) K dX12_nameUpon_67 rfl rfl ?_
        refine wp_getF (n := 71) K dX12_nameUpon_68 rfl fl_X12_7 rfl (liS rfl) rfl rfl ?_
        refine wp_iload_n (n := 72) K dX12_nameUpon_71 rfl rfl ?_
        refine wp_invS_i (n := 75) K dX12_nameUpon_72 rfl cf_X12_74 (m_stoneAt _ _ _) rfl rfl (by decide) ⟨Nat.le_refl _, Nat.le_refl _⟩ (Nat.le_of_ble_eq_true rfl) ?_
        refine wp_iconst (n := 76) K dX12_nameUpon_75 rfl ?_
        refine wp_iadd (n := 77) K dX12_nameUpon_76 rfl ?_
        refine wp_iald (n := 78) K dX12_nameUpon_77 rfl rfl (liS rfl) ⟨by omega, by omega, by omega⟩ ?_
        try simp only [up_same, up_up, up_ne, ne_eq, Nat.reduceEqDiff, not_false_eq_true, Int.reduceToNat, Int.toNat_natCast]
        rw [i1]
        refine wp_iast (n := 79) K dX12_nameUpon_78 rfl rfl (liS rfl) (fun _ => rfl) ⟨by omega, by omega, by omega⟩ ?_
        try simp only [up_same, up_up, up_ne, ne_eq, Nat.reduceEqDiff, not_false_eq_true, Int.reduceToNat, Int.toNat_natCast]
        refine wp_iinc (n := 82) K dX12_nameUpon_79 rfl rfl (by decide) ?_
        refine wp_goto K dX12_nameUpon_82 (tgt := 24) (by decide) ?_
        exact ih
