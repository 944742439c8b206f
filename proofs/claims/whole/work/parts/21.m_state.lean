/-! what the reference holds in its row a (the cell 78), in words of numbers -/
def allB : Nat → (Nat → Bool) → Bool
  | 0, _ => true
  | k + 1, p => allB k p && p k
theorem allB_iff (n : Nat) (p : Nat → Bool) : allB n p = true ↔ ∀ k, k < n → p k = true := by
  induction n with
  | zero => exact ⟨fun _ k h => by omega, fun _ => rfl⟩
  | succ n ih =>
    unfold allB
    rw [Bool.and_eq_true, ih]
    exact ⟨fun h k hk => by rcases (show k < n ∨ k = n by omega) with q | q; exact h.1 k q; exact q ▸ h.2, fun h => ⟨fun k hk => h k (by omega), h n (by omega)⟩⟩
theorem allB_false {n k : Nat} {p : Nat → Bool} (hk : k < n) (h : p k = false) : allB n p = false := by
  cases hq : allB n p with
  | false => rfl
  | true => have := (allB_iff n p).mp hq k hk; rw [h] at this; cases this
def brN (σ : Nat → Int) (s : Nat) : Nat := (σ (13 + 5 * s)).toNat
def borneB (σ : Nat → Int) (s set : Nat) : Bool := decide (σ (14 + 5 * s) ≤ (cnt 12 (brN σ s &&& set) : Int))
def standB (σ : Nat → Int) (set : Nat) : Bool := allB (σ 0).toNat (fun s => !set.testBit s || borneB σ s set)
/-- what holds of the stones -/
def WS (σ : Nat → Int) : Prop := (0 ≤ σ 0 ∧ σ 0 ≤ 12) ∧ ∀ s : Nat, s < 12 → (0 ≤ σ (10 + 5 * s) ∧ σ (10 + 5 * s) ≤ 99) ∧ (0 ≤ σ (11 + 5 * s) ∧ σ (11 + 5 * s) ≤ 20) ∧ (0 ≤ σ (12 + 5 * s) ∧ σ (12 + 5 * s) ≤ 99) ∧ (0 ≤ σ (13 + 5 * s) ∧ σ (13 + 5 * s) < 4096 ∧ σ (13 + 5 * s) < 2 ^ s) ∧ (0 ≤ σ (14 + 5 * s) ∧ σ (14 + 5 * s) ≤ 12)

theorem m_copy (f t : Nat) (hf : (f = 78 ∧ t = 79) ∨ (f = 79 ∧ t = 78)) (S : ST) (M : MT) : Ct E1 yX12_copy cX12_copy 3 none rm_X12_copy [.ref f, .ref t] S M (Pn S (up M t (fun j => if j < 780 then M f j else M t j))) := by
  have hft : f ≠ t := by omega
  have s1 : shp E1 S f = (2, 780) := by rcases hf with ⟨rfl, rfl⟩ | ⟨rfl, rfl⟩ <;> rfl
  have s2 : shp E1 S t = (2, 780) := by rcases hf with ⟨rfl, rfl⟩ | ⟨rfl, rfl⟩ <;> rfl
  have l1 : live E1 S f := by rcases hf with ⟨rfl, rfl⟩ | ⟨rfl, rfl⟩ <;> exact liS rfl
  have l2 : live E1 S t := by rcases hf with ⟨rfl, rfl⟩ | ⟨rfl, rfl⟩ <;> exact liS rfl
  have n2 : ∀ i, fin E1 t i = none := by rcases hf with ⟨rfl, rfl⟩ | ⟨rfl, rfl⟩ <;> exact fun _ => rfl
  refine Ct.mk [.ref f, .ref t, mkV] (by decide) rfl (Nat.le_of_ble_eq_true rfl) (fun X K => ?_)
  refine wp_iconst (n := 1) K dX12_copy_0 rfl ?_
  refine wp_istore_n (n := 2) K dX12_copy_1 rfl (by decide) ?_
  have e0 : M = up M t (fun j => if j < 0 then M f j else M t j) := by
    funext a j; unfold up; split
    · rename_i h; subst h; simp
    · rfl
  rw [e0]
  refine dn 780 (Q := fun k => Wp E1 X 2 [.ref f, .ref t, .int (z (k : Int))] [] S (up M t (fun j => if j < k then M f j else M t j))) (fun k hk ih => ?_) 0 (by omega)
  refine wp_iload_n (n := 3) K dX12_copy_2 rfl rfl ?_
  refine wp_sipush (n := 6) K dX12_copy_3 rfl rfl ?_
  refine wp_icmp_ge (n := 9) K dX12_copy_6 rfl (tgt := 21) (by decide) ⟨by omega, by omega⟩ ⟨by omega, by omega⟩ (fun c6 => ?_) (fun c6 => ?_)
  · refine ret_n K dX12_copy_21 rfl ?_ ⟨Nat.le_refl _, Nat.le_refl _⟩
    rw [show k = 780 by omega]
  · refine wp_aload_n (n := 10) K dX12_copy_9 rfl rfl ?_
    refine wp_iload_n (n := 11) K dX12_copy_10 rfl rfl ?_
    refine wp_aload_n (n := 12) K dX12_copy_11 rfl rfl ?_
    refine wp_iload_n (n := 13) K dX12_copy_12 rfl rfl ?_
    refine wp_iald (n := 14) K dX12_copy_13 rfl s1 l1 ⟨by omega, by omega, by omega⟩ ?_
    refine wp_iast (n := 15) K dX12_copy_14 rfl s2 l2 n2 ⟨by omega, by omega, by omega⟩ ?_
    refine wp_iinc (n := 18) K dX12_copy_15 rfl rfl (by decide) ?_
    refine wp_goto K dX12_copy_18 (tgt := 2) (by decide) ?_
    have e1 : up (up M t (fun j => if j < k then M f j else M t j)) t (up (up M t (fun j => if j < k then M f j else M t j) t) (k : Int).toNat (up M t (fun j => if j < k then M f j else M t j) f (k : Int).toNat)) = up M t (fun j => if j < k + 1 then M f j else M t j) := by
      rw [up_up, up_same, up_ne _ _ hft]
      congr 1
      funext j
      unfold up
      rw [Int.toNat_natCast]
      by_cases h1 : j = k
      · subst h1; simp
      · by_cases h2 : j < k
        · simp [h1, h2, show j < k + 1 by omega]
        · simp [h1, h2, show ¬ j < k + 1 by omega]
    rw [e1]
    exact ih (by omega)

theorem m_isBorne (s set : Nat) (hs : s < 12) (hset : set < 4096) (S : ST) (M : MT) (hw : WS (M 78)) : Ct E1 yX12_isBorne cX12_isBorne 3 (some .boolean) rm_X12_isBorne [.ref 77, .int (z (s : Int)), .int (z (set : Int))] S M (Pi (bI (borneB (M 78) s set)) S M) := by
  obtain ⟨w1, w2, w3, w4, w5⟩ := hw.2 s hs
  have i3 : ((10 + 5 * (s : Int)) + 3).toNat = 13 + 5 * s := by omega
  have i4 : ((10 + 5 * (s : Int)) + 4).toNat = 14 + 5 * s := by omega
  have hbn : M 78 (13 + 5 * s) = (brN (M 78) s : Int) := by unfold brN; omega
  have hb4 : brN (M 78) s < 4096 := by unfold brN; omega
  have hc := cnt_le 12 (brN (M 78) s &&& set)
  refine Ct.mk [.ref 77, .int (z (s : Int)), .int (z (set : Int))] (by decide) rfl (Nat.le_of_ble_eq_true rfl) (fun X K => ?_)
  refine wp_aload_n (n := 1) K dX12_isBorne_0 rfl rfl ?_
  refine wp_getF (n := 4) K dX12_isBorne_1 rfl fl_X12_7 rfl (liS rfl) rfl rfl ?_
  refine wp_iload_n (n := 5) K dX12_isBorne_4 rfl rfl ?_
  refine wp_invS_i (n := 8) K dX12_isBorne_5 rfl cf_X12_74 (m_stoneAt _ _ _) rfl rfl (by decide) ⟨Nat.le_refl _, Nat.le_refl _⟩ (Nat.le_of_ble_eq_true rfl) ?_
  refine wp_iconst (n := 9) K dX12_isBorne_8 rfl ?_
  refine wp_iadd (n := 10) K dX12_isBorne_9 rfl ?_
  refine wp_iald (n := 11) K dX12_isBorne_10 rfl rfl (liS rfl) ⟨by omega, by omega, by omega⟩ ?_
  try simp only [up_same, up_up, Int.reduceToNat, Int.toNat_natCast]
  refine wp_iload_n (n := 12) K dX12_isBorne_11 rfl rfl ?_
  refine wp_iand (n := 13) K dX12_isBorne_12 rfl ?_
  rw [i3, hbn, band_n (by omega) (by omega)]
  refine wp_invS_i (n := 16) K dX12_isBorne_13 rfl cf_X12_70 (m_bits _ (Nat.lt_of_le_of_lt Nat.and_le_left (by omega)) _ _) rfl rfl (by decide) ⟨Nat.le_refl _, Nat.le_refl _⟩ (Nat.le_of_ble_eq_true rfl) ?_
  refine wp_aload_n (n := 17) K dX12_isBorne_16 rfl rfl ?_
  refine wp_getF (n := 20) K dX12_isBorne_17 rfl fl_X12_7 rfl (liS rfl) rfl rfl ?_
  refine wp_iload_n (n := 21) K dX12_isBorne_20 rfl rfl ?_
  refine wp_invS_i (n := 24) K dX12_isBorne_21 rfl cf_X12_74 (m_stoneAt _ _ _) rfl rfl (by decide) ⟨Nat.le_refl _, Nat.le_refl _⟩ (Nat.le_of_ble_eq_true rfl) ?_
  refine wp_iconst (n := 25) K dX12_isBorne_24 rfl ?_
  refine wp_iadd (n := 26) K dX12_isBorne_25 rfl ?_
  refine wp_iald (n := 27) K dX12_isBorne_26 rfl rfl (liS rfl) ⟨by omega, by omega, by omega⟩ ?_
  try simp only [up_same, up_up, Int.reduceToNat, Int.toNat_natCast]
  rw [i4]
  refine wp_icmp_lt (n := 30) K dX12_isBorne_27 rfl (tgt := 34) (by decide) ⟨by omega, by omega⟩ ⟨by omega, by omega⟩ (fun c27 => ?_) (fun c27 => ?_)
  · refine wp_iconst (n := 35) K dX12_isBorne_34 rfl ?_
    refine ret_z K dX12_isBorne_35 ?_ rfl ?_ ⟨Nat.le_refl _, Nat.le_refl _⟩
    all_goals first | rfl | exact bI_t (by omega) | exact bI_f (by omega)
  · refine wp_iconst (n := 31) K dX12_isBorne_30 rfl ?_
    refine wp_goto K dX12_isBorne_31 (tgt := 35) (by decide) ?_
    refine ret_z K dX12_isBorne_35 ?_ rfl ?_ ⟨Nat.le_refl _, Nat.le_refl _⟩
    all_goals first | rfl | exact bI_t (by omega) | exact bI_f (by omega)


theorem m_standing (set : Nat) (hset : set < 4096) (S : ST) (M : MT) (hw : WS (M 78)) : Ct E1 yX12_standing cX12_standing 3 (some .boolean) rm_X12_standing [.ref 77, .int (z (set : Int))] S M (Pi (bI (standB (M 78) set)) S M) := by
  have h0 := hw.1
  refine Ct.mk [.ref 77, .int (z (set : Int)), mkV] (by decide) rfl (Nat.le_of_ble_eq_true rfl) (fun X K => ?_)
  refine wp_iconst (n := 1) K dX12_standing_0 rfl ?_
  refine wp_istore_n (n := 2) K dX12_standing_1 rfl (by decide) ?_
  have key := dn (M 78 0).toNat (Q := fun k => allB k (fun s => !set.testBit s || borneB (M 78) s set) = true → Wp E1 X 2 [.ref 77, .int (z (set : Int)), .int (z (k : Int))] [] S M) (fun k hk ih hall => ?_) 0 (by omega)
  · exact key rfl
  refine wp_iload_n (n := 3) K dX12_standing_2 rfl rfl ?_
  refine wp_aload_n (n := 4) K dX12_standing_3 rfl rfl ?_
  refine wp_getF (n := 7) K dX12_standing_4 rfl fl_X12_7 rfl (liS rfl) rfl rfl ?_
  refine wp_iconst (n := 8) K dX12_standing_7 rfl ?_
  refine wp_iald (n := 9) K dX12_standing_8 rfl rfl (liS rfl) ⟨by omega, by omega, by omega⟩ ?_
  try simp only [up_same, up_up, Int.reduceToNat, Int.toNat_natCast]
  refine wp_icmp_ge (n := 12) K dX12_standing_9 rfl (tgt := 37) (by decide) ⟨by omega, by omega⟩ ⟨by omega, by omega⟩ (fun c9 => ?_) (fun c9 => ?_)
  · refine wp_iconst (n := 38) K dX12_standing_37 rfl ?_
    refine ret_z K dX12_standing_38 ?_ rfl ?_ ⟨Nat.le_refl _, Nat.le_refl _⟩
    · have : k = (M 78 0).toNat := by omega
      subst this
      show (1 : Int) = bI (allB _ _)
      rw [hall]; rfl
    · rfl
  · refine wp_iload_n (n := 13) K dX12_standing_12 rfl rfl ?_
    refine wp_iload_n (n := 14) K dX12_standing_13 rfl rfl ?_
    refine wp_invS_i (n := 17) K dX12_standing_14 rfl cf_X12_249 (m_has _ _ (by omega) (by omega) _ _) rfl rfl (by decide) ⟨Nat.le_refl _, Nat.le_refl _⟩ (Nat.le_of_ble_eq_true rfl) ?_
    refine wp_if_eq_b (n := 20) K dX12_standing_17 rfl (tgt := 31) (by decide) (fun c17 => ?_) (fun c17 => ?_)
    · refine wp_iinc (n := 34) K dX12_standing_31 rfl rfl (by decide) ?_
      refine wp_goto K dX12_standing_34 (tgt := 2) (by decide) ?_
      refine ih (by omega) ?_
      unfold allB
      simp [hall, c17]
    · refine wp_aload_n (n := 21) K dX12_standing_20 rfl rfl ?_
      refine wp_iload_n (n := 22) K dX12_standing_21 rfl rfl ?_
      refine wp_iload_n (n := 23) K dX12_standing_22 rfl rfl ?_
      refine wp_invV_i (n := 26) K dX12_standing_23 rfl cf_X12_253 (m_isBorne _ _ (by omega) (by omega) _ _ hw) rfl rfl rfl (liS rfl) rfl (by decide) ⟨Nat.le_refl _, Nat.le_refl _⟩ (Nat.le_of_ble_eq_true rfl) ?_
      refine wp_if_ne_b (n := 29) K dX12_standing_26 rfl (tgt := 31) (by decide) (fun c26 => ?_) (fun c26 => ?_)
      · refine wp_iinc (n := 34) K dX12_standing_31 rfl rfl (by decide) ?_
        refine wp_goto K dX12_standing_34 (tgt := 2) (by decide) ?_
        refine ih (by omega) ?_
        unfold allB
        simp [hall, c26]
      · refine wp_iconst (n := 30) K dX12_standing_29 rfl ?_
        refine ret_z K dX12_standing_30 ?_ rfl ?_ ⟨Nat.le_refl _, Nat.le_refl _⟩
        · show (0 : Int) = bI (allB _ _)
          rw [allB_false (k := k) (by omega) (by simp [c17, c26])]; rfl
        · rfl


theorem m_stands (v : Int) (hv : InR v) (S : ST) (M : MT) (hw : WS (M 78)) : Ct E1 yX12_stands cX12_stands 2 (some .boolean) rm_X12_stands [.ref 77, .int (z v)] S M (Pi (bI (decide (0 ≤ v ∧ v < 2 ^ (M 78 0).toNat) && standB (M 78) v.toNat)) S M) := by
  have h0 := hw.1
  have hn0 : M 78 0 = ((M 78 0).toNat : Int) := by omega
  have hp : (2 ^ (M 78 0).toNat : Nat) ≤ 4096 := Nat.pow_le_pow_right (n := 2) (by decide) (show (M 78 0).toNat ≤ 12 by omega)
  have hp1 : 1 ≤ (2 ^ (M 78 0).toNat : Nat) := Nat.one_le_two_pow
  have hc : (2 : Int) ^ (M 78 0).toNat = ((2 ^ (M 78 0).toNat : Nat) : Int) := by rw [Int.natCast_pow]; rfl
  rw [hc]
  generalize hN : (2 ^ (M 78 0).toNat : Nat) = N at hp hp1 ⊢
  refine Ct.mk [.ref 77, .int (z v)] (by decide) rfl (Nat.le_of_ble_eq_true rfl) (fun X K => ?_)
  refine wp_iload_n (n := 1) K dX12_stands_0 rfl rfl ?_
  refine wp_iconst (n := 2) K dX12_stands_1 rfl ?_
  refine wp_aload_n (n := 3) K dX12_stands_2 rfl rfl ?_
  refine wp_invV_i (n := 6) K dX12_stands_3 rfl cf_X12_66 (m_all _ (by omega) _ _ hn0) rfl rfl rfl (liS rfl) rfl (by decide) ⟨Nat.le_refl _, Nat.le_refl _⟩ (Nat.le_of_ble_eq_true rfl) ?_
  rw [hN]
  refine wp_invS_i (n := 9) K dX12_stands_6 rfl cf_X12_62 (m_isIn _ _ _ (by unfold InR; omega) (by unfold InR; omega) (by unfold InR; omega) _ _) rfl rfl (by decide) ⟨Nat.le_refl _, Nat.le_refl _⟩ (Nat.le_of_ble_eq_true rfl) ?_
  refine wp_if_eq_b (n := 12) K dX12_stands_9 rfl (tgt := 24) (by decide) (fun c9 => ?_) (fun c9 => ?_)
  · refine wp_iconst (n := 25) K dX12_stands_24 rfl ?_
    refine ret_z K dX12_stands_25 ?_ rfl ?_ ⟨Nat.le_refl _, Nat.le_refl _⟩
    · have : ¬ (0 ≤ v ∧ v ≤ ((N - 1 : Nat) : Int)) := of_decide_eq_false c9
      rw [decide_eq_false (by omega)]; rfl
    · rfl
  · have hin : 0 ≤ v ∧ v ≤ ((N - 1 : Nat) : Int) := of_decide_eq_true c9
    obtain ⟨n, rfl⟩ : ∃ n : Nat, v = n := ⟨v.toNat, by omega⟩
    refine wp_aload_n (n := 13) K dX12_stands_12 rfl rfl ?_
    refine wp_iload_n (n := 14) K dX12_stands_13 rfl rfl ?_
    refine wp_invV_i (n := 17) K dX12_stands_14 rfl cf_X12_256 (m_standing _ (by omega) _ _ hw) rfl rfl rfl (liS rfl) rfl (by decide) ⟨Nat.le_refl _, Nat.le_refl _⟩ (Nat.le_of_ble_eq_true rfl) ?_
    refine wp_if_eq_b (n := 20) K dX12_stands_17 rfl (tgt := 24) (by decide) (fun c17 => ?_) (fun c17 => ?_)
    · refine wp_iconst (n := 25) K dX12_stands_24 rfl ?_
      refine ret_z K dX12_stands_25 ?_ rfl ?_ ⟨Nat.le_refl _, Nat.le_refl _⟩
      · rw [decide_eq_true (by omega), Int.toNat_natCast, c17]; rfl
      · rfl
    · refine wp_iconst (n := 21) K dX12_stands_20 rfl ?_
      refine wp_goto K dX12_stands_21 (tgt := 25) (by decide) ?_
      refine ret_z K dX12_stands_25 ?_ rfl ?_ ⟨Nat.le_refl _, Nat.le_refl _⟩
      · rw [decide_eq_true (by omega), Int.toNat_natCast, c17]; rfl
      · rfl
