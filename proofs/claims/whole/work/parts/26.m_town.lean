theorem brem_n {a d : Nat} (ha : a < 2147483648) (h0 : 0 < d) (hd : d < 2147483648) : brem (a : Int) (d : Int) = ((a % d : Nat) : Int) := by
  unfold brem
  rw [zn a, zn d, pk_rem (by omega) h0 (by omega), nI_toInt (Nat.lt_of_le_of_lt (Nat.mod_le _ _) (by omega))]
theorem bdiv_n {a d : Nat} (ha : a < 2147483648) (h0 : 0 < d) (hd : d < 2147483648) : bdiv (a : Int) (d : Int) = ((a / d : Nat) : Int) := by
  unfold bdiv
  rw [zn a, zn d, pk_div (by omega) h0 (by omega), nI_toInt (Nat.lt_of_le_of_lt (Nat.div_le_self _ _) (by omega))]
theorem bldiv_v {x y : Int} (hx : -9223372036854775807 ≤ x ∧ x < 9223372036854775808) (hy : -9223372036854775808 ≤ y ∧ y < 9223372036854775808) : bldiv x y = Int.tdiv x y := by
  unfold bldiv
  have e : (zl x).toInt = x := by rw [zl_toInt]; exact w64_id (by omega) hx.2
  have e2 : (zl y).toInt = y := by rw [zl_toInt]; exact w64_id hy.1 hy.2
  rw [Int64.toInt_div_of_ne_left _ _ (fun h => by have := congrArg Int64.toInt h; rw [e] at this; have h2 : (Int64.minValue).toInt = -9223372036854775808 := rfl; omega), e, e2]
theorem blrem_n {a d : Nat} (ha : a < 4611686018427387904) (h0 : 0 < d) (hd : d < 4611686018427387904) : blrem (a : Int) (d : Int) = ((a % d : Nat) : Int) := by
  have hb := bldiv_v (x := (a : Int)) (y := (d : Int)) (by omega) (by omega)
  have ht : Int.tdiv (a : Int) (d : Int) = ((a / d : Nat) : Int) := rfl
  unfold bldiv at hb
  rw [ht] at hb
  have e1 : zl (a : Int) / zl (d : Int) = zl ((a / d : Nat) : Int) := by rw [← hb, zl_self]
  unfold blrem
  rw [e1, zl_mul, zl_sub, zl_toInt]
  have hdm := Nat.div_add_mod a d
  have hml := Nat.mod_lt a h0
  have e3 : (a : Int) - ((a / d : Nat) : Int) * (d : Int) = ((a % d : Nat) : Int) := by
    have : ((d * (a / d) + a % d : Nat) : Int) = (a : Int) := by rw [hdm]
    rw [Int.natCast_add, Int.natCast_mul, Int.mul_comm] at this
    omega
  rw [e3]
  exact w64_id (by omega) (by omega)
def nxd (x : Nat) : Nat := (x * 181 + 37) % 30091

theorem m_draw (d x : Nat) (hd : 0 < d) (hd2 : d < 1000) (hx : x < 100000) (S : ST) (M : MT) (h : M 77 31 = x) : Ct E1 yX12_draw cX12_draw 3 (some .int) rm_X12_draw [.ref 77, .int (z (d : Int))] S M (Pi ((x % d : Nat) : Int) S (up M 77 (up (M 77) 31 ((nxd x : Nat) : Int)))) := by
  refine Ct.mk [.ref 77, .int (z (d : Int)), mkV] (by decide) rfl (Nat.le_of_ble_eq_true rfl) (fun X K => ?_)
  refine wp_aload_n (n := 1) K dX12_draw_0 rfl rfl ?_
  refine wp_getI (n := 4) K dX12_draw_1 rfl fl_X12_324 rfl (liS rfl) rfl ?_
  try simp only [up_same, up_up, Int.reduceToNat, Int.toNat_natCast]
  refine wp_iload_n (n := 5) K dX12_draw_4 rfl rfl ?_
  refine wp_irem (n := 6) K dX12_draw_5 rfl (by rw [w32_id (by omega) (by omega)]; omega) ?_
  refine wp_istore_n (n := 7) K dX12_draw_6 rfl (by decide) ?_
  refine wp_aload_n (n := 8) K dX12_draw_7 rfl rfl ?_
  refine wp_aload_n (n := 9) K dX12_draw_8 rfl rfl ?_
  refine wp_getI (n := 12) K dX12_draw_9 rfl fl_X12_324 rfl (liS rfl) rfl ?_
  try simp only [up_same, up_up, Int.reduceToNat, Int.toNat_natCast]
  refine wp_i2l (n := 13) K dX12_draw_12 rfl ⟨by omega, by omega⟩ ?_
  refine wp_ldc2 (n := 16) K dX12_draw_13 rfl (181) co_X12_327 ?_
  refine wp_lmul (n := 17) K dX12_draw_16 rfl ?_
  refine wp_ldc2 (n := 20) K dX12_draw_17 rfl (37) co_X12_329 ?_
  refine wp_ladd (n := 21) K dX12_draw_20 rfl ?_
  refine wp_ldc2 (n := 24) K dX12_draw_21 rfl (30091) co_X12_331 ?_
  refine wp_lrem (n := 25) K dX12_draw_24 rfl (by decide) ?_
  refine wp_l2i (n := 26) K dX12_draw_25 rfl ?_
  have e2 : blrem (M 77 31 * 181 + 37) 30091 = ((nxd x : Nat) : Int) := by
    rw [h, show ((x : Int) * 181 + 37) = ((x * 181 + 37 : Nat) : Int) by omega, show (30091 : Int) = ((30091 : Nat) : Int) from rfl, blrem_n (by omega) (by omega) (by omega)]; rfl
  rw [e2]
  refine wp_putI (n := 29) K dX12_draw_26 rfl fl_X12_324 rfl (liS rfl) (Or.inl rfl) rfl rfl ?_
  try simp only [up_same, up_up, Int.reduceToNat, Int.toNat_natCast]
  refine wp_iload_n (n := 30) K dX12_draw_29 rfl rfl ?_
  refine ret_i K dX12_draw_30 ?_ rfl ?_ ⟨Nat.le_refl _, Nat.le_refl _⟩
  · rw [h]; exact brem_n (by omega) hd (by omega)
  · rfl
/-- the place of the w-th bit from a place on -/
def nb : Nat → Nat → Nat → Nat → Nat
  | 0, _, t, _ => t
  | f + 1, n, t, w => if n.testBit t = true ∧ w = 0 then t else nb f n (t + 1) (w - (n.testBit t).toNat)
def nthB (n w : Nat) : Nat := nb 12 n 0 w
def townS (σ : Nat → Int) (x did : Nat) : (Nat → Int) × Nat × Nat :=
  let h := x % (σ 3).toNat
  if cnt 12 (nrN σ h) = 0 then (σ, nxd x, did) else
  let to := nthB (nrN σ h) (nxd x % cnt 12 (nrN σ h))
  if 0 < σ (70 + 3 * h) then (lendsA σ h to, nxd (nxd x), did + 1) else (σ, nxd (nxd x), did)
def townT (σ : Nat → Int) (x : Nat) : Nat → (Nat → Int) × Nat × Nat
  | 0 => (σ, x, 0)
  | k + 1 => townS (townT σ x k).1 (townT σ x k).2.1 (townT σ x k).2.2
theorem nxd_lt (x : Nat) : nxd x < 30091 := Nat.mod_lt _ (by decide)
/-- bits from k on -/
theorem cnt_s (k n : Nat) : cnt (k + 1) n = cnt k n + (n.testBit k).toNat := rfl
theorem cnt_mono (n : Nat) {a b : Nat} (h : a ≤ b) : cnt a n ≤ cnt b n := by
  induction b with
  | zero => rw [show a = 0 by omega]; exact Nat.le_refl _
  | succ b ih =>
    by_cases he : a = b + 1
    · rw [he]; exact Nat.le_refl _
    · have := ih (by omega); rw [cnt_s]; omega
theorem nb_ok (n : Nat) : ∀ (f t w : Nat), f + t = 12 → cnt t n + w < cnt 12 n → n.testBit (nb f n t w) = true ∧ nb f n t w < 12 := by
  intro f
  induction f with
  | zero => intro t w h1 h2; rw [show t = 12 by omega] at h2; omega
  | succ f ih =>
    intro t w h1 h2
    unfold nb
    split
    · rename_i h; exact ⟨h.1, by omega⟩
    · rename_i h
      refine ih (t + 1) _ (by omega) ?_
      rw [cnt_s]
      cases hb : n.testBit t with
      | false => simp; omega
      | true =>
        have : w ≠ 0 := fun q => h ⟨hb, q⟩
        simp; omega
theorem lt1024 {n t : Nat} (hn : n < 1024) (h : n.testBit t = true) : t < 10 := by
  rcases Nat.lt_or_ge t 10 with q | q
  · exact q
  · have : n.testBit t = false := Nat.testBit_lt_two_pow (Nat.lt_of_lt_of_le hn (Nat.pow_le_pow_right (n := 2) (by decide) q : 2 ^ 10 ≤ 2 ^ t))
    rw [this] at h; cases h
theorem nthB_ok {n w : Nat} (hn : n < 1024) (h : w < cnt 12 n) : n.testBit (nthB n w) = true ∧ nthB n w < 10 := by
  have := nb_ok n 12 0 w rfl (by rw [show cnt 0 n = 0 from rfl]; omega)
  exact ⟨this.1, lt1024 hn this.1⟩

theorem keepA_h (σ : Nat → Int) (h6 : 0 ≤ σ 6 ∧ σ 6 ≤ 30) (j : Nat) (hj : j ≠ 6) (h2 : j < 120) : keepA σ j = σ j := by
  unfold keepA
  rw [up_ne _ _ hj, rowT_lo _ _ _ _ (by omega)]
  unfold keep1
  split
  · rw [up_ne _ _ hj, shiftA_lo _ _ _ (by omega)]
  · rfl
theorem nrN_congr {σ τ : Nat → Int} (h : Nat) (e : σ (72 + 3 * h) = τ (72 + 3 * h)) : nrN σ h = nrN τ h := by unfold nrN; rw [e]
theorem canL_congr {σ τ : Nat → Int} (h : ∀ j, j < 120 → j ≠ 6 → σ j = τ j) (a b : Int) (h3 : σ 3 ≤ 10) : canL σ a b ↔ canL τ a b := by
  unfold canL
  rw [h 3 (by omega) (by omega)] at *
  constructor
  · rintro ⟨q1, q2, q3, q4⟩
    exact ⟨q1, q2, by rw [← nrN_congr _ (h _ (by omega) (by omega))]; exact q3, by rw [← h _ (by omega) (by omega)]; exact q4⟩
  · rintro ⟨q1, q2, q3, q4⟩
    exact ⟨q1, q2, by rw [nrN_congr _ (h _ (by omega) (by omega))]; exact q3, by rw [h _ (by omega) (by omega)]; exact q4⟩
theorem m_lend (h t : Int) (h1 : InR h) (h2 : InR t) (S : ST) (M : MT) (hw : WH (M 78)) (h6 : 0 ≤ M 78 6 ∧ M 78 6 ≤ 30) : (canL (M 78) h t → Ct E1 yX12_lend cX12_lend 3 (some .int) rm_X12_lend [.ref 77, .int (z h), .int (z t)] S M (Pi (lendsA (keepA (M 78)) h.toNat t.toNat (70 + 3 * h.toNat)) S (up M 78 (lendsA (keepA (M 78)) h.toNat t.toNat)))) ∧ (¬ canL (M 78) h t → Ct E1 yX12_lend cX12_lend 3 (some .int) rm_X12_lend [.ref 77, .int (z h), .int (z t)] S M (Pi (-1) S M)) := by
  constructor
  · intro hc
    have h3 := hw.1
    obtain ⟨g1, g2, -⟩ := id hc
    obtain ⟨a, rfl⟩ : ∃ a : Nat, h = a := ⟨h.toNat, by omega⟩
    obtain ⟨b, rfl⟩ : ∃ a : Nat, t = a := ⟨t.toNat, by omega⟩
    refine Ct.mk [.ref 77, .int (z (a : Int)), .int (z (b : Int))] (by decide) rfl (Nat.le_of_ble_eq_true rfl) (fun X K => ?_)
    refine wp_aload_n (n := 1) K dX12_lend_0 rfl rfl ?_
    refine wp_iload_n (n := 2) K dX12_lend_1 rfl rfl ?_
    refine wp_iload_n (n := 3) K dX12_lend_2 rfl rfl ?_
    refine wp_invV_i (n := 6) K dX12_lend_3 rfl cf_X12_287 (m_canLend _ _ h1 h2 _ _ hw true ⟨fun _ => hc, fun _ => rfl⟩) rfl rfl rfl (liS rfl) rfl (by decide) ⟨Nat.le_refl _, Nat.le_refl _⟩ (Nat.le_of_ble_eq_true rfl) ?_
    refine wp_if_ne_b (n := 9) K dX12_lend_6 rfl (tgt := 11) (by decide) (fun c6 => ?_) (fun c6 => ?_)
    · refine wp_aload_n (n := 12) K dX12_lend_11 rfl rfl ?_
      refine wp_invV_n (n := 15) K dX12_lend_12 rfl cf_X12_284 (m_keep _ _ h6) rfl rfl rfl (liS rfl) rfl (by decide) ⟨Nat.le_refl _, Nat.le_refl _⟩ (Nat.le_of_ble_eq_true rfl) ?_
      refine wp_aload_n (n := 16) K dX12_lend_15 rfl rfl ?_
      refine wp_iload_n (n := 17) K dX12_lend_16 rfl rfl ?_
      refine wp_iload_n (n := 18) K dX12_lend_17 rfl rfl ?_
      refine wp_invV_n (n := 21) K dX12_lend_18 rfl cf_X12_290 (m_lends _ _ (by omega) (by omega) _ _) rfl rfl rfl (liS rfl) rfl (by decide) ⟨Nat.le_refl _, Nat.le_refl _⟩ (Nat.le_of_ble_eq_true rfl) ?_
      rw [up_same, up_up]
      refine wp_aload_n (n := 22) K dX12_lend_21 rfl rfl ?_
      refine wp_getF (n := 25) K dX12_lend_22 rfl fl_X12_7 rfl (liS rfl) rfl rfl ?_
      refine wp_iload_n (n := 26) K dX12_lend_25 rfl rfl ?_
      refine wp_invS_i (n := 29) K dX12_lend_26 rfl cf_X12_77 (m_houseAt _ _ _) rfl rfl (by decide) ⟨Nat.le_refl _, Nat.le_refl _⟩ (Nat.le_of_ble_eq_true rfl) ?_
      refine wp_iald (n := 30) K dX12_lend_29 rfl rfl (liS rfl) ⟨by omega, by omega, by omega⟩ ?_
      try simp only [up_same, up_up, Int.reduceToNat, Int.toNat_natCast]
      refine ret_i K dX12_lend_30 ?_ rfl ?_ ⟨Nat.le_refl _, Nat.le_refl _⟩
      · rw [show (70 + 3 * (a : Int)).toNat = 70 + 3 * a by omega]; rfl
      · rfl
    · cases c6
  · intro hc
    refine Ct.mk [.ref 77, .int (z h), .int (z t)] (by decide) rfl (Nat.le_of_ble_eq_true rfl) (fun X K => ?_)
    refine wp_aload_n (n := 1) K dX12_lend_0 rfl rfl ?_
    refine wp_iload_n (n := 2) K dX12_lend_1 rfl rfl ?_
    refine wp_iload_n (n := 3) K dX12_lend_2 rfl rfl ?_
    refine wp_invV_i (n := 6) K dX12_lend_3 rfl cf_X12_287 (m_canLend _ _ h1 h2 _ _ hw false ⟨fun q => (by cases q), fun q => absurd q hc⟩) rfl rfl rfl (liS rfl) rfl (by decide) ⟨Nat.le_refl _, Nat.le_refl _⟩ (Nat.le_of_ble_eq_true rfl) ?_
    refine wp_if_ne_b (n := 9) K dX12_lend_6 rfl (tgt := 11) (by decide) (fun c6 => ?_) (fun c6 => ?_)
    · cases c6
    · refine wp_iconst (n := 10) K dX12_lend_9 rfl ?_
      refine ret_i K dX12_lend_10 ?_ rfl ?_ ⟨Nat.le_refl _, Nat.le_refl _⟩
      all_goals rfl

theorem m_out (s : Int) (hs : InR s) (S : ST) (M : MT) (hw : WS (M 78)) (h6 : 0 ≤ M 78 6 ∧ M 78 6 ≤ 30) (L : Nat) (hL : M 78 1 = L) (hL2 : L < 4096) : ((0 ≤ s ∧ s < M 78 0) ∧ L.testBit s.toNat = true ∧ standB (M 78) (wo L (2 ^ s.toNat)) = true → Ct E1 yX12_out cX12_out 2 (some .int) rm_X12_out [.ref 77, .int (z s)] S M (Pi (cnt 12 (wo L (2 ^ s.toNat)) : Int) S (up M 78 (up (keepA (M 78)) 1 ((wo L (2 ^ s.toNat) : Nat) : Int))))) ∧ (¬ ((0 ≤ s ∧ s < M 78 0) ∧ L.testBit s.toNat = true ∧ standB (M 78) (wo L (2 ^ s.toNat)) = true) → Ct E1 yX12_out cX12_out 2 (some .int) rm_X12_out [.ref 77, .int (z s)] S M (Pi (-1) S M)) := by
  have h0 := hw.1
  have hn0 : M 78 0 = ((M 78 0).toNat : Int) := by omega
  constructor
  · rintro ⟨g1, g2, g3⟩
    obtain ⟨a, rfl⟩ : ∃ a : Nat, s = a := ⟨s.toNat, by omega⟩
    rw [Int.toNat_natCast] at g2 g3 ⊢
    have hwl := wo_le L (2 ^ a)
    have hp : 2 ^ a < 4096 := Nat.pow_lt_pow_right (by decide) (show a < 12 by omega)
    refine Ct.mk [.ref 77, .int (z (a : Int))] (by decide) rfl (Nat.le_of_ble_eq_true rfl) (fun X K => ?_)
    refine wp_aload_n (n := 1) K dX12_out_0 rfl rfl ?_
    refine wp_iload_n (n := 2) K dX12_out_1 rfl rfl ?_
    refine wp_invV_i (n := 5) K dX12_out_2 rfl cf_X12_272 (m_isStone _ (by unfold InR; omega) _ (by omega) _ _ hn0) rfl rfl rfl (liS rfl) rfl (by decide) ⟨Nat.le_refl _, Nat.le_refl _⟩ (Nat.le_of_ble_eq_true rfl) ?_
    refine wp_if_eq_b (n := 8) K dX12_out_5 rfl (tgt := 40) (by decide) (fun c5 => ?_) (fun c5 => ?_)
    · have := of_decide_eq_false c5; omega
    refine wp_aload_n (n := 9) K dX12_out_8 rfl rfl ?_
    refine wp_getF (n := 12) K dX12_out_9 rfl fl_X12_7 rfl (liS rfl) rfl rfl ?_
    refine wp_iconst (n := 13) K dX12_out_12 rfl ?_
    refine wp_iald (n := 14) K dX12_out_13 rfl rfl (liS rfl) ⟨by omega, by omega, by omega⟩ ?_
    try simp only [up_same, up_up, Int.reduceToNat, Int.toNat_natCast]
    refine wp_iload_n (n := 15) K dX12_out_14 rfl rfl ?_
    rw [hL]
    refine wp_invS_i (n := 18) K dX12_out_15 rfl cf_X12_249 (m_has _ _ (by omega) (by omega) _ _) rfl rfl (by decide) ⟨Nat.le_refl _, Nat.le_refl _⟩ (Nat.le_of_ble_eq_true rfl) ?_
    refine wp_if_eq_b (n := 21) K dX12_out_18 rfl (tgt := 40) (by decide) (fun c18 => ?_) (fun c18 => ?_)
    · rw [g2] at c18; cases c18
    refine wp_aload_n (n := 22) K dX12_out_21 rfl rfl ?_
    refine wp_aload_n (n := 23) K dX12_out_22 rfl rfl ?_
    refine wp_getF (n := 26) K dX12_out_23 rfl fl_X12_7 rfl (liS rfl) rfl rfl ?_
    refine wp_iconst (n := 27) K dX12_out_26 rfl ?_
    refine wp_iald (n := 28) K dX12_out_27 rfl rfl (liS rfl) ⟨by omega, by omega, by omega⟩ ?_
    try simp only [up_same, up_up, Int.reduceToNat, Int.toNat_natCast]
    refine wp_iconst (n := 29) K dX12_out_28 rfl ?_
    refine wp_iload_n (n := 30) K dX12_out_29 rfl rfl ?_
    refine wp_ishl (n := 31) K dX12_out_30 rfl ?_
    refine wp_iconst (n := 32) K dX12_out_31 rfl ?_
    refine wp_ixor (n := 33) K dX12_out_32 rfl ?_
    refine wp_iand (n := 34) K dX12_out_33 rfl ?_
    rw [hL, bshl_1 (by omega), bandn_n (by omega) (by omega)]
    refine wp_invV_i (n := 37) K dX12_out_34 rfl cf_X12_256 (m_standing _ (by omega) _ _ hw) rfl rfl rfl (liS rfl) rfl (by decide) ⟨Nat.le_refl _, Nat.le_refl _⟩ (Nat.le_of_ble_eq_true rfl) ?_
    refine wp_if_ne_b (n := 40) K dX12_out_37 rfl (tgt := 42) (by decide) (fun c37 => ?_) (fun c37 => ?_)
    rotate_left
    · rw [g3] at c37; cases c37
    have k1 : keepA (M 78) 1 = L := by rw [keepA_h _ h6 1 (by omega) (by omega), hL]
    refine wp_aload_n (n := 43) K dX12_out_42 rfl rfl ?_
    refine wp_invV_n (n := 46) K dX12_out_43 rfl cf_X12_284 (m_keep _ _ h6) rfl rfl rfl (liS rfl) rfl (by decide) ⟨Nat.le_refl _, Nat.le_refl _⟩ (Nat.le_of_ble_eq_true rfl) ?_
    refine wp_aload_n (n := 47) K dX12_out_46 rfl rfl ?_
    refine wp_getF (n := 50) K dX12_out_47 rfl fl_X12_7 rfl (liS rfl) rfl rfl ?_
    refine wp_iconst (n := 51) K dX12_out_50 rfl ?_
    refine wp_dup2 (n := 52) K dX12_out_51 rfl rfl rfl ?_
    refine wp_iald (n := 53) K dX12_out_52 rfl rfl (liS rfl) ⟨by omega, by omega, by omega⟩ ?_
    try simp only [up_same, up_up, Int.reduceToNat, Int.toNat_natCast]
    refine wp_iconst (n := 54) K dX12_out_53 rfl ?_
    refine wp_iload_n (n := 55) K dX12_out_54 rfl rfl ?_
    refine wp_ishl (n := 56) K dX12_out_55 rfl ?_
    refine wp_iconst (n := 57) K dX12_out_56 rfl ?_
    refine wp_ixor (n := 58) K dX12_out_57 rfl ?_
    refine wp_iand (n := 59) K dX12_out_58 rfl ?_
    refine wp_iast (n := 60) K dX12_out_59 rfl rfl (liS rfl) (fun _ => rfl) ⟨by omega, by omega, by omega⟩ ?_
    try simp only [up_same, up_up, Int.reduceToNat, Int.toNat_natCast]
    rw [k1, bshl_1 (by omega), bandn_n (by omega) (by omega)]
    refine wp_aload_n (n := 61) K dX12_out_60 rfl rfl ?_
    refine wp_getF (n := 64) K dX12_out_61 rfl fl_X12_7 rfl (liS rfl) rfl rfl ?_
    refine wp_iconst (n := 65) K dX12_out_64 rfl ?_
    refine wp_iald (n := 66) K dX12_out_65 rfl rfl (liS rfl) ⟨by omega, by omega, by omega⟩ ?_
    try simp only [up_same, up_up, Int.reduceToNat, Int.toNat_natCast]
    refine wp_invS_i (n := 69) K dX12_out_66 rfl cf_X12_70 (m_bits _ (by omega) _ _) rfl rfl (by decide) ⟨Nat.le_refl _, Nat.le_refl _⟩ (Nat.le_of_ble_eq_true rfl) ?_
    refine ret_i K dX12_out_69 ?_ rfl ?_ ⟨Nat.le_refl _, Nat.le_refl _⟩
    · rfl
    · rfl
  · intro hno
    refine Ct.mk [.ref 77, .int (z s)] (by decide) rfl (Nat.le_of_ble_eq_true rfl) (fun X K => ?_)
    refine wp_aload_n (n := 1) K dX12_out_0 rfl rfl ?_
    refine wp_iload_n (n := 2) K dX12_out_1 rfl rfl ?_
    refine wp_invV_i (n := 5) K dX12_out_2 rfl cf_X12_272 (m_isStone _ (by unfold InR; omega) _ (by omega) _ _ hn0) rfl rfl rfl (liS rfl) rfl (by decide) ⟨Nat.le_refl _, Nat.le_refl _⟩ (Nat.le_of_ble_eq_true rfl) ?_
    refine wp_if_eq_b (n := 8) K dX12_out_5 rfl (tgt := 40) (by decide) (fun c5 => ?_) (fun c5 => ?_)
    · refine wp_iconst (n := 41) K dX12_out_40 rfl ?_
      refine ret_i K dX12_out_41 ?_ rfl ?_ ⟨Nat.le_refl _, Nat.le_refl _⟩
      all_goals rfl
    have g1 := of_decide_eq_true c5
    obtain ⟨a, rfl⟩ : ∃ a : Nat, s = a := ⟨s.toNat, by omega⟩
    rw [Int.toNat_natCast] at hno
    have hwl := wo_le L (2 ^ a)
    have hp : 2 ^ a < 4096 := Nat.pow_lt_pow_right (by decide) (show a < 12 by omega)
    refine wp_aload_n (n := 9) K dX12_out_8 rfl rfl ?_
    refine wp_getF (n := 12) K dX12_out_9 rfl fl_X12_7 rfl (liS rfl) rfl rfl ?_
    refine wp_iconst (n := 13) K dX12_out_12 rfl ?_
    refine wp_iald (n := 14) K dX12_out_13 rfl rfl (liS rfl) ⟨by omega, by omega, by omega⟩ ?_
    try simp only [up_same, up_up, Int.reduceToNat, Int.toNat_natCast]
    refine wp_iload_n (n := 15) K dX12_out_14 rfl rfl ?_
    rw [hL]
    refine wp_invS_i (n := 18) K dX12_out_15 rfl cf_X12_249 (m_has _ _ (by omega) (by omega) _ _) rfl rfl (by decide) ⟨Nat.le_refl _, Nat.le_refl _⟩ (Nat.le_of_ble_eq_true rfl) ?_
    refine wp_if_eq_b (n := 21) K dX12_out_18 rfl (tgt := 40) (by decide) (fun c18 => ?_) (fun c18 => ?_)
    · refine wp_iconst (n := 41) K dX12_out_40 rfl ?_
      refine ret_i K dX12_out_41 ?_ rfl ?_ ⟨Nat.le_refl _, Nat.le_refl _⟩
      all_goals rfl
    refine wp_aload_n (n := 22) K dX12_out_21 rfl rfl ?_
    refine wp_aload_n (n := 23) K dX12_out_22 rfl rfl ?_
    refine wp_getF (n := 26) K dX12_out_23 rfl fl_X12_7 rfl (liS rfl) rfl rfl ?_
    refine wp_iconst (n := 27) K dX12_out_26 rfl ?_
    refine wp_iald (n := 28) K dX12_out_27 rfl rfl (liS rfl) ⟨by omega, by omega, by omega⟩ ?_
    try simp only [up_same, up_up, Int.reduceToNat, Int.toNat_natCast]
    refine wp_iconst (n := 29) K dX12_out_28 rfl ?_
    refine wp_iload_n (n := 30) K dX12_out_29 rfl rfl ?_
    refine wp_ishl (n := 31) K dX12_out_30 rfl ?_
    refine wp_iconst (n := 32) K dX12_out_31 rfl ?_
    refine wp_ixor (n := 33) K dX12_out_32 rfl ?_
    refine wp_iand (n := 34) K dX12_out_33 rfl ?_
    rw [hL, bshl_1 (by omega), bandn_n (by omega) (by omega)]
    refine wp_invV_i (n := 37) K dX12_out_34 rfl cf_X12_256 (m_standing _ (by omega) _ _ hw) rfl rfl rfl (liS rfl) rfl (by decide) ⟨Nat.le_refl _, Nat.le_refl _⟩ (Nat.le_of_ble_eq_true rfl) ?_
    refine wp_if_ne_b (n := 40) K dX12_out_37 rfl (tgt := 42) (by decide) (fun c37 => ?_) (fun c37 => ?_)
    · exact absurd ⟨by omega, c18, c37⟩ hno
    · refine wp_iconst (n := 41) K dX12_out_40 rfl ?_
      refine ret_i K dX12_out_41 ?_ rfl ?_ ⟨Nat.le_refl _, Nat.le_refl _⟩
      all_goals rfl
