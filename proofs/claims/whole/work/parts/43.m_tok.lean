/-! TOKENS, of a row of bytes b with n of them -/
def bA (b : Nat → Int) (n p : Nat) : Int := if p < n then b p else -1
def isLet (c : Int) : Bool := decide (97 ≤ c ∧ c ≤ 122) || decide (65 ≤ c ∧ c ≤ 90)
def isDig (c : Int) : Bool := decide (48 ≤ c ∧ c ≤ 57)
def isBl (c : Int) : Bool := decide (c = 32) || decide (c = 10)
/-- from p on: the first place whose byte isn't of a kind -/
def skp (q : Int → Bool) (b : Nat → Int) (n : Nat) : Nat → Nat → Nat
  | 0, p => p
  | f + 1, p => if q (bA b n p) = true then skp q b n f (p + 1) else p
def spn (q : Int → Bool) (b : Nat → Int) (n p : Nat) : Nat := skp q b n (n + 1 - p) p
theorem bA_neg {b : Nat → Int} {n p : Nat} (h : n ≤ p) : bA b n p = -1 := if_neg (by omega)
theorem spn_step {q : Int → Bool} {b : Nat → Int} {n p : Nat} (hq : q (-1) = false) (h : q (bA b n p) = true) : spn q b n p = spn q b n (p + 1) ∧ p < n := by
  have hp : p < n := by
    rcases Nat.lt_or_ge p n with r | r
    · exact r
    · rw [bA_neg r, hq] at h; cases h
  refine ⟨?_, hp⟩
  unfold spn
  rw [show n + 1 - p = (n + 1 - (p + 1)) + 1 by omega]
  show (if q (bA b n p) = true then skp q b n (n + 1 - (p + 1)) (p + 1) else p) = _
  rw [if_pos h]
theorem spn_stop {q : Int → Bool} {b : Nat → Int} {n p : Nat} (h : q (bA b n p) = false) : spn q b n p = p := by
  unfold spn
  cases hf : n + 1 - p with
  | zero => rfl
  | succ f => show (if q (bA b n p) = true then _ else p) = p; rw [h, if_neg (by decide)]
theorem skp_r (q : Int → Bool) (b : Nat → Int) (n : Nat) (hq : q (-1) = false) : ∀ f p, p ≤ n → p ≤ skp q b n f p ∧ skp q b n f p ≤ n := by
  intro f
  induction f with
  | zero => intro p hp; exact ⟨Nat.le_refl _, hp⟩
  | succ f ih =>
    intro p hp
    unfold skp
    split
    · rename_i h
      have hpn : p < n := by
        rcases Nat.lt_or_ge p n with r | r
        · exact r
        · rw [bA_neg r, hq] at h; cases h
      have := ih (p + 1) hpn
      omega
    · omega
theorem spn_r {q : Int → Bool} (b : Nat → Int) {n p : Nat} (hq : q (-1) = false) (hp : p ≤ n) : p ≤ spn q b n p ∧ spn q b n p ≤ n := skp_r q b n hq _ p hp
/-- a number's digits, from p to e: 10000 stands for all that is more than 9999 -/
def dgV (b : Nat → Int) (p : Nat) : Nat → Int
  | 0 => 0
  | k + 1 => min 10000 (10 * dgV b p k + (b (p + k) - 48))
/-- the bytes of a word, one number -/
def pk (b : Nat → Int) (p : Nat) : Nat → Int
  | 0 => 0
  | k + 1 => pk b p k * 256 + b (p + k)
def WL : List (List Int) := [[115, 116, 111, 110, 101], [119, 101, 105, 103, 104, 116], [104, 101, 105, 103, 104, 116], [118, 101, 105, 110], [108, 97, 105, 100], [116, 111, 112], [104, 111, 117, 114], [113, 117, 97, 114, 114, 121], [108, 105, 102, 116], [109, 97, 121], [102, 105, 116, 115], [108, 97, 121], [111, 117, 116], [108, 101, 110, 100], [116, 111], [111, 114], [97, 110, 100], [110, 111, 116]]
def letters (b : Nat → Int) (p e : Nat) : List Int := (List.range (e - p)).map (fun i => b (p + i))
def wdK (w : List Int) : Nat := match WL.findIdx? (fun x => decide (x = w)) with
  | some i => i
  | none => 42
def sgK (c : Int) : Nat := if c = 60 then 20 else if c = 62 then 21 else if c = 61 then 22 else if c = 35 then 23 else if c = 43 then 24 else if c = 45 then 25 else if c = 42 then 26 else if c = 47 then 27 else if c = 40 then 28 else if c = 41 then 29 else if c = 59 then 30 else 42
/-- the TOKEN behind the blanks from p on: kind, value, start, what follows -/
def tokK (b : Nat → Int) (n p : Nat) : Nat × Int × Nat :=
  let c := bA b n p
  if c < 0 then (41, 0, p)
  else if isDig c then (40, dgV b p (spn isDig b n p - p), spn isDig b n p)
  else if isLet c then (wdK (letters b p (spn isLet b n p)), 0, spn isLet b n p)
  else if (c = 60 ∨ c = 62) ∧ bA b n (p + 1) = 61 then (if c = 60 then 31 else 32, 0, p + 2)
  else (sgK c, 0, p + 1)

theorem m_byteAt (p n : Nat) (hp : p ≤ 400) (hn : n ≤ 300) (S : ST) (M : MT) (h4 : M 77 4 = n) : Ct E1 yX12_byteAt cX12_byteAt 2 (some .int) rm_X12_byteAt [.ref 77, .int (z (p : Int))] S M (Pi (bA (M 81) n p) S M) := by
  refine Ct.mk [.ref 77, .int (z (p : Int))] (by decide) rfl (Nat.le_of_ble_eq_true rfl) (fun X K => ?_)
  unfold bA at K
  refine wp_iload_n (n := 1) K dX12_byteAt_0 rfl rfl ?_
  refine wp_aload_n (n := 2) K dX12_byteAt_1 rfl rfl ?_
  refine wp_getI (n := 5) K dX12_byteAt_2 rfl fl_X12_88 rfl (liS rfl) rfl ?_
  try simp only [up_same, up_up, up_ne, ne_eq, Nat.reduceEqDiff, not_false_eq_true, Int.reduceToNat, Int.toNat_natCast]
  rw [h4]
  refine wp_icmp_ge (n := 8) K dX12_byteAt_5 rfl (tgt := 17) (by decide) ⟨by omega, by omega⟩ ⟨by omega, by omega⟩ (fun c5 => ?_) (fun c5 => ?_)
  · rw [if_neg (by omega)] at K
    refine wp_iconst (n := 18) K dX12_byteAt_17 rfl ?_
    refine ret_i K dX12_byteAt_18 ?_ rfl ?_ ⟨Nat.le_refl _, Nat.le_refl _⟩
    all_goals rfl
  · rw [if_pos (by omega)] at K
    refine wp_aload_n (n := 9) K dX12_byteAt_8 rfl rfl ?_
    refine wp_getF (n := 12) K dX12_byteAt_9 rfl fl_X12_19 rfl (liS rfl) rfl rfl ?_
    refine wp_iload_n (n := 13) K dX12_byteAt_12 rfl rfl ?_
    refine wp_iald (n := 14) K dX12_byteAt_13 rfl rfl (liS rfl) ⟨by omega, by omega, by omega⟩ ?_
    try simp only [up_same, up_up, up_ne, ne_eq, Nat.reduceEqDiff, not_false_eq_true, Int.reduceToNat, Int.toNat_natCast]
    refine wp_goto K dX12_byteAt_14 (tgt := 18) (by decide) ?_
    refine ret_i K dX12_byteAt_18 ?_ rfl ?_ ⟨Nat.le_refl _, Nat.le_refl _⟩
    all_goals rfl

theorem m_isDigit {E : ET} (c : Int) (hc : InR c) (S : ST) (M : MT) : Ct E yX12_isDigit cX12_isDigit 1 (some .boolean) rm_X12_isDigit [.int (z c)] S M (Pi (bI (isDig c)) S M) := by
  refine Ct.mk [.int (z c)] (by decide) rfl (Nat.le_of_ble_eq_true rfl) (fun X K => ?_)
  refine wp_iload_n (n := 1) K dX12_isDigit_0 rfl rfl ?_
  refine wp_bipush (n := 3) K dX12_isDigit_1 rfl rfl ?_
  refine wp_bipush (n := 5) K dX12_isDigit_3 rfl rfl ?_
  refine wp_invS_i (n := 8) K dX12_isDigit_5 rfl cf_X12_62 (m_isIn _ _ _ (by unfold InR; omega) (by unfold InR; omega) (by unfold InR; omega) _ _) rfl rfl (by decide) ⟨Nat.le_refl _, Nat.le_refl _⟩ (Nat.le_of_ble_eq_true rfl) ?_
  refine ret_z K dX12_isDigit_8 ?_ rfl ?_ ⟨Nat.le_refl _, Nat.le_refl _⟩
  all_goals rfl

theorem m_isLetter {E : ET} (c : Int) (hc : InR c) (S : ST) (M : MT) : Ct E yX12_isLetter cX12_isLetter 1 (some .boolean) rm_X12_isLetter [.int (z c)] S M (Pi (bI (isLet c)) S M) := by
  refine Ct.mk [.int (z c)] (by decide) rfl (Nat.le_of_ble_eq_true rfl) (fun X K => ?_)
  unfold isLet at K
  refine wp_iload_n (n := 1) K dX12_isLetter_0 rfl rfl ?_
  refine wp_bipush (n := 3) K dX12_isLetter_1 rfl rfl ?_
  refine wp_bipush (n := 5) K dX12_isLetter_3 rfl rfl ?_
  refine wp_invS_i (n := 8) K dX12_isLetter_5 rfl cf_X12_62 (m_isIn _ _ _ (by unfold InR; omega) (by unfold InR; omega) (by unfold InR; omega) _ _) rfl rfl (by decide) ⟨Nat.le_refl _, Nat.le_refl _⟩ (Nat.le_of_ble_eq_true rfl) ?_
  refine wp_if_ne_b (n := 11) K dX12_isLetter_8 rfl (tgt := 22) (by decide) (fun c8 => ?_) (fun c8 => ?_)
  · rw [c8] at K
    refine wp_iconst (n := 23) K dX12_isLetter_22 rfl ?_
    refine wp_goto K dX12_isLetter_23 (tgt := 27) (by decide) ?_
    refine ret_z K dX12_isLetter_27 ?_ rfl ?_ ⟨Nat.le_refl _, Nat.le_refl _⟩
    all_goals rfl
  · rw [c8] at K
    refine wp_iload_n (n := 12) K dX12_isLetter_11 rfl rfl ?_
    refine wp_bipush (n := 14) K dX12_isLetter_12 rfl rfl ?_
    refine wp_bipush (n := 16) K dX12_isLetter_14 rfl rfl ?_
    refine wp_invS_i (n := 19) K dX12_isLetter_16 rfl cf_X12_62 (m_isIn _ _ _ (by unfold InR; omega) (by unfold InR; omega) (by unfold InR; omega) _ _) rfl rfl (by decide) ⟨Nat.le_refl _, Nat.le_refl _⟩ (Nat.le_of_ble_eq_true rfl) ?_
    refine wp_if_eq_b (n := 22) K dX12_isLetter_19 rfl (tgt := 26) (by decide) (fun c19 => ?_) (fun c19 => ?_)
    · rw [c19] at K
      refine wp_iconst (n := 27) K dX12_isLetter_26 rfl ?_
      refine ret_z K dX12_isLetter_27 ?_ rfl ?_ ⟨Nat.le_refl _, Nat.le_refl _⟩
      all_goals rfl
    · rw [c19] at K
      refine wp_iconst (n := 23) K dX12_isLetter_22 rfl ?_
      refine wp_goto K dX12_isLetter_23 (tgt := 27) (by decide) ?_
      refine ret_z K dX12_isLetter_27 ?_ rfl ?_ ⟨Nat.le_refl _, Nat.le_refl _⟩
      all_goals rfl
theorem blshl_8 {a : Nat} (h : a < 36028797018963968) : blshl (a : Int) 8 = ((a * 256 : Nat) : Int) := by
  have e : (z 8).toInt64 &&& 63 = 8 := rfl
  unfold blshl
  rw [e]
  have h1 : zl (a : Int) <<< (8 : Int64) = zl ((a * 256 : Nat) : Int) := by
    apply Int64.toBitVec.inj
    rw [Int64.toBitVec_shiftLeft]
    have e1 : (zl (a : Int)).toBitVec = BitVec.ofNat 64 a := by show (Int64.ofInt (a : Int)).toBitVec = _; rw [Int64.ofInt_eq_ofNat]; rfl
    have e2 : (zl ((a * 256 : Nat) : Int)).toBitVec = BitVec.ofNat 64 (a * 256) := by show (Int64.ofInt ((a * 256 : Nat) : Int)).toBitVec = _; rw [Int64.ofInt_eq_ofNat]; rfl
    rw [e1, e2]
    apply BitVec.eq_of_toNat_eq
    rw [show ((8 : Int64).toBitVec.smod 64) = 8#64 from rfl, BitVec.shiftLeft_eq', BitVec.toNat_shiftLeft, BitVec.toNat_ofNat, BitVec.toNat_ofNat, BitVec.toNat_ofNat, show (8 % 2 ^ 64 : Nat) = 8 from rfl, Nat.shiftLeft_eq, Nat.mod_eq_of_lt (by omega : a < 2 ^ 64)]
  rw [h1, zl_toInt]
  exact w64_id (by omega) (by omega)
theorem blor_8 {a c : Nat} (h : a < 36028797018963968) (hc : c < 256) : blor ((a * 256 : Nat) : Int) (c : Int) = ((a * 256 + c : Nat) : Int) := by
  unfold blor
  have h1 : zl ((a * 256 : Nat) : Int) ||| zl (c : Int) = zl ((a * 256 + c : Nat) : Int) := by
    apply Int64.toBitVec.inj
    rw [Int64.toBitVec_or]
    have e1 : ∀ k : Nat, (zl (k : Int)).toBitVec = BitVec.ofNat 64 k := fun k => by show (Int64.ofInt (k : Int)).toBitVec = _; rw [Int64.ofInt_eq_ofNat]; rfl
    rw [e1, e1, e1]
    apply BitVec.eq_of_toNat_eq
    rw [BitVec.toNat_or, BitVec.toNat_ofNat, BitVec.toNat_ofNat, BitVec.toNat_ofNat, Nat.mod_eq_of_lt (by omega : a * 256 < 2 ^ 64), Nat.mod_eq_of_lt (by omega : c < 2 ^ 64), Nat.mod_eq_of_lt (by omega : a * 256 + c < 2 ^ 64)]
    have := Nat.shiftLeft_add_eq_or_of_lt (b := c) (i := 8) (by omega) a
    rw [Nat.shiftLeft_eq] at this
    exact this.symm
  rw [h1, zl_toInt]
  exact w64_id (by omega) (by omega)
/-- a word's bytes, the last first -/
def rl (b : Nat → Int) (p : Nat) : Nat → List Int
  | 0 => []
  | k + 1 => b (p + k) :: rl b p k
def pkR : List Int → Int
  | [] => 0
  | c :: w => pkR w * 256 + c
theorem rl_pk (b : Nat → Int) (p k : Nat) : pkR (rl b p k) = pk b p k := by
  induction k with
  | zero => rfl
  | succ k ih => show pkR (rl b p k) * 256 + b (p + k) = pk b p k * 256 + b (p + k); rw [ih]
theorem rl_letters (b : Nat → Int) (p k : Nat) : (rl b p k).reverse = letters b p (p + k) := by
  unfold letters
  rw [Nat.add_sub_cancel_left]
  induction k with
  | zero => rfl
  | succ k ih => show (b (p + k) :: rl b p k).reverse = _; rw [List.reverse_cons, ih, List.range_succ, List.map_append]; rfl
theorem rl_len (b : Nat → Int) (p k : Nat) : (rl b p k).length = k := by
  induction k with
  | zero => rfl
  | succ k ih => show (rl b p k).length + 1 = _; rw [ih]
def ltrs (w : List Int) : Prop := ∀ c ∈ w, 65 ≤ c ∧ c ≤ 122
theorem pkR_nn {w : List Int} (h : ltrs w) : 0 ≤ pkR w := by
  induction w with
  | nil => exact Int.le_refl _
  | cons c w ih =>
    have := ih (fun x hx => h x (List.mem_cons_of_mem _ hx))
    have := h c List.mem_cons_self
    show 0 ≤ pkR w * 256 + c; omega
theorem pkR_inj : ∀ (w w' : List Int), ltrs w → ltrs w' → pkR w = pkR w' → w = w' := by
  intro w
  induction w with
  | nil =>
    intro w' _ h' e
    cases w' with
    | nil => rfl
    | cons c w' =>
      have h1 := pkR_nn (w := w') (fun x hx => h' x (List.mem_cons_of_mem _ hx))
      have h2 := h' c List.mem_cons_self
      have e : (0 : Int) = pkR w' * 256 + c := e
      omega
  | cons c w ih =>
    intro w' h h' e
    have h1 := pkR_nn (w := w) (fun x hx => h x (List.mem_cons_of_mem _ hx))
    have h2 := h c List.mem_cons_self
    cases w' with
    | nil =>
      have e : pkR w * 256 + c = (0 : Int) := e
      omega
    | cons c' w' =>
      have h1' := pkR_nn (w := w') (fun x hx => h' x (List.mem_cons_of_mem _ hx))
      have h2' := h' c' List.mem_cons_self
      have e : pkR w * 256 + c = pkR w' * 256 + c' := e
      have ec : c = c' := by omega
      rw [ec, ih w' (fun x hx => h x (List.mem_cons_of_mem _ hx)) (fun x hx => h' x (List.mem_cons_of_mem _ hx)) (by omega)]
/-- what the reference holds of a TOKEN -/
def tkR (k : Nat) (v tk nu wd : Int) : Prop := (k = 41 ∧ tk = 0) ∨ (k = 40 ∧ tk = 1 ∧ 0 ≤ nu ∧ nu ≤ 1000010 ∧ ((nu ≤ 9999 ∧ v = nu) ∨ (9999 < nu ∧ v = 10000))) ∨ (∃ r : List Int, r ≠ [] ∧ ltrs r ∧ tk = 2 ∧ k = wdK r.reverse ∧ wd = if r.length ≤ 7 then pkR r else 0) ∨ (k = 42 ∧ tk = 3) ∨ (20 ≤ k ∧ k ≤ 30 ∧ sgK tk = k) ∨ (k = 31 ∧ tk = 4) ∨ (k = 32 ∧ tk = 5)
def tokAt (b : Nat → Int) (n p : Nat) : Nat × Int × Nat := tokK b n (spn isBl b n p)
/-- behind nextToken -/
def NT (M : MT) (n p : Nat) (M1 : MT) : Prop := (∀ j, j ≠ 7 → j ≠ 8 → j ≠ 9 → j ≠ 10 → j ≠ 11 → M1 77 j = M 77 j) ∧ M1 77 8 = (spn isBl (M 81) n p : Int) ∧ M1 77 7 = ((tokAt (M 81) n p).2.2 : Int) ∧ tkR (tokAt (M 81) n p).1 (tokAt (M 81) n p).2.1 (M1 77 9) (M1 77 10) (M1 77 11)
theorem bA_r {b : Nat → Int} {n : Nat} (hb : ∀ j, j < n → 0 ≤ b j ∧ b j ≤ 255) (p : Nat) : -1 ≤ bA b n p ∧ bA b n p ≤ 255 := by
  unfold bA
  split
  · rename_i h; have := hb p h; omega
  · omega
theorem bA_lt {b : Nat → Int} {n p : Nat} (h : 0 ≤ bA b n p) : p < n ∧ bA b n p = b p := by
  unfold bA at *
  split at h
  · rename_i q; exact ⟨q, if_pos q⟩
  · omega
theorem sgK_r (c : Int) : sgK c = 42 ∨ (20 ≤ sgK c ∧ sgK c ≤ 30) := by
  unfold sgK
  repeat' split
  all_goals first | exact Or.inl rfl | exact Or.inr ⟨by decide, by decide⟩
theorem sgK_n {c : Int} (h : ¬ (c = 60 ∨ c = 62 ∨ c = 61 ∨ c = 35 ∨ c = 43 ∨ c = 45 ∨ c = 42 ∨ c = 47 ∨ c = 40 ∨ c = 41 ∨ c = 59)) : sgK c = 42 := by
  unfold sgK
  simp only [not_or] at h
  obtain ⟨h1, h2, h3, h4, h5, h6, h7, h8, h9, h10, h11⟩ := h
  rw [if_neg h1, if_neg h2, if_neg h3, if_neg h4, if_neg h5, if_neg h6, if_neg h7, if_neg h8, if_neg h9, if_neg h10, if_neg h11]
theorem sgK_y {c : Int} (h : (c = 60 ∨ c = 62 ∨ c = 61 ∨ c = 35 ∨ c = 43 ∨ c = 45 ∨ c = 42 ∨ c = 47 ∨ c = 40 ∨ c = 41 ∨ c = 59)) : sgK c ≠ 42 := by
  rcases h with rfl | rfl | rfl | rfl | rfl | rfl | rfl | rfl | rfl | rfl | rfl <;> decide
theorem pk_nat {b : Nat → Int} {p : Nat} : ∀ k, (∀ i, i < k → 0 ≤ b (p + i) ∧ b (p + i) ≤ 255) → ∃ a : Nat, pk b p k = (a : Int) ∧ a < 256 ^ k := by
  intro k
  induction k with
  | zero => intro _; exact ⟨0, rfl, by decide⟩
  | succ k ih =>
    intro h
    obtain ⟨a, e, l⟩ := ih (fun i hi => h i (by omega))
    have := h k (by omega)
    refine ⟨a * 256 + (b (p + k)).toNat, ?_, ?_⟩
    · show pk b p k * 256 + b (p + k) = _
      rw [e]; omega
    · rw [Nat.pow_succ]; omega
theorem pk_step {b : Nat → Int} {p k : Nat} (hk : k < 7) (h : ∀ i, i < k + 1 → 0 ≤ b (p + i) ∧ b (p + i) ≤ 255) : blor (blshl (pk b p k) 8) (b (p + k)) = pk b p (k + 1) := by
  obtain ⟨a, e, l⟩ := pk_nat (b := b) (p := p) k (fun i hi => h i (by omega))
  have l2 : a < 36028797018963968 := by
    refine Nat.lt_of_lt_of_le l (Nat.le_trans (Nat.pow_le_pow_right (by decide) (show k ≤ 6 by omega)) (by decide))
  have hb := h k (by omega)
  show _ = pk b p k * 256 + b (p + k)
  rw [e, blshl_8 l2]
  have ec : b (p + k) = ((b (p + k)).toNat : Int) := by omega
  rw [ec, blor_8 l2 (by omega)]
  omega
