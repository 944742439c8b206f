/-! TOKENS, of a row of bytes b with n of them -/
def bA (b : Nat → Int) (n p : Nat) : Int := if p < n then b p else -1
def isLet (c : Int) : Bool := decide (97 ≤ c ∧ c ≤ 122) || decide (65 ≤ c ∧ c ≤ 90)
def isDig (c : Int) : Bool := decide (48 ≤ c ∧ c ≤ 57)
def isBl (c : Int) : Bool := decide (c = 32) || decide (c = 10)
/-- from p on: the first place whose byte isn't of a kind -/
def skp (q : Int → Bool) (b : Nat → Int) (n : Nat) : Nat → Nat → Nat
  | 0, p => p
  | f + 1, p => if q (bA b n p) = true then skp q b n f (p + 1) else p
def spn (q : Int → Bool) (b : Nat → Int) (n p : Nat) : Nat := skp q b n (n + 1 - p) p
theorem bA_neg {b : Nat → Int} {n p : Nat} (h : n ≤ p) : bA b n p = -1 := if_neg (by omega)
theorem spn_step {q : Int → Bool} {b : Nat → Int} {n p : Nat} (hq : q (-1) = false) (h : q (bA b n p) = true) : spn q b n p = spn q b n (p + 1) ∧ p < n := by
  have hp : p < n := by
    rcases Nat.lt_or_ge p n with r | r
    · exact r
    · rw [bA_neg r, hq] at h; cases h
  refine ⟨?_, hp⟩
  unfold spn
  rw [show n + 1 - p = (n + 1 - (p + 1)) + 1 by omega]
  show (if q (bA b n p) = true then skp q b n (n + 1 - (p + 1)) (p + 1) else p) = _
  rw [if_pos h]
theorem spn_stop {q : Int → Bool} {b : Nat → Int} {n p : Nat} (h : q (bA b n p) = false) : spn q b n p = p := by
  unfold spn
  cases hf : n + 1 - p with
  | zero => rfl
  | succ f => show (if q (bA b n p) = true then _ else p) = p; rw [h, if_neg (by decide)]
theorem skp_r (q : Int → Bool) (b : Nat → Int) (n : Nat) (hq : q (-1) = false) : ∀ f p, p ≤ n → p ≤ skp q b n f p ∧ skp q b n f p ≤ n := by
  intro f
  induction f with
  | zero => intro p hp; exact ⟨Nat.le_refl _, hp⟩
  | succ f ih =>
    intro p hp
    unfold skp
    split
    · rename_i h
      have hpn : p < n := by
        rcases Nat.lt_or_ge p n with r | r
        · exact r
        · rw [bA_neg r, hq] at h; cases h
      have := ih (p + 1) hpn
      omega
    · omega
theorem spn_r {q : Int → Bool} (b : Nat → Int) {n p : Nat} (hq : q (-1) = false) (hp : p ≤ n) : p ≤ spn q b n p ∧ spn q b n p ≤ n := skp_r q b n hq _ p hp
/-- a number's digits, from p to e: 10000 stands for all that is more than 9999 -/
def dgV (b : Nat → Int) (p : Nat) : Nat → Int
  | 0 => 0
  | k + 1 => min 10000 (10 * dgV b p k + (b (p + k) - 48))
/-- the bytes of a word, one number -/
def pk (b : Nat → Int) (p : Nat) : Nat → Int
  | 0 => 0
  | k + 1 => pk b p k * 256 + b (p + k)
def WL : List (List Int) := [[115, 116, 111, 110, 101], [119, 101, 105, 103, 104, 116], [104, 101, 105, 103, 104, 116], [118, 101, 105, 110], [108, 97, 105, 100], [116, 111, 112], [104, 111, 117, 114], [113, 117, 97, 114, 114, 121], [108, 105, 102, 116], [109, 97, 121], [102, 105, 116, 115], [108, 97, 121], [111, 117, 116], [108, 101, 110, 100], [116, 111], [111, 114], [97, 110, 100], [110, 111, 116]]
def letters (b : Nat → Int) (p e : Nat) : List Int := (List.range (e - p)).map (fun i => b (p + i))
def wdK (w : List Int) : Nat := match WL.findIdx? (fun x => decide (x = w)) with
  | some i => i
  | none => 42
def sgK (c : Int) : Nat := if c = 60 then 20 else if c = 62 then 21 else if c = 61 then 22 else if c = 35 then 23 else if c = 43 then 24 else if c = 45 then 25 else if c = 42 then 26 else if c = 47 then 27 else if c = 40 then 28 else if c = 41 then 29 else if c = 59 then 30 else 42
/-- the TOKEN behind the blanks from p on: kind, value, start, what follows -/
def tokK (b : Nat → Int) (n p : Nat) : Nat × Int × Nat :=
  let c := bA b n p
  if c < 0 then (41, 0, p)
  else if isDig c then (40, dgV b p (spn isDig b n p - p), spn isDig b n p)
  else if isLet c then (wdK (letters b p (spn isLet b n p)), 0, spn isLet b n p)
  else if (c = 60 ∨ c = 62) ∧ bA b n (p + 1) = 61 then (if c = 60 then 31 else 32, 0, p + 2)
  else (sgK c, 0, p + 1)

theorem m_byteAt (p n : Nat) (hp : p ≤ 400) (hn : n ≤ 300) (S : ST) (M : MT) (h4 : M 77 4 = n) : Ct E1 yX12_byteAt cX12_byteAt 2 (some .int) rm_X12_byteAt [.ref 77, .int (z (p : Int))] S M (Pi (bA (M 81) n p) S M) := by
  refine Ct.mk [.ref 77, .int (z (p : Int))] (by decide) rfl (Nat.le_of_ble_eq_true rfl) (fun X K => ?_)
  unfold bA at K
  refine wp_iload_n (n := 1) K dX12_byteAt_0 rfl rfl ?_
  refine wp_aload_n (n := 2) K dX12_byteAt_1 rfl rfl ?_
  refine wp_getI (n := 5) K dX12_byteAt_2 rfl fl_X12_88 rfl (liS rfl) rfl ?_
  try simp only [up_same, up_up, up_ne, ne_eq, Nat.reduceEqDiff, not_false_eq_true, Int.reduceToNat, Int.toNat_natCast]
  rw [h4]
  refine wp_icmp_ge (n := 8) K dX12_byteAt_5 rfl (tgt := 17) (by decide) ⟨by omega, by omega⟩ ⟨by omega, by omega⟩ (fun c5 => ?_) (fun c5 => ?_)
  · rw [if_neg (by omega)] at K
    refine wp_iconst (n := 18) K dX12_byteAt_17 rfl ?_
    refine ret_i K dX12_byteAt_18 ?_ rfl ?_ ⟨Nat.le_refl _, Nat.le_refl _⟩
    all_goals rfl
  · rw [if_pos (by omega)] at K
    refine wp_aload_n (n := 9) K dX12_byteAt_8 rfl rfl ?_
    refine wp_getF (n := 12) K dX12_byteAt_9 rfl fl_X12_19 rfl (liS rfl) rfl rfl ?_
    refine wp_iload_n (n := 13) K dX12_byteAt_12 rfl rfl ?_
    refine wp_iald (n := 14) K dX12_byteAt_13 rfl rfl (liS rfl) ⟨by omega, by omega, by omega⟩ ?_
    try simp only [up_same, up_up, up_ne, ne_eq, Nat.reduceEqDiff, not_false_eq_true, Int.reduceToNat, Int.toNat_natCast]
    refine wp_goto K dX12_byteAt_14 (tgt := 18) (by decide) ?_
    refine ret_i K dX12_byteAt_18 ?_ rfl ?_ ⟨Nat.le_refl _, Nat.le_refl _⟩
    all_goals rfl

theorem m_isDigit {E : ET} (c : Int) (hc : InR c) (S : ST) (M : MT) : Ct E yX12_isDigit cX12_isDigit 1 (some .boolean) rm_X12_isDigit [.int (z c)] S M (Pi (bI (isDig c)) S M) := by
  refine Ct.mk [.int (z c)] (by decide) rfl (Nat.le_of_ble_eq_true rfl) (fun X K => ?_)
  refine wp_iload_n (n := 1) K dX12_isDigit_0 rfl rfl ?_
  refine wp_bipush (n := 3) K dX12_isDigit_1 rfl rfl ?_
  refine wp_bipush (n := 5) K dX12_isDigit_3 rfl rfl ?_
  refine wp_invS_i (n := 8) K dX12_isDigit_5 rfl cf_X12_62 (m_isIn _ _ _ (by unfold InR; omega) (by unfold InR; omega) (by unfold InR; omega) _ _) rfl rfl (by decide) ⟨Nat.le_refl _, Nat.le_refl _⟩ (Nat.le_of_ble_eq_true rfl) ?_
  refine ret_z K dX12_isDigit_8 ?_ rfl ?_ ⟨Nat.le_refl _, Nat.le_refl _⟩
  all_goals rfl

theorem m_isLetter {E : ET} (c : Int) (hc : InR c) (S : ST) (M : MT) : Ct E yX12_isLetter cX12_isLetter 1 (some .boolean) rm_X12_isLetter [.int (z c)] S M (Pi (bI (isLet c)) S M) := by
  refine Ct.mk [.int (z c)] (by decide) rfl (Nat.le_of_ble_eq_true rfl) (fun X K => ?_)
  unfold isLet at K
  refine wp_iload_n (n := 1) K dX12_isLetter_0 rfl rfl ?_
  refine wp_bipush (n := 3) K dX12_isLetter_1 rfl rfl ?_
  refine wp_bipush (n := 5) K dX12_isLetter_3 rfl rfl ?_
  refine wp_invS_i (n := 8) K dX12_isLetter_5 rfl cf_X12_62 (m_isIn _ _ _ (by unfold InR; omega) (by unfold InR; omega) (by unfold InR; omega) _ _) rfl rfl (by decide) ⟨Nat.le_refl _, Nat.le_refl _⟩ (Nat.le_of_ble_eq_true rfl) ?_
  refine wp_if_ne_b (n := 11) K dX12_isLetter_8 rfl (tgt := 22) (by decide) (fun c8 => ?_) (fun c8 => ?_)
  · rw [c8] at K
    refine wp_iconst (n := 23) K dX12_isLetter_22 rfl ?_
    refine wp_goto K dX12_isLetter_23 (tgt := 27) (by decide) ?_
    refine ret_z K dX12_isLetter_27 ?_ rfl ?_ ⟨Nat.le_refl _, Nat.le_refl _⟩
    all_goals rfl
  · rw [c8] at K
    refine wp_iload_n (n := 12) K dX12_isLetter_11 rfl rfl ?_
    refine wp_bipush (n := 14) K dX12_isLetter_12 rfl rfl ?_
    refine wp_bipush (n := 16) K dX12_isLetter_14 rfl rfl ?_
    refine wp_invS_i (n := 19) K dX12_isLetter_16 rfl cf_X12_62 (m_isIn _ _ _ (by unfold InR; omega) (by unfold InR; omega) (by unfold InR; omega) _ _) rfl rfl (by decide) ⟨Nat.le_refl _, Nat.le_refl _⟩ (Nat.le_of_ble_eq_true rfl) ?_
    refine wp_if_eq_b (n := 22) K dX12_isLetter_19 rfl (tgt := 26) (by decide) (fun c19 => ?_) (fun c19 => ?_)
    · rw [c19] at K
      refine wp_iconst (n := 27) K dX12_isLetter_26 rfl ?_
      refine ret_z K dX12_isLetter_27 ?_ rfl ?_ ⟨Nat.le_refl _, Nat.le_refl _⟩
      all_goals rfl
    · rw [c19] at K
      refine wp_iconst (n := 23) K dX12_isLetter_22 rfl ?_
      refine wp_goto K dX12_isLetter_23 (tgt := 27) (by decide) ?_
      refine ret_z K dX12_isLetter_27 ?_ rfl ?_ ⟨Nat.le_refl _, Nat.le_refl _⟩
      all_goals rfl
theorem blshl_8 {a : Nat} (h : a < 36028797018963968) : blshl (a : Int) 8 = ((a * 256 : Nat) : Int) := by
  have e : (z 8).toInt64 &&& 63 = 8 := rfl
  unfold blshl
  rw [e]
  have h1 : zl (a : Int) <<< (8 : Int64) = zl ((a * 256 : Nat) : Int) := by
    apply Int64.toBitVec.inj
    rw [Int64.toBitVec_shiftLeft]
    have e1 : (zl (a : Int)).toBitVec = BitVec.ofNat 64 a := by show (Int64.ofInt (a : Int)).toBitVec = _; rw [Int64.ofInt_eq_ofNat]; rfl
    have e2 : (zl ((a * 256 : Nat) : Int)).toBitVec = BitVec.ofNat 64 (a * 256) := by show (Int64.ofInt ((a * 256 : Nat) : Int)).toBitVec = _; rw [Int64.ofInt_eq_ofNat]; rfl
    rw [e1, e2]
    apply BitVec.eq_of_toNat_eq
    rw [show ((8 : Int64).toBitVec.smod 64) = 8#64 from rfl, BitVec.shiftLeft_eq', BitVec.toNat_shiftLeft, BitVec.toNat_ofNat, BitVec.toNat_ofNat, BitVec.toNat_ofNat, show (8 % 2 ^ 64 : Nat) = 8 from rfl, Nat.shiftLeft_eq, Nat.mod_eq_of_lt (by omega : a < 2 ^ 64)]
  rw [h1, zl_toInt]
  exact w64_id (by omega) (by omega)
theorem blor_8 {a c : Nat} (h : a < 36028797018963968) (hc : c < 256) : blor ((a * 256 : Nat) : Int) (c : Int) = ((a * 256 + c : Nat) : Int) := by
  unfold blor
  have h1 : zl ((a * 256 : Nat) : Int) ||| zl (c : Int) = zl ((a * 256 + c : Nat) : Int) := by
    apply Int64.toBitVec.inj
    rw [Int64.toBitVec_or]
    have e1 : ∀ k : Nat, (zl (k : Int)).toBitVec = BitVec.ofNat 64 k := fun k => by show (Int64.ofInt (k : Int)).toBitVec = _; rw [Int64.ofInt_eq_ofNat]; rfl
    rw [e1, e1, e1]
    apply BitVec.eq_of_toNat_eq
    rw [BitVec.toNat_or, BitVec.toNat_ofNat, BitVec.toNat_ofNat, BitVec.toNat_ofNat, Nat.mod_eq_of_lt (by omega : a * 256 < 2 ^ 64), Nat.mod_eq_of_lt (by omega : c < 2 ^ 64), Nat.mod_eq_of_lt (by omega : a * 256 + c < 2 ^ 64)]
    have := Nat.shiftLeft_add_eq_or_of_lt (b := c) (i := 8) (by omega) a
    rw [Nat.shiftLeft_eq] at this
    exact this.symm
  rw [h1, zl_toInt]
  exact w64_id (by omega) (by omega)
/-- a word's bytes, the last first -/
def rl (b : Nat → Int) (p : Nat) : Nat → List Int
  | 0 => []
  | k + 1 => b (p + k) :: rl b p k
def pkR : List Int → Int
  | [] => 0
  | c :: w => pkR w * 256 + c
theorem rl_pk (b : Nat → Int) (p k : Nat) : pkR (rl b p k) = pk b p k := by
  induction k with
  | zero => rfl
  | succ k ih => show pkR (rl b p k) * 256 + b (p + k) = pk b p k * 256 + b (p + k); rw [ih]
theorem rl_letters (b : Nat → Int) (p k : Nat) : (rl b p k).reverse = letters b p (p + k) := by
  unfold letters
  rw [Nat.add_sub_cancel_left]
  induction k with
  | zero => rfl
  | succ k ih => show (b (p + k) :: rl b p k).reverse = _; rw [List.reverse_cons, ih, List.range_succ, List.map_append]; rfl
theorem rl_len (b : Nat → Int) (p k : Nat) : (rl b p k).length = k := by
  induction k with
  | zero => rfl
  | succ k ih => show (rl b p k).length + 1 = _; rw [ih]
def ltrs (w : List Int) : Prop := ∀ c ∈ w, 65 ≤ c ∧ c ≤ 122
theorem pkR_nn {w : List Int} (h : ltrs w) : 0 ≤ pkR w := by
  induction w with
  | nil => exact Int.le_refl _
  | cons c w ih =>
    have := ih (fun x hx => h x (List.mem_cons_of_mem _ hx))
    have := h c List.mem_cons_self
    show 0 ≤ pkR w * 256 + c; omega
theorem pkR_inj : ∀ (w w' : List Int), ltrs w → ltrs w' → pkR w = pkR w' → w = w' := by
  intro w
  induction w with
  | nil =>
    intro w' _ h' e
    cases w' with
    | nil => rfl
    | cons c w' =>
      have h1 := pkR_nn (w := w') (fun x hx => h' x (List.mem_cons_of_mem _ hx))
      have h2 := h' c List.mem_cons_self
      have e : (0 : Int) = pkR w' * 256 + c := e
      omega
  | cons c w ih =>
    intro w' h h' e
    have h1 := pkR_nn (w := w) (fun x hx => h x (List.mem_cons_of_mem _ hx))
    have h2 := h c List.mem_cons_self
    cases w' with
    | nil =>
      have e : pkR w * 256 + c = (0 : Int) := e
      omega
    | cons c' w' =>
      have h1' := pkR_nn (w := w') (fun x hx => h' x (List.mem_cons_of_mem _ hx))
      have h2' := h' c' List.mem_cons_self
      have e : pkR w * 256 + c = pkR w' * 256 + c' := e
      have ec : c = c' := by omega
      rw [ec, ih w' (fun x hx => h x (List.mem_cons_of_mem _ hx)) (fun x hx => h' x (List.mem_cons_of_mem _ hx)) (by omega)]
/-- what the reference holds of a TOKEN -/
def tkR (k : Nat) (v tk nu wd : Int) : Prop := (k = 41 ∧ tk = 0) ∨ (k = 40 ∧ tk = 1 ∧ 0 ≤ nu ∧ nu ≤ 1000010 ∧ ((nu ≤ 9999 ∧ v = nu) ∨ (9999 < nu ∧ v = 10000))) ∨ (∃ r : List Int, r ≠ [] ∧ ltrs r ∧ tk = 2 ∧ k = wdK r.reverse ∧ wd = if r.length ≤ 7 then pkR r else 0) ∨ (k = 42 ∧ tk = 3) ∨ (20 ≤ k ∧ k ≤ 30 ∧ sgK tk = k) ∨ (k = 31 ∧ tk = 4) ∨ (k = 32 ∧ tk = 5)
def tokAt (b : Nat → Int) (n p : Nat) : Nat × Int × Nat := tokK b n (spn isBl b n p)
/-- behind nextToken -/
def NT (M : MT) (n p : Nat) (M1 : MT) : Prop := (∀ j, j ≠ 7 → j ≠ 8 → j ≠ 9 → j ≠ 10 → j ≠ 11 → M1 77 j = M 77 j) ∧ M1 77 8 = (spn isBl (M 81) n p : Int) ∧ M1 77 7 = ((tokAt (M 81) n p).2.2 : Int) ∧ tkR (tokAt (M 81) n p).1 (tokAt (M 81) n p).2.1 (M1 77 9) (M1 77 10) (M1 77 11)
theorem bA_r {b : Nat → Int} {n : Nat} (hb : ∀ j, j < n → 0 ≤ b j ∧ b j ≤ 255) (p : Nat) : -1 ≤ bA b n p ∧ bA b n p ≤ 255 := by
  unfold bA
  split
  · rename_i h; have := hb p h; omega
  · omega
theorem bA_lt {b : Nat → Int} {n p : Nat} (h : 0 ≤ bA b n p) : p < n ∧ bA b n p = b p := by
  unfold bA at *
  split at h
  · rename_i q; exact ⟨q, if_pos q⟩
  · omega


theorem m_nextToken (n p : Nat) (hn : n ≤ 300) (hp : p ≤ n) (S : ST) (M : MT) (h4 : M 77 4 = n) (h7 : M 77 7 = p) (hb : ∀ j, j < n → 0 ≤ M 81 j ∧ M 81 j ≤ 255) : Ct E1 yX12_nextToken cX12_nextToken 3 none rm_X12_nextToken [.ref 77] S M (Qn [77] S M (NT M n p)) := by
  have hbl : isBl (-1) = false := by decide
  have hdg : isDig (-1) = false := by decide
  have hlt : isLet (-1) = false := by decide
  refine Ct.mk [.ref 77, mkV, mkV] (by decide) rfl (Nat.le_of_ble_eq_true rfl) (fun X K => ?_)
  have eM : M = up M 77 (up (M 77) 7 (p : Int)) := by rw [← h7, up_self, up_self]
  have frame : ∀ (β : Nat → Int), ∀ a, a ∉ [77] → up M 77 β a = M a := fun β a ha => up_ne _ _ (fun e => ha (by rw [e]; decide))
  have br := fun p => bA_r (b := M 81) (n := n) hb p
  have skip : ∀ (d q : Nat), q + d = n → spn isBl (M 81) n q = spn isBl (M 81) n p → (∀ M1 : MT, M1 = up M 77 (up (M 77) 7 (spn isBl (M 81) n p : Int)) → Wp E1 X 39 [.ref 77, mkV, mkV] [] S M1) → Wp E1 X 0 [.ref 77, mkV, mkV] [] S (up M 77 (up (M 77) 7 (q : Int))) := by
    intro d
    induction d with
    | zero =>
      intro q hq hs k
      have hend : bA (M 81) n q = -1 := bA_neg (by omega)
      have hst : spn isBl (M 81) n q = q := spn_stop (by rw [hend]; exact hbl)
      have h4 : up M 77 (up (M 77) 7 (q : Int)) 77 4 = n := h4
      refine wp_aload_n (n := 1) K dX12_nextToken_0 rfl rfl ?_
      refine wp_aload_n (n := 2) K dX12_nextToken_1 rfl rfl ?_
      refine wp_getI (n := 5) K dX12_nextToken_2 rfl fl_X12_95 rfl (liS rfl) rfl ?_
      try simp only [up_same, up_up, up_ne, ne_eq, Nat.reduceEqDiff, not_false_eq_true, Int.reduceToNat, Int.toNat_natCast]
      refine wp_invV_i (n := 8) K dX12_nextToken_5 rfl cf_X12_98 (m_byteAt _ n (by omega) hn _ _ h4) rfl rfl rfl (liS rfl) rfl (by decide) ⟨Nat.le_refl _, Nat.le_refl _⟩ (Nat.le_of_ble_eq_true rfl) ?_
      try simp only [up_same, up_up, up_ne, ne_eq, Nat.reduceEqDiff, not_false_eq_true, Int.reduceToNat, Int.toNat_natCast]
      have := br q
      refine wp_bipush (n := 10) K dX12_nextToken_8 rfl rfl ?_
      refine wp_icmp_eq (n := 13) K dX12_nextToken_10 rfl (tgt := 26) (by decide) ⟨by omega, by omega⟩ ⟨by omega, by omega⟩ (fun c10 => ?_) (fun c10 => ?_)
      · rw [hend] at c10; omega
      refine wp_aload_n (n := 14) K dX12_nextToken_13 rfl rfl ?_
      refine wp_aload_n (n := 15) K dX12_nextToken_14 rfl rfl ?_
      refine wp_getI (n := 18) K dX12_nextToken_15 rfl fl_X12_95 rfl (liS rfl) rfl ?_
      try simp only [up_same, up_up, up_ne, ne_eq, Nat.reduceEqDiff, not_false_eq_true, Int.reduceToNat, Int.toNat_natCast]
      refine wp_invV_i (n := 21) K dX12_nextToken_18 rfl cf_X12_98 (m_byteAt _ n (by omega) hn _ _ h4) rfl rfl rfl (liS rfl) rfl (by decide) ⟨Nat.le_refl _, Nat.le_refl _⟩ (Nat.le_of_ble_eq_true rfl) ?_
      try simp only [up_same, up_up, up_ne, ne_eq, Nat.reduceEqDiff, not_false_eq_true, Int.reduceToNat, Int.toNat_natCast]
      refine wp_bipush (n := 23) K dX12_nextToken_21 rfl rfl ?_
      refine wp_icmp_ne (n := 26) K dX12_nextToken_23 rfl (tgt := 39) (by decide) ⟨by omega, by omega⟩ ⟨by omega, by omega⟩ (fun c23 => ?_) (fun c23 => ?_)
      · exact k _ (by rw [← hs, hst])
      · rw [hend] at c23; omega
    | succ d ih =>
      intro q hq hs k
      have h4 : up M 77 (up (M 77) 7 (q : Int)) 77 4 = n := h4
      have := br q
      have again : isBl (bA (M 81) n q) = true → Wp E1 X 26 [.ref 77, mkV, mkV] [] S (up M 77 (up (M 77) 7 (q : Int))) := by
        intro hb1
        have hs2 := spn_step hbl hb1
        refine wp_aload_n (n := 27) K dX12_nextToken_26 rfl rfl ?_
        refine wp_dup (n := 28) K dX12_nextToken_27 rfl rfl ?_
        refine wp_getI (n := 31) K dX12_nextToken_28 rfl fl_X12_95 rfl (liS rfl) rfl ?_
        try simp only [up_same, up_up, up_ne, ne_eq, Nat.reduceEqDiff, not_false_eq_true, Int.reduceToNat, Int.toNat_natCast]
        refine wp_iconst (n := 32) K dX12_nextToken_31 rfl ?_
        refine wp_iadd (n := 33) K dX12_nextToken_32 rfl ?_
        refine wp_putI (n := 36) K dX12_nextToken_33 rfl fl_X12_95 rfl (liS rfl) (Or.inl rfl) rfl rfl ?_
        try simp only [up_same, up_up, up_ne, ne_eq, Nat.reduceEqDiff, not_false_eq_true, Int.reduceToNat, Int.toNat_natCast]
        refine wp_goto K dX12_nextToken_36 (tgt := 0) (by decide) ?_
        rw [show (q : Int) + 1 = ((q + 1 : Nat) : Int) by omega]
        exact ih (q + 1) (by omega) (by rw [← hs2.1]; exact hs) k
      refine wp_aload_n (n := 1) K dX12_nextToken_0 rfl rfl ?_
      refine wp_aload_n (n := 2) K dX12_nextToken_1 rfl rfl ?_
      refine wp_getI (n := 5) K dX12_nextToken_2 rfl fl_X12_95 rfl (liS rfl) rfl ?_
      try simp only [up_same, up_up, up_ne, ne_eq, Nat.reduceEqDiff, not_false_eq_true, Int.reduceToNat, Int.toNat_natCast]
      refine wp_invV_i (n := 8) K dX12_nextToken_5 rfl cf_X12_98 (m_byteAt _ n (by omega) hn _ _ h4) rfl rfl rfl (liS rfl) rfl (by decide) ⟨Nat.le_refl _, Nat.le_refl _⟩ (Nat.le_of_ble_eq_true rfl) ?_
      try simp only [up_same, up_up, up_ne, ne_eq, Nat.reduceEqDiff, not_false_eq_true, Int.reduceToNat, Int.toNat_natCast]
      refine wp_bipush (n := 10) K dX12_nextToken_8 rfl rfl ?_
      refine wp_icmp_eq (n := 13) K dX12_nextToken_10 rfl (tgt := 26) (by decide) ⟨by omega, by omega⟩ ⟨by omega, by omega⟩ (fun c10 => ?_) (fun c10 => ?_)
      · exact again (by unfold isBl; rw [show bA (M 81) n q = 32 from c10]; decide)
      refine wp_aload_n (n := 14) K dX12_nextToken_13 rfl rfl ?_
      refine wp_aload_n (n := 15) K dX12_nextToken_14 rfl rfl ?_
      refine wp_getI (n := 18) K dX12_nextToken_15 rfl fl_X12_95 rfl (liS rfl) rfl ?_
      try simp only [up_same, up_up, up_ne, ne_eq, Nat.reduceEqDiff, not_false_eq_true, Int.reduceToNat, Int.toNat_natCast]
      refine wp_invV_i (n := 21) K dX12_nextToken_18 rfl cf_X12_98 (m_byteAt _ n (by omega) hn _ _ h4) rfl rfl rfl (liS rfl) rfl (by decide) ⟨Nat.le_refl _, Nat.le_refl _⟩ (Nat.le_of_ble_eq_true rfl) ?_
      try simp only [up_same, up_up, up_ne, ne_eq, Nat.reduceEqDiff, not_false_eq_true, Int.reduceToNat, Int.toNat_natCast]
      refine wp_bipush (n := 23) K dX12_nextToken_21 rfl rfl ?_
      refine wp_icmp_ne (n := 26) K dX12_nextToken_23 rfl (tgt := 39) (by decide) ⟨by omega, by omega⟩ ⟨by omega, by omega⟩ (fun c23 => ?_) (fun c23 => ?_)
      · have hst : spn isBl (M 81) n q = q := spn_stop (by unfold isBl; rw [decide_eq_false (show ¬ bA (M 81) n q = 32 from c10), decide_eq_false (show ¬ bA (M 81) n q = 10 from c23)]; rfl)
        exact k _ (by rw [← hs, hst])
      · exact again (by unfold isBl; rw [show bA (M 81) n q = 10 from c23]; decide)
  rw [eM]
  refine skip (n - p) p (by omega) rfl (fun M1 hM1 => ?_)
  subst hM1
  have hsr := spn_r (M 81) (q := isBl) (n := n) (p := p) hbl hp
  unfold NT tokAt at K
  generalize spn isBl (M 81) n p = s at *
  have hbs := br s
  -- the cells of the object, as far as they are told
  have fin1 : ∀ (β : Nat → Int) (l1 l2 : Value) (e : Nat), (∀ j, j ≠ 7 → j ≠ 8 → j ≠ 9 → j ≠ 10 → j ≠ 11 → β j = M 77 j) → β 8 = (s : Int) → β 7 = (e : Int) → e = (tokK (M 81) n s).2.2 → tkR (tokK (M 81) n s).1 (tokK (M 81) n s).2.1 (β 9) (β 10) (β 11) → Wp E1 X 390 [.ref 77, l1, l2] [] S (up M 77 β) := by
    intro β l1 l2 e q1 q2 q3 q4 q5
    refine ret_qn K dX12_nextToken_390 rfl ?_ ?_ ⟨Nat.le_refl _, Nat.le_refl _⟩
    · exact frame β
    · exact ⟨q1, q2, by rw [← q4]; exact q3, q5⟩
  have h4' : ∀ β : Nat → Int, (∀ j, j ≠ 7 → j ≠ 8 → j ≠ 9 → j ≠ 10 → j ≠ 11 → β j = M 77 j) → up M 77 β 77 4 = n := fun β q => by rw [up_same, q 4 (by decide) (by decide) (by decide) (by decide) (by decide)]; exact h4
  have h4 : up M 77 (up (up (M 77) 7 (s : Int)) 8 (s : Int)) 77 4 = n := h4
  refine wp_aload_n (n := 40) K dX12_nextToken_39 rfl rfl ?_
  refine wp_aload_n (n := 41) K dX12_nextToken_40 rfl rfl ?_
  refine wp_getI (n := 44) K dX12_nextToken_41 rfl fl_X12_95 rfl (liS rfl) rfl ?_
  try simp only [up_same, up_up, up_ne, ne_eq, Nat.reduceEqDiff, not_false_eq_true, Int.reduceToNat, Int.toNat_natCast]
  refine wp_putI (n := 47) K dX12_nextToken_44 rfl fl_X12_101 rfl (liS rfl) (Or.inl rfl) rfl rfl ?_
  try simp only [up_same, up_up, up_ne, ne_eq, Nat.reduceEqDiff, not_false_eq_true, Int.reduceToNat, Int.toNat_natCast]
  refine wp_aload_n (n := 48) K dX12_nextToken_47 rfl rfl ?_
  refine wp_aload_n (n := 49) K dX12_nextToken_48 rfl rfl ?_
  refine wp_getI (n := 52) K dX12_nextToken_49 rfl fl_X12_95 rfl (liS rfl) rfl ?_
  try simp only [up_same, up_up, up_ne, ne_eq, Nat.reduceEqDiff, not_false_eq_true, Int.reduceToNat, Int.toNat_natCast]
  refine wp_invV_i (n := 55) K dX12_nextToken_52 rfl cf_X12_98 (m_byteAt _ n (by omega) hn _ _ h4) rfl rfl rfl (liS rfl) rfl (by decide) ⟨Nat.le_refl _, Nat.le_refl _⟩ (Nat.le_of_ble_eq_true rfl) ?_
  try simp only [up_same, up_up, up_ne, ne_eq, Nat.reduceEqDiff, not_false_eq_true, Int.reduceToNat, Int.toNat_natCast]
  refine wp_istore_n (n := 56) K dX12_nextToken_55 rfl (by decide) ?_
  have b0 : ∀ j, j ≠ 7 → j ≠ 8 → j ≠ 9 → j ≠ 10 → j ≠ 11 → up (up (M 77) 7 (s : Int)) 8 (s : Int) j = M 77 j := fun j p1 p2 _ _ _ => by rw [up_ne _ _ p2, up_ne _ _ p1]
  have b7 : up (up (M 77) 7 (s : Int)) 8 (s : Int) 7 = s := by rw [up_ne _ _ (by decide), up_same]
  have b8 : up (up (M 77) 7 (s : Int)) 8 (s : Int) 8 = s := up_same _ _ _
  generalize up (up (M 77) 7 (s : Int)) 8 (s : Int) = β at *
  generalize hc : bA (M 81) n s = c at *
  refine wp_iload_n (n := 57) K dX12_nextToken_56 rfl rfl ?_
  refine wp_if_ge (n := 60) K dX12_nextToken_57 rfl (tgt := 68) (by decide) ⟨by omega, by omega⟩ (fun c57 => ?_) (fun c57 => ?_)
  rotate_left
  · refine wp_aload_n (n := 61) K dX12_nextToken_60 rfl rfl ?_
    refine wp_iconst (n := 62) K dX12_nextToken_61 rfl ?_
    refine wp_putI (n := 65) K dX12_nextToken_62 rfl fl_X12_104 rfl (liS rfl) (Or.inl rfl) rfl rfl ?_
    try simp only [up_same, up_up, up_ne, ne_eq, Nat.reduceEqDiff, not_false_eq_true, Int.reduceToNat, Int.toNat_natCast]
    refine wp_goto K dX12_nextToken_65 (tgt := 390) (by decide) ?_
    have htok : tokK (M 81) n s = (41, 0, s) := by unfold tokK; rw [hc]; dsimp only; rw [if_pos c57]
    refine fin1 _ _ _ s (fun j p1 p2 p3 p4 p5 => by rw [up_ne _ _ p3]; exact b0 j p1 p2 p3 p4 p5) (by rw [up_ne _ _ (by decide)]; exact b8) (by rw [up_ne _ _ (by decide)]; exact b7) (by rw [htok]) ?_
    rw [htok, up_same]
    exact Or.inl ⟨rfl, rfl⟩
  have hsn : s < n := (bA_lt (b := M 81) (by rw [hc]; exact c57)).1
  have hcb : c = M 81 s := by rw [← hc]; exact (bA_lt (b := M 81) (by rw [hc]; exact c57)).2
  refine wp_iload_n (n := 69) K dX12_nextToken_68 rfl rfl ?_
  refine wp_invS_i (n := 72) K dX12_nextToken_69 rfl cf_X12_107 (m_isDigit _ ⟨by omega, by omega⟩ _ _) rfl rfl (by decide) ⟨Nat.le_refl _, Nat.le_refl _⟩ (Nat.le_of_ble_eq_true rfl) ?_
  try simp only [up_same, up_up, up_ne, ne_eq, Nat.reduceEqDiff, not_false_eq_true, Int.reduceToNat, Int.toNat_natCast]
  refine wp_if_eq_b (n := 75) K dX12_nextToken_72 rfl (tgt := 144) (by decide) (fun c72 => ?_) (fun c72 => ?_)
  · refine wp_iload_n (n := 145) K dX12_nextToken_144 rfl rfl ?_
    refine wp_invS_i (n := 148) K dX12_nextToken_145 rfl cf_X12_114 (m_isLetter _ ⟨by omega, by omega⟩ _ _) rfl rfl (by decide) ⟨Nat.le_refl _, Nat.le_refl _⟩ (Nat.le_of_ble_eq_true rfl) ?_
    try simp only [up_same, up_up, up_ne, ne_eq, Nat.reduceEqDiff, not_false_eq_true, Int.reduceToNat, Int.toNat_natCast]
    refine wp_if_eq_b (n := 151) K dX12_nextToken_148 rfl (tgt := 245) (by decide) (fun c148 => ?_) (fun c148 => ?_)
    · -- a sign
      have htok : tokK (M 81) n s = if (c = 60 ∨ c = 62) ∧ bA (M 81) n (s + 1) = 61 then (if c = 60 then 31 else 32, 0, s + 2) else (sgK c, 0, s + 1) := by
        unfold tokK; rw [hc]; dsimp only; rw [if_neg (by omega), if_neg (by rw [c72]; decide), if_neg (by rw [c148]; decide)]
      have hbs1 := br (s + 1)
      refine wp_aload_n (n := 246) K dX12_nextToken_245 rfl rfl ?_
      refine wp_dup (n := 247) K dX12_nextToken_246 rfl rfl ?_
      refine wp_getI (n := 250) K dX12_nextToken_247 rfl fl_X12_95 rfl (liS rfl) rfl ?_
      try simp only [up_same, up_up, up_ne, ne_eq, Nat.reduceEqDiff, not_false_eq_true, Int.reduceToNat, Int.toNat_natCast]
      refine wp_iconst (n := 251) K dX12_nextToken_250 rfl ?_
      refine wp_iadd (n := 252) K dX12_nextToken_251 rfl ?_
      refine wp_putI (n := 255) K dX12_nextToken_252 rfl fl_X12_95 rfl (liS rfl) (Or.inl rfl) rfl rfl ?_
      try simp only [up_same, up_up, up_ne, ne_eq, Nat.reduceEqDiff, not_false_eq_true, Int.reduceToNat, Int.toNat_natCast]
      have tail : ∀ (v2 : Int), v2 = bI (decide (sgK c ≠ 42)) → Wp E1 X 327 [.ref 77, .int (z c), .int (z v2)] [] S (up M 77 (up β 7 ((s : Int) + 1))) := by
        intro v2 hv2
        have rest : ∀ tk : Int, (sgK c ≠ 42 → tk = c) → (sgK c = 42 → tk = 3) → Wp E1 X 337 [.ref 77, .int (z c), .int (z v2)] [.int (z tk), .ref 77] S (up M 77 (up β 7 ((s : Int) + 1))) := by
          intro tk ht1 ht2
          have one : ¬ ((c = 60 ∨ c = 62) ∧ bA (M 81) n (s + 1) = 61) → Wp E1 X 390 [.ref 77, .int (z c), .int (z v2)] [] S (up M 77 (up (up β 7 ((s : Int) + 1)) 9 tk)) := by
            intro hno
            rw [if_neg hno] at htok
            refine fin1 _ _ _ (s + 1) (fun j p1 p2 p3 p4 p5 => by rw [up_ne _ _ p3, up_ne _ _ p1]; exact b0 j p1 p2 p3 p4 p5) (by rw [up_ne _ _ (by decide), up_ne _ _ (by decide)]; exact b8) (by rw [up_ne _ _ (by decide), up_same]; omega) (by rw [htok]) ?_
            rw [htok, up_same]
            by_cases h42 : sgK c = 42
            · rw [ht2 h42, h42]; exact Or.inr (Or.inr (Or.inr (Or.inl ⟨rfl, rfl⟩)))
            · rw [ht1 h42]
              refine Or.inr (Or.inr (Or.inr (Or.inr (Or.inl ⟨?_, ?_, rfl⟩))))
              · show 20 ≤ sgK c; unfold sgK at *; repeat' (split at *) <;> try omega
              · show sgK c ≤ 30; unfold sgK at *; repeat' (split at *) <;> try omega
          have two : (c = 60 ∨ c = 62) → Wp E1 X 352 [.ref 77, .int (z c), .int (z v2)] [] S (up M 77 (up (up β 7 ((s : Int) + 1)) 9 tk)) := by
            intro h60
            have h4 : up M 77 (up (up β 7 ((s : Int) + 1)) 9 tk) 77 4 = n := h4' _ (fun j p1 p2 p3 p4 p5 => by rw [up_ne _ _ p3, up_ne _ _ p1]; exact b0 j p1 p2 p3 p4 p5)
            refine wp_aload_n (n := 353) K dX12_nextToken_352 rfl rfl ?_
            refine wp_aload_n (n := 354) K dX12_nextToken_353 rfl rfl ?_
            refine wp_getI (n := 357) K dX12_nextToken_354 rfl fl_X12_95 rfl (liS rfl) rfl ?_
            try simp only [up_same, up_up, up_ne, ne_eq, Nat.reduceEqDiff, not_false_eq_true, Int.reduceToNat, Int.toNat_natCast]
            rw [show (s : Int) + 1 = ((s + 1 : Nat) : Int) by omega]
            rw [show (s : Int) + 1 = ((s + 1 : Nat) : Int) by omega] at h4 one
            refine wp_invV_i (n := 360) K dX12_nextToken_357 rfl cf_X12_98 (m_byteAt _ n (by omega) hn _ _ h4) rfl rfl rfl (liS rfl) rfl (by decide) ⟨Nat.le_refl _, Nat.le_refl _⟩ (Nat.le_of_ble_eq_true rfl) ?_
            try simp only [up_same, up_up, up_ne, ne_eq, Nat.reduceEqDiff, not_false_eq_true, Int.reduceToNat, Int.toNat_natCast]
            refine wp_bipush (n := 362) K dX12_nextToken_360 rfl rfl ?_
            refine wp_icmp_ne (n := 365) K dX12_nextToken_362 rfl (tgt := 390) (by decide) ⟨by omega, by omega⟩ ⟨by omega, by omega⟩ (fun c362 => ?_) (fun c362 => ?_)
            · exact one (fun q => c362 q.2)
            · have hyes : (c = 60 ∨ c = 62) ∧ bA (M 81) n (s + 1) = 61 := ⟨h60, c362⟩
              rw [if_pos hyes] at htok
              have end1 : ∀ tk2 : Int, ((c = 60 ∧ tk2 = 4) ∨ (c = 62 ∧ tk2 = 5)) → Wp E1 X 387 [.ref 77, .int (z c), .int (z v2)] [.int (z tk2), .ref 77] S (up M 77 (up (up (up β 7 ((s + 1 : Nat) : Int)) 9 tk) 7 (((s + 1 : Nat) : Int) + 1))) := by
                intro tk2 h2
                refine wp_putI (n := 390) K dX12_nextToken_387 rfl fl_X12_104 rfl (liS rfl) (Or.inl rfl) rfl rfl ?_
                try simp only [up_same, up_up, up_ne, ne_eq, Nat.reduceEqDiff, not_false_eq_true, Int.reduceToNat, Int.toNat_natCast]
                refine fin1 _ _ _ (s + 2) (fun j p1 p2 p3 p4 p5 => by rw [up_ne _ _ p3, up_ne _ _ p1, up_ne _ _ p3, up_ne _ _ p1]; exact b0 j p1 p2 p3 p4 p5) (by rw [up_ne _ _ (by decide), up_ne _ _ (by decide), up_ne _ _ (by decide), up_ne _ _ (by decide)]; exact b8) (by rw [up_ne _ _ (by decide), up_same]; omega) (by rw [htok]) ?_
                rw [htok, up_same]
                rcases h2 with ⟨q1, q2⟩ | ⟨q1, q2⟩
                · rw [if_pos q1, q2]; exact Or.inr (Or.inr (Or.inr (Or.inr (Or.inr (Or.inl ⟨rfl, rfl⟩)))))
                · rw [if_neg (by omega), q2]; exact Or.inr (Or.inr (Or.inr (Or.inr (Or.inr (Or.inr ⟨rfl, rfl⟩)))))
              refine wp_aload_n (n := 366) K dX12_nextToken_365 rfl rfl ?_
              refine wp_dup (n := 367) K dX12_nextToken_366 rfl rfl ?_
              refine wp_getI (n := 370) K dX12_nextToken_367 rfl fl_X12_95 rfl (liS rfl) rfl ?_
              try simp only [up_same, up_up, up_ne, ne_eq, Nat.reduceEqDiff, not_false_eq_true, Int.reduceToNat, Int.toNat_natCast]
              refine wp_iconst (n := 371) K dX12_nextToken_370 rfl ?_
              refine wp_iadd (n := 372) K dX12_nextToken_371 rfl ?_
              refine wp_putI (n := 375) K dX12_nextToken_372 rfl fl_X12_95 rfl (liS rfl) (Or.inl rfl) rfl rfl ?_
              try simp only [up_same, up_up, up_ne, ne_eq, Nat.reduceEqDiff, not_false_eq_true, Int.reduceToNat, Int.toNat_natCast]
              refine wp_aload_n (n := 376) K dX12_nextToken_375 rfl rfl ?_
              refine wp_iload_n (n := 377) K dX12_nextToken_376 rfl rfl ?_
              refine wp_bipush (n := 379) K dX12_nextToken_377 rfl rfl ?_
              refine wp_icmp_ne (n := 382) K dX12_nextToken_379 rfl (tgt := 386) (by decide) ⟨by omega, by omega⟩ ⟨by omega, by omega⟩ (fun c379 => ?_) (fun c379 => ?_)
              · refine wp_iconst (n := 387) K dX12_nextToken_386 rfl ?_
                exact end1 5 (Or.inr ⟨by omega, rfl⟩)
              · refine wp_iconst (n := 383) K dX12_nextToken_382 rfl ?_
                refine wp_goto K dX12_nextToken_383 (tgt := 387) (by decide) ?_
                exact end1 4 (Or.inl ⟨c379, rfl⟩)
          refine wp_putI (n := 340) K dX12_nextToken_337 rfl fl_X12_104 rfl (liS rfl) (Or.inl rfl) rfl rfl ?_
          try simp only [up_same, up_up, up_ne, ne_eq, Nat.reduceEqDiff, not_false_eq_true, Int.reduceToNat, Int.toNat_natCast]
          refine wp_iload_n (n := 341) K dX12_nextToken_340 rfl rfl ?_
          refine wp_bipush (n := 343) K dX12_nextToken_341 rfl rfl ?_
          refine wp_icmp_eq (n := 346) K dX12_nextToken_343 rfl (tgt := 352) (by decide) ⟨by omega, by omega⟩ ⟨by omega, by omega⟩ (fun c343 => ?_) (fun c343 => ?_)
          · exact two (Or.inl c343)
          · refine wp_iload_n (n := 347) K dX12_nextToken_346 rfl rfl ?_
            refine wp_bipush (n := 349) K dX12_nextToken_347 rfl rfl ?_
            refine wp_icmp_ne (n := 352) K dX12_nextToken_349 rfl (tgt := 390) (by decide) ⟨by omega, by omega⟩ ⟨by omega, by omega⟩ (fun c349 => ?_) (fun c349 => ?_)
            · exact one (fun q => by omega)
            · exact two (Or.inr c349)
        rw [hv2]
        rw [hv2] at rest
        refine wp_aload_n (n := 328) K dX12_nextToken_327 rfl rfl ?_
        refine wp_iload_n (n := 329) K dX12_nextToken_328 rfl rfl ?_
        refine wp_if_eq_b (n := 332) K dX12_nextToken_329 rfl (tgt := 336) (by decide) (fun c329 => ?_) (fun c329 => ?_)
        · refine wp_iconst (n := 337) K dX12_nextToken_336 rfl ?_
          exact rest 3 (fun q => by rw [decide_eq_true q] at c329; cases c329) (fun _ => rfl)
        · refine wp_iload_n (n := 333) K dX12_nextToken_332 rfl rfl ?_
          refine wp_goto K dX12_nextToken_333 (tgt := 337) (by decide) ?_
          exact rest c (fun _ => rfl) (fun q => by rw [decide_eq_false (fun r => r q)] at c329; cases c329)
      
      have chain1 : (c = 60 ∨ c = 62 ∨ c = 61 ∨ c = 35 ∨ c = 43 ∨ c = 45 ∨ c = 42 ∨ c = 47 ∨ c = 40 ∨ c = 41 ∨ c = 59) → Wp E1 X 326 [.ref 77, .int (z c), mkV] [.int (z 1)] S (up M 77 (up β 7 ((s : Int) + 1))) := by
        intro h
        refine wp_istore_n (n := 327) K dX12_nextToken_326 rfl (by decide) ?_
        exact tail 1 (by rcases h with rfl | rfl | rfl | rfl | rfl | rfl | rfl | rfl | rfl | rfl | rfl <;> rfl)
      have chain0 : ¬ (c = 60 ∨ c = 62 ∨ c = 61 ∨ c = 35 ∨ c = 43 ∨ c = 45 ∨ c = 42 ∨ c = 47 ∨ c = 40 ∨ c = 41 ∨ c = 59) → Wp E1 X 326 [.ref 77, .int (z c), mkV] [.int (z 0)] S (up M 77 (up β 7 ((s : Int) + 1))) := by
        intro h
        refine wp_istore_n (n := 327) K dX12_nextToken_326 rfl (by decide) ?_
        refine tail 0 ?_
        have : sgK c = 42 := by unfold sgK; repeat (first | rw [if_neg (by omega)])
        rw [this]; rfl
      refine wp_iload_n (n := 256) K dX12_nextToken_255 rfl rfl ?_
      refine wp_bipush (n := 258) K dX12_nextToken_256 rfl rfl ?_
      refine wp_icmp_eq (n := 261) K dX12_nextToken_258 rfl (tgt := 321) (by decide) ⟨by omega, by omega⟩ ⟨by omega, by omega⟩ (fun c258 => ?_) (fun c258 => ?_)
      · refine wp_iconst (n := 322) K dX12_nextToken_321 rfl ?_
        refine wp_goto K dX12_nextToken_322 (tgt := 326) (by decide) ?_
        first | exact chain1 (by omega) | exact chain0 (by omega)
      · refine wp_iload_n (n := 262) K dX12_nextToken_261 rfl rfl ?_
        refine wp_bipush (n := 264) K dX12_nextToken_262 rfl rfl ?_
        refine wp_icmp_eq (n := 267) K dX12_nextToken_264 rfl (tgt := 321) (by decide) ⟨by omega, by omega⟩ ⟨by omega, by omega⟩ (fun c264 => ?_) (fun c264 => ?_)
        · refine wp_iconst (n := 322) K dX12_nextToken_321 rfl ?_
          refine wp_goto K dX12_nextToken_322 (tgt := 326) (by decide) ?_
          first | exact chain1 (by omega) | exact chain0 (by omega)
        · refine wp_iload_n (n := 268) K dX12_nextToken_267 rfl rfl ?_
          refine wp_bipush (n := 270) K dX12_nextToken_268 rfl rfl ?_
          refine wp_icmp_eq (n := 273) K dX12_nextToken_270 rfl (tgt := 321) (by decide) ⟨by omega, by omega⟩ ⟨by omega, by omega⟩ (fun c270 => ?_) (fun c270 => ?_)
          · refine wp_iconst (n := 322) K dX12_nextToken_321 rfl ?_
            refine wp_goto K dX12_nextToken_322 (tgt := 326) (by decide) ?_
            first | exact chain1 (by omega) | exact chain0 (by omega)
          · refine wp_iload_n (n := 274) K dX12_nextToken_273 rfl rfl ?_
            refine wp_bipush (n := 276) K dX12_nextToken_274 rfl rfl ?_
            refine wp_icmp_eq (n := 279) K dX12_nextToken_276 rfl (tgt := 321) (by decide) ⟨by omega, by omega⟩ ⟨by omega, by omega⟩ (fun c276 => ?_) (fun c276 => ?_)
            · refine wp_iconst (n := 322) K dX12_nextToken_321 rfl ?_
              refine wp_goto K dX12_nextToken_322 (tgt := 326) (by decide) ?_
              first | exact chain1 (by omega) | exact chain0 (by omega)
            · refine wp_iload_n (n := 280) K dX12_nextToken_279 rfl rfl ?_
              refine wp_bipush (n := 282) K dX12_nextToken_280 rfl rfl ?_
              refine wp_icmp_eq (n := 285) K dX12_nextToken_282 rfl (tgt := 321) (by decide) ⟨by omega, by omega⟩ ⟨by omega, by omega⟩ (fun c282 => ?_) (fun c282 => ?_)
              · refine wp_iconst (n := 322) K dX12_nextToken_321 rfl ?_
                refine wp_goto K dX12_nextToken_322 (tgt := 326) (by decide) ?_
                first | exact chain1 (by omega) | exact chain0 (by omega)
              · refine wp_iload_n (n := 286) K dX12_nextToken_285 rfl rfl ?_
                refine wp_bipush (n := 288) K dX12_nextToken_286 rfl rfl ?_
                refine wp_icmp_eq (n := 291) K dX12_nextToken_288 rfl (tgt := 321) (by decide) ⟨by omega, by omega⟩ ⟨by omega, by omega⟩ (fun c288 => ?_) (fun c288 => ?_)
                · refine wp_iconst (n := 322) K dX12_nextToken_321 rfl ?_
                  refine wp_goto K dX12_nextToken_322 (tgt := 326) (by decide) ?_
                  first | exact chain1 (by omega) | exact chain0 (by omega)
                · refine wp_iload_n (n := 292) K dX12_nextToken_291 rfl rfl ?_
                  refine wp_bipush (n := 294) K dX12_nextToken_292 rfl rfl ?_
                  refine wp_icmp_eq (n := 297) K dX12_nextToken_294 rfl (tgt := 321) (by decide) ⟨by omega, by omega⟩ ⟨by omega, by omega⟩ (fun c294 => ?_) (fun c294 => ?_)
                  · refine wp_iconst (n := 322) K dX12_nextToken_321 rfl ?_
                    refine wp_goto K dX12_nextToken_322 (tgt := 326) (by decide) ?_
                    first | exact chain1 (by omega) | exact chain0 (by omega)
                  · refine wp_iload_n (n := 298) K dX12_nextToken_297 rfl rfl ?_
                    refine wp_bipush (n := 300) K dX12_nextToken_298 rfl rfl ?_
                    refine wp_icmp_eq (n := 303) K dX12_nextToken_300 rfl (tgt := 321) (by decide) ⟨by omega, by omega⟩ ⟨by omega, by omega⟩ (fun c300 => ?_) (fun c300 => ?_)
                    · refine wp_iconst (n := 322) K dX12_nextToken_321 rfl ?_
                      refine wp_goto K dX12_nextToken_322 (tgt := 326) (by decide) ?_
                      first | exact chain1 (by omega) | exact chain0 (by omega)
                    · refine wp_iload_n (n := 304) K dX12_nextToken_303 rfl rfl ?_
                      refine wp_bipush (n := 306) K dX12_nextToken_304 rfl rfl ?_
                      refine wp_icmp_eq (n := 309) K dX12_nextToken_306 rfl (tgt := 321) (by decide) ⟨by omega, by omega⟩ ⟨by omega, by omega⟩ (fun c306 => ?_) (fun c306 => ?_)
                      · refine wp_iconst (n := 322) K dX12_nextToken_321 rfl ?_
                        refine wp_goto K dX12_nextToken_322 (tgt := 326) (by decide) ?_
                        first | exact chain1 (by omega) | exact chain0 (by omega)
                      · refine wp_iload_n (n := 310) K dX12_nextToken_309 rfl rfl ?_
                        refine wp_bipush (n := 312) K dX12_nextToken_310 rfl rfl ?_
                        refine wp_icmp_eq (n := 315) K dX12_nextToken_312 rfl (tgt := 321) (by decide) ⟨by omega, by omega⟩ ⟨by omega, by omega⟩ (fun c312 => ?_) (fun c312 => ?_)
                        · refine wp_iconst (n := 322) K dX12_nextToken_321 rfl ?_
                          refine wp_goto K dX12_nextToken_322 (tgt := 326) (by decide) ?_
                          first | exact chain1 (by omega) | exact chain0 (by omega)
                        · refine wp_iload_n (n := 316) K dX12_nextToken_315 rfl rfl ?_
                          refine wp_bipush (n := 318) K dX12_nextToken_316 rfl rfl ?_
                          refine wp_icmp_ne (n := 321) K dX12_nextToken_318 rfl (tgt := 325) (by decide) ⟨by omega, by omega⟩ ⟨by omega, by omega⟩ (fun c318 => ?_) (fun c318 => ?_)
                          · refine wp_iconst (n := 326) K dX12_nextToken_325 rfl ?_
                            first | exact chain1 (by omega) | exact chain0 (by omega)
                          · refine wp_iconst (n := 322) K dX12_nextToken_321 rfl ?_
                            refine wp_goto K dX12_nextToken_322 (tgt := 326) (by decide) ?_
                            first | exact chain1 (by omega) | exact chain0 (by omega)
    · -- a word
      have htok : tokK (M 81) n s = (wdK (letters (M 81) s (spn isLet (M 81) n s)), 0, spn isLet (M 81) n s) := by
        unfold tokK; rw [hc]; dsimp only; rw [if_neg (by omega), if_neg (by rw [c72]; decide), if_pos c148]
      refine wp_aload_n (n := 152) K dX12_nextToken_151 rfl rfl ?_
      refine wp_iconst (n := 153) K dX12_nextToken_152 rfl ?_
      refine wp_putI (n := 156) K dX12_nextToken_153 rfl fl_X12_104 rfl (liS rfl) (Or.inl rfl) rfl rfl ?_
      try simp only [up_same, up_up, up_ne, ne_eq, Nat.reduceEqDiff, not_false_eq_true, Int.reduceToNat, Int.toNat_natCast]
      refine wp_aload_n (n := 157) K dX12_nextToken_156 rfl rfl ?_
      refine wp_lconst (n := 158) (a := 0) K dX12_nextToken_157 rfl rfl ?_
      refine wp_putL (n := 161) K dX12_nextToken_158 rfl fl_X12_117 rfl (liS rfl) (Or.inl rfl) rfl rfl ?_
      try simp only [up_same, up_up, up_ne, ne_eq, Nat.reduceEqDiff, not_false_eq_true, Int.reduceToNat, Int.toNat_natCast]
      have loop : ∀ (d q : Nat), q + d = n → s ≤ q → spn isLet (M 81) n q = spn isLet (M 81) n s → (∀ i, s ≤ i → i < q → isLet (M 81 i) = true) → ∀ γ : Nat → Int, (∀ j, j ≠ 7 → j ≠ 8 → j ≠ 9 → j ≠ 10 → j ≠ 11 → γ j = M 77 j) → γ 8 = (s : Int) → γ 7 = (q : Int) → γ 9 = 2 → γ 11 = pk (M 81) s (min (q - s) 7) → Wp E1 X 161 [.ref 77, .int (z c), mkV] [] S (up M 77 γ) := by
        sorry
      exact loop (n - s) s (by omega) (Nat.le_refl _) rfl (fun i p1 p2 => by omega) _ (fun j p1 p2 p3 p4 p5 => by rw [up_ne _ _ p5, up_ne _ _ p3]; exact b0 j p1 p2 p3 p4 p5) (by rw [up_ne _ _ (by decide), up_ne _ _ (by decide)]; exact b8) (by rw [up_ne _ _ (by decide), up_ne _ _ (by decide)]; exact b7) (by rw [up_ne _ _ (by decide), up_same]) (by rw [up_same, Nat.sub_self]; rfl)
  · -- a number
    have htok : tokK (M 81) n s = (40, dgV (M 81) s (spn isDig (M 81) n s - s), spn isDig (M 81) n s) := by
      unfold tokK; rw [hc]; dsimp only; rw [if_neg (by omega), if_pos c72]
    refine wp_aload_n (n := 76) K dX12_nextToken_75 rfl rfl ?_
    refine wp_iconst (n := 77) K dX12_nextToken_76 rfl ?_
    refine wp_putI (n := 80) K dX12_nextToken_77 rfl fl_X12_104 rfl (liS rfl) (Or.inl rfl) rfl rfl ?_
    try simp only [up_same, up_up, up_ne, ne_eq, Nat.reduceEqDiff, not_false_eq_true, Int.reduceToNat, Int.toNat_natCast]
    refine wp_aload_n (n := 81) K dX12_nextToken_80 rfl rfl ?_
    refine wp_iconst (n := 82) K dX12_nextToken_81 rfl ?_
    refine wp_putI (n := 85) K dX12_nextToken_82 rfl fl_X12_110 rfl (liS rfl) (Or.inl rfl) rfl rfl ?_
    try simp only [up_same, up_up, up_ne, ne_eq, Nat.reduceEqDiff, not_false_eq_true, Int.reduceToNat, Int.toNat_natCast]
    have loop : ∀ (d q : Nat), q + d = n → s ≤ q → spn isDig (M 81) n q = spn isDig (M 81) n s → ∀ γ : Nat → Int, (∀ j, j ≠ 7 → j ≠ 8 → j ≠ 9 → j ≠ 10 → j ≠ 11 → γ j = M 77 j) → γ 8 = (s : Int) → γ 7 = (q : Int) → γ 9 = 1 → (0 ≤ γ 10 ∧ γ 10 ≤ 1000010 ∧ ((γ 10 ≤ 9999 ∧ dgV (M 81) s (q - s) = γ 10) ∨ (9999 < γ 10 ∧ dgV (M 81) s (q - s) = 10000))) → Wp E1 X 85 [.ref 77, .int (z c), mkV] [] S (up M 77 γ) := by
      sorry
    exact loop (n - s) s (by omega) (Nat.le_refl _) rfl _ (fun j p1 p2 p3 p4 p5 => by rw [up_ne _ _ p4, up_ne _ _ p3]; exact b0 j p1 p2 p3 p4 p5) (by rw [up_ne _ _ (by decide), up_ne _ _ (by decide)]; exact b8) (by rw [up_ne _ _ (by decide), up_ne _ _ (by decide)]; exact b7) (by rw [up_ne _ _ (by decide), up_same]) (by rw [up_same, Nat.sub_self]; exact ⟨by decide, by decide, Or.inl ⟨by decide, rfl⟩⟩)
