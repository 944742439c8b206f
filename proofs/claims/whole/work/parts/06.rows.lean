abbrev InR (x : Int) : Prop := -2147483648 ≤ x ∧ x < 2147483648
theorem InR.w {x : Int} (h : InR x) : w32 x = x := w32_id h.1 h.2
theorem z_0 : (0 : Int32) = z 0 := rfl
def prs (G : GT) (L : List Value) : List (Nat × Value) := (List.range L.length).filterMap (fun i => match L[i]? with
  | some v => if v = mkV then none else some (i, tr G v)
  | none => none)
theorem mem_prs {G : GT} {L : List Value} {i : Nat} {v : Value} (h : L[i]? = some v) (hv : v ≠ mkV) : (i, tr G v) ∈ prs G L := by
  refine List.mem_filterMap.mpr ⟨i, List.mem_range.mpr (List.getElem?_eq_some_iff.mp h).1, ?_⟩
  simp only [h, if_neg hv]
theorem lvs.has {G : GT} {n : Nat} {ls : Array Slot} {L : List Value} (h : lvs G n ls L) : lv_has ls n (prs G L) := by
  refine ⟨h.1, h.2.1, fun q hq => ?_⟩
  obtain ⟨i, -, hi⟩ := List.mem_filterMap.mp hq
  cases hv : L[i]? with
  | none => simp only [hv] at hi; cases hi
  | some v =>
    simp only [hv] at hi
    split at hi
    · cases hi
    · rename_i hm
      cases hi
      exact h.2.2 i v hv hm
theorem lvs.of {G : GT} {n : Nat} {ls : Array Slot} {L : List Value} {lv : List (Nat × Value)} (h : lv_has ls n lv) (hm : ∀ (i : Nat) (v : Value), L[i]? = some v → v ≠ mkV → (i, tr G v) ∈ lv) : lvs G n ls L := ⟨h.1, h.2.1, fun i v hi hv => h.2.2 _ (hm i v hi hv)⟩
/-- a value of one word is put into a local; of two words -/
def st1 (L : List Value) (i : Nat) (v : Value) : List Value := bif Nat.blt 0 i && Nat.beq (L.getD (i - 1) mkV).category 2 then (L.set (i - 1) mkV).set i v else L.set i v
def st2 (L : List Value) (i : Nat) (v : Value) : List Value := (st1 L i v).set (i + 1) mkV
theorem st1_at {L : List Value} {i j : Nat} {v w : Value} (h : (st1 L i v)[j]? = some w) (hw : w ≠ mkV) : (j = i ∧ w = v) ∨ (j ≠ i ∧ L[j]? = some w ∧ ¬ (j + 1 = i ∧ w.category = 2)) := by
  have key : ∀ L' : List Value, (L'.set i v)[j]? = some w → (j = i ∧ w = v) ∨ (j ≠ i ∧ L'[j]? = some w) := by
    intro L' h
    rw [List.getElem?_set] at h
    by_cases he : i = j
    · rw [if_pos he] at h
      split at h
      · exact Or.inl ⟨he.symm, (Option.some.inj h).symm⟩
      · cases h
    · rw [if_neg he] at h
      exact Or.inr ⟨fun q => he q.symm, h⟩
  unfold st1 at h
  cases hb : (Nat.blt 0 i && Nat.beq (L.getD (i - 1) mkV).category 2) with
  | true =>
    rw [hb] at h
    rcases key _ h with q | ⟨q1, q2⟩
    · exact Or.inl q
    · rw [List.getElem?_set] at q2
      by_cases he : i - 1 = j
      · rw [if_pos he] at q2
        split at q2
        · exact absurd (Option.some.inj q2).symm hw
        · cases q2
      · rw [if_neg he] at q2
        exact Or.inr ⟨q1, q2, fun q => he (by omega)⟩
  | false =>
    rw [hb] at h
    rcases key _ h with q | ⟨q1, q2⟩
    · exact Or.inl q
    · refine Or.inr ⟨q1, q2, fun q => ?_⟩
      have e1 : L.getD (i - 1) mkV = w := by rw [show i - 1 = j by omega, List.getD_eq_getElem?_getD, q2]; rfl
      rw [e1, q.2] at hb
      have : Nat.blt 0 i = true := Nat.blt_eq.mpr (by omega)
      rw [this] at hb
      cases hb
theorem lvs.s1 {G : GT} {n i : Nat} {ls : Array Slot} {L : List Value} {v : Value} (h : lv_has ls n ((i, tr G v) :: (prs G L).filter (fun q => !(q.1 == i) && !(q.1 + 1 == i && q.2.category == 2)))) : lvs G n ls (st1 L i v) := by
  refine lvs.of h fun j w hj hw => ?_
  rcases st1_at hj hw with ⟨rfl, rfl⟩ | ⟨q1, q2, q3⟩
  · exact List.mem_cons_self
  · refine List.mem_cons_of_mem _ (List.mem_filter.mpr ⟨mem_prs q2 hw, ?_⟩)
    have hc := tr_cat G w
    simp [hc]
    exact ⟨q1, by by_cases h : j + 1 = i; exact Or.inr (fun h2 => q3 ⟨h, h2⟩); exact Or.inl h⟩
theorem lvs.s2 {G : GT} {n i : Nat} {ls : Array Slot} {L : List Value} {v : Value} (h : lv_has ls n ((i, tr G v) :: (prs G L).filter (fun q => !(q.1 == i) && (!(q.1 == i + 1) && !(q.1 + 1 == i && q.2.category == 2))))) : lvs G n ls (st2 L i v) := by
  refine lvs.of h fun j w hj hw => ?_
  unfold st2 at hj
  rw [List.getElem?_set] at hj
  by_cases he : i + 1 = j
  · rw [if_pos he] at hj
    split at hj
    · exact absurd (Option.some.inj hj).symm hw
    · cases hj
  · rw [if_neg he] at hj
    rcases st1_at hj hw with ⟨rfl, rfl⟩ | ⟨q1, q2, q3⟩
    · exact List.mem_cons_self
    · refine List.mem_cons_of_mem _ (List.mem_filter.mpr ⟨mem_prs q2 hw, ?_⟩)
      have hc := tr_cat G w
      simp [hc]
      exact ⟨q1, fun h => he h.symm, by by_cases h : j + 1 = i; exact Or.inr (fun h2 => q3 ⟨h, h2⟩); exact Or.inl h⟩
section ROWS
variable {E : ET} {X : XT} {y : MethodName} {cc : ByteArray} {nL : Nat} {ret : Option FieldType} {rm : Room} {P : Option Value → ST → MT → Prop} {S0 : ST}
variable {pc : Nat} {L st : List Value} {S : ST} {M : MT}
theorem wp_iadd (K : Ok E X y cc nL ret rm P S0) {a b : Int} {n : Nat} (hd : decode cc pc = .ok (.iadd, 1)) (hn : pc + 1 = n) 
    (k : Wp E X n L (.int (z (a + b)) :: st) S M) : Wp E X pc L (.int (z b) :: .int (z a) :: st) S M := by
  obtain ⟨p, l, e, R, s, m, args, below, meth, c, Q, G, z0, l0⟩ := X
  obtain ⟨hx, hb, hml, hown, hts, hK, hRm, hr, hlo, hnm, hQ, hz0, hl0⟩ := K
  subst hn
  intro ls H locs hL hR hl hz
  refine lv_iadd hx hb hd ?_
  rw [z_add]
  exact k ls H locs hL hR hl hz
theorem wp_isub (K : Ok E X y cc nL ret rm P S0) {a b : Int} {n : Nat} (hd : decode cc pc = .ok (.isub, 1)) (hn : pc + 1 = n) 
    (k : Wp E X n L (.int (z (a - b)) :: st) S M) : Wp E X pc L (.int (z b) :: .int (z a) :: st) S M := by
  obtain ⟨p, l, e, R, s, m, args, below, meth, c, Q, G, z0, l0⟩ := X
  obtain ⟨hx, hb, hml, hown, hts, hK, hRm, hr, hlo, hnm, hQ, hz0, hl0⟩ := K
  subst hn
  intro ls H locs hL hR hl hz
  refine lv_isub hx hb hd ?_
  rw [z_sub]
  exact k ls H locs hL hR hl hz
theorem wp_imul (K : Ok E X y cc nL ret rm P S0) {a b : Int} {n : Nat} (hd : decode cc pc = .ok (.imul, 1)) (hn : pc + 1 = n) 
    (k : Wp E X n L (.int (z (a * b)) :: st) S M) : Wp E X pc L (.int (z b) :: .int (z a) :: st) S M := by
  obtain ⟨p, l, e, R, s, m, args, below, meth, c, Q, G, z0, l0⟩ := X
  obtain ⟨hx, hb, hml, hown, hts, hK, hRm, hr, hlo, hnm, hQ, hz0, hl0⟩ := K
  subst hn
  intro ls H locs hL hR hl hz
  refine lv_imul hx hb hd ?_
  rw [z_mul]
  exact k ls H locs hL hR hl hz
theorem wp_iand (K : Ok E X y cc nL ret rm P S0) {a b : Int} {n : Nat} (hd : decode cc pc = .ok (.iand, 1)) (hn : pc + 1 = n) 
    (k : Wp E X n L (.int (z (band a b)) :: st) S M) : Wp E X pc L (.int (z b) :: .int (z a) :: st) S M := by
  obtain ⟨p, l, e, R, s, m, args, below, meth, c, Q, G, z0, l0⟩ := X
  obtain ⟨hx, hb, hml, hown, hts, hK, hRm, hr, hlo, hnm, hQ, hz0, hl0⟩ := K
  subst hn
  intro ls H locs hL hR hl hz
  refine lv_iand hx hb hd ?_
  rw [z_band]
  exact k ls H locs hL hR hl hz
theorem wp_ior (K : Ok E X y cc nL ret rm P S0) {a b : Int} {n : Nat} (hd : decode cc pc = .ok (.ior, 1)) (hn : pc + 1 = n) 
    (k : Wp E X n L (.int (z (bor a b)) :: st) S M) : Wp E X pc L (.int (z b) :: .int (z a) :: st) S M := by
  obtain ⟨p, l, e, R, s, m, args, below, meth, c, Q, G, z0, l0⟩ := X
  obtain ⟨hx, hb, hml, hown, hts, hK, hRm, hr, hlo, hnm, hQ, hz0, hl0⟩ := K
  subst hn
  intro ls H locs hL hR hl hz
  refine lv_ior hx hb hd ?_
  rw [z_bor]
  exact k ls H locs hL hR hl hz
theorem wp_ixor (K : Ok E X y cc nL ret rm P S0) {a b : Int} {n : Nat} (hd : decode cc pc = .ok (.ixor, 1)) (hn : pc + 1 = n) 
    (k : Wp E X n L (.int (z (bxor a b)) :: st) S M) : Wp E X pc L (.int (z b) :: .int (z a) :: st) S M := by
  obtain ⟨p, l, e, R, s, m, args, below, meth, c, Q, G, z0, l0⟩ := X
  obtain ⟨hx, hb, hml, hown, hts, hK, hRm, hr, hlo, hnm, hQ, hz0, hl0⟩ := K
  subst hn
  intro ls H locs hL hR hl hz
  refine lv_ixor hx hb hd ?_
  rw [z_bxor]
  exact k ls H locs hL hR hl hz
theorem wp_ishl (K : Ok E X y cc nL ret rm P S0) {a b : Int} {n : Nat} (hd : decode cc pc = .ok (.ishl, 1)) (hn : pc + 1 = n) 
    (k : Wp E X n L (.int (z (bshl a b)) :: st) S M) : Wp E X pc L (.int (z b) :: .int (z a) :: st) S M := by
  obtain ⟨p, l, e, R, s, m, args, below, meth, c, Q, G, z0, l0⟩ := X
  obtain ⟨hx, hb, hml, hown, hts, hK, hRm, hr, hlo, hnm, hQ, hz0, hl0⟩ := K
  subst hn
  intro ls H locs hL hR hl hz
  refine lv_ishl hx hb hd ?_
  rw [z_bshl]
  exact k ls H locs hL hR hl hz
theorem wp_ishr (K : Ok E X y cc nL ret rm P S0) {a b : Int} {n : Nat} (hd : decode cc pc = .ok (.ishr, 1)) (hn : pc + 1 = n) 
    (k : Wp E X n L (.int (z (bshr a b)) :: st) S M) : Wp E X pc L (.int (z b) :: .int (z a) :: st) S M := by
  obtain ⟨p, l, e, R, s, m, args, below, meth, c, Q, G, z0, l0⟩ := X
  obtain ⟨hx, hb, hml, hown, hts, hK, hRm, hr, hlo, hnm, hQ, hz0, hl0⟩ := K
  subst hn
  intro ls H locs hL hR hl hz
  refine lv_ishr hx hb hd ?_
  rw [z_bshr]
  exact k ls H locs hL hR hl hz
theorem wp_idiv (K : Ok E X y cc nL ret rm P S0) {a b : Int} {n : Nat} (hd : decode cc pc = .ok (.idiv, 1)) (hn : pc + 1 = n) (h0 : w32 b ≠ 0)
    (k : Wp E X n L (.int (z (bdiv a b)) :: st) S M) : Wp E X pc L (.int (z b) :: .int (z a) :: st) S M := by
  obtain ⟨p, l, e, R, s, m, args, below, meth, c, Q, G, z0, l0⟩ := X
  obtain ⟨hx, hb, hml, hown, hts, hK, hRm, hr, hlo, hnm, hQ, hz0, hl0⟩ := K
  subst hn
  intro ls H locs hL hR hl hz
  refine lv_idiv hx hb hd (fun q => h0 (by rw [z_0, z_eq_iff] at q; exact q)) ?_
  have k1 := k ls H locs hL hR hl hz
  unfold bdiv at k1
  rw [z_self] at k1
  exact k1
theorem wp_irem (K : Ok E X y cc nL ret rm P S0) {a b : Int} {n : Nat} (hd : decode cc pc = .ok (.irem, 1)) (hn : pc + 1 = n) (h0 : w32 b ≠ 0)
    (k : Wp E X n L (.int (z (brem a b)) :: st) S M) : Wp E X pc L (.int (z b) :: .int (z a) :: st) S M := by
  obtain ⟨p, l, e, R, s, m, args, below, meth, c, Q, G, z0, l0⟩ := X
  obtain ⟨hx, hb, hml, hown, hts, hK, hRm, hr, hlo, hnm, hQ, hz0, hl0⟩ := K
  subst hn
  intro ls H locs hL hR hl hz
  refine lv_irem hx hb hd (fun q => h0 (by rw [z_0, z_eq_iff] at q; exact q)) ?_
  have k1 := k ls H locs hL hR hl hz
  unfold brem at k1
  rw [z_self] at k1
  exact k1
theorem wp_ineg (K : Ok E X y cc nL ret rm P S0) {a : Int} {n : Nat} (hd : decode cc pc = .ok (.ineg, 1)) (hn : pc + 1 = n) 
    (k : Wp E X n L (.int (z (-a)) :: st) S M) : Wp E X pc L (.int (z a) :: st) S M := by
  obtain ⟨p, l, e, R, s, m, args, below, meth, c, Q, G, z0, l0⟩ := X
  obtain ⟨hx, hb, hml, hown, hts, hK, hRm, hr, hlo, hnm, hQ, hz0, hl0⟩ := K
  subst hn
  intro ls H locs hL hR hl hz
  refine lv_ineg hx hb hd ?_
  rw [z_neg]
  exact k ls H locs hL hR hl hz
theorem wp_iushr (K : Ok E X y cc nL ret rm P S0) {a b : Int} {n : Nat} (hd : decode cc pc = .ok (.iushr, 1)) (hn : pc + 1 = n) 
    (k : Wp E X n L (.int (z (bushr a b)) :: st) S M) : Wp E X pc L (.int (z b) :: .int (z a) :: st) S M := by
  obtain ⟨p, l, e, R, s, m, args, below, meth, c, Q, G, z0, l0⟩ := X
  obtain ⟨hx, hb, hml, hown, hts, hK, hRm, hr, hlo, hnm, hQ, hz0, hl0⟩ := K
  subst hn
  intro ls H locs hL hR hl hz
  exact lv_iushr hx hb hd (z_self _).symm (k ls H locs hL hR hl hz)
theorem wp_i2b (K : Ok E X y cc nL ret rm P S0) {a : Int} {n : Nat} (hd : decode cc pc = .ok (.i2b, 1)) (hn : pc + 1 = n) 
    (k : Wp E X n L (.int (z (bi2b a)) :: st) S M) : Wp E X pc L (.int (z a) :: st) S M := by
  obtain ⟨p, l, e, R, s, m, args, below, meth, c, Q, G, z0, l0⟩ := X
  obtain ⟨hx, hb, hml, hown, hts, hK, hRm, hr, hlo, hnm, hQ, hz0, hl0⟩ := K
  subst hn
  intro ls H locs hL hR hl hz
  exact lv_i2b hx hb hd (z_self _).symm (k ls H locs hL hR hl hz)
theorem wp_i2c (K : Ok E X y cc nL ret rm P S0) {a : Int} {n : Nat} (hd : decode cc pc = .ok (.i2c, 1)) (hn : pc + 1 = n) 
    (k : Wp E X n L (.int (z (bi2c a)) :: st) S M) : Wp E X pc L (.int (z a) :: st) S M := by
  obtain ⟨p, l, e, R, s, m, args, below, meth, c, Q, G, z0, l0⟩ := X
  obtain ⟨hx, hb, hml, hown, hts, hK, hRm, hr, hlo, hnm, hQ, hz0, hl0⟩ := K
  subst hn
  intro ls H locs hL hR hl hz
  exact lv_i2c hx hb hd (z_self _).symm (k ls H locs hL hR hl hz)
theorem wp_i2l (K : Ok E X y cc nL ret rm P S0) {a : Int} {n : Nat} (hd : decode cc pc = .ok (.i2l, 1)) (hn : pc + 1 = n) (hr1 : InR a)
    (k : Wp E X n L (.long (zl a) :: st) S M) : Wp E X pc L (.int (z a) :: st) S M := by
  obtain ⟨p, l, e, R, s, m, args, below, meth, c, Q, G, z0, l0⟩ := X
  obtain ⟨hx, hb, hml, hown, hts, hK, hRm, hr, hlo, hnm, hQ, hz0, hl0⟩ := K
  subst hn
  intro ls H locs hL hR hl hz
  exact lv_i2l hx hb hd (by rw [z_i2l, hr1.w]) (k ls H locs hL hR hl hz)
theorem wp_l2i (K : Ok E X y cc nL ret rm P S0) {a : Int} {n : Nat} (hd : decode cc pc = .ok (.l2i, 1)) (hn : pc + 1 = n) 
    (k : Wp E X n L (.int (z a) :: st) S M) : Wp E X pc L (.long (zl a) :: st) S M := by
  obtain ⟨p, l, e, R, s, m, args, below, meth, c, Q, G, z0, l0⟩ := X
  obtain ⟨hx, hb, hml, hown, hts, hK, hRm, hr, hlo, hnm, hQ, hz0, hl0⟩ := K
  subst hn
  intro ls H locs hL hR hl hz
  exact lv_l2i hx hb hd (zl_l2i _) (k ls H locs hL hR hl hz)
theorem wp_ladd (K : Ok E X y cc nL ret rm P S0) {a b : Int} {n : Nat} (hd : decode cc pc = .ok (.ladd, 1)) (hn : pc + 1 = n) 
    (k : Wp E X n L (.long (zl (a + b)) :: st) S M) : Wp E X pc L (.long (zl b) :: .long (zl a) :: st) S M := by
  obtain ⟨p, l, e, R, s, m, args, below, meth, c, Q, G, z0, l0⟩ := X
  obtain ⟨hx, hb, hml, hown, hts, hK, hRm, hr, hlo, hnm, hQ, hz0, hl0⟩ := K
  subst hn
  intro ls H locs hL hR hl hz
  refine lv_ladd hx hb hd ?_
  rw [zl_add]
  exact k ls H locs hL hR hl hz
theorem wp_lsub (K : Ok E X y cc nL ret rm P S0) {a b : Int} {n : Nat} (hd : decode cc pc = .ok (.lsub, 1)) (hn : pc + 1 = n) 
    (k : Wp E X n L (.long (zl (a - b)) :: st) S M) : Wp E X pc L (.long (zl b) :: .long (zl a) :: st) S M := by
  obtain ⟨p, l, e, R, s, m, args, below, meth, c, Q, G, z0, l0⟩ := X
  obtain ⟨hx, hb, hml, hown, hts, hK, hRm, hr, hlo, hnm, hQ, hz0, hl0⟩ := K
  subst hn
  intro ls H locs hL hR hl hz
  refine lv_lsub hx hb hd ?_
  rw [zl_sub]
  exact k ls H locs hL hR hl hz
theorem wp_lmul (K : Ok E X y cc nL ret rm P S0) {a b : Int} {n : Nat} (hd : decode cc pc = .ok (.lmul, 1)) (hn : pc + 1 = n) 
    (k : Wp E X n L (.long (zl (a * b)) :: st) S M) : Wp E X pc L (.long (zl b) :: .long (zl a) :: st) S M := by
  obtain ⟨p, l, e, R, s, m, args, below, meth, c, Q, G, z0, l0⟩ := X
  obtain ⟨hx, hb, hml, hown, hts, hK, hRm, hr, hlo, hnm, hQ, hz0, hl0⟩ := K
  subst hn
  intro ls H locs hL hR hl hz
  refine lv_lmul hx hb hd ?_
  rw [zl_mul]
  exact k ls H locs hL hR hl hz
theorem wp_land (K : Ok E X y cc nL ret rm P S0) {a b : Int} {n : Nat} (hd : decode cc pc = .ok (.land, 1)) (hn : pc + 1 = n) 
    (k : Wp E X n L (.long (zl (bland a b)) :: st) S M) : Wp E X pc L (.long (zl b) :: .long (zl a) :: st) S M := by
  obtain ⟨p, l, e, R, s, m, args, below, meth, c, Q, G, z0, l0⟩ := X
  obtain ⟨hx, hb, hml, hown, hts, hK, hRm, hr, hlo, hnm, hQ, hz0, hl0⟩ := K
  subst hn
  intro ls H locs hL hR hl hz
  refine lv_land hx hb hd ?_
  have k1 := k ls H locs hL hR hl hz
  unfold bland at k1
  rw [zl_self] at k1
  exact k1
theorem wp_lor (K : Ok E X y cc nL ret rm P S0) {a b : Int} {n : Nat} (hd : decode cc pc = .ok (.lor, 1)) (hn : pc + 1 = n) 
    (k : Wp E X n L (.long (zl (blor a b)) :: st) S M) : Wp E X pc L (.long (zl b) :: .long (zl a) :: st) S M := by
  obtain ⟨p, l, e, R, s, m, args, below, meth, c, Q, G, z0, l0⟩ := X
  obtain ⟨hx, hb, hml, hown, hts, hK, hRm, hr, hlo, hnm, hQ, hz0, hl0⟩ := K
  subst hn
  intro ls H locs hL hR hl hz
  refine lv_lor hx hb hd ?_
  have k1 := k ls H locs hL hR hl hz
  unfold blor at k1
  rw [zl_self] at k1
  exact k1
theorem wp_ldiv (K : Ok E X y cc nL ret rm P S0) {a b : Int} {n : Nat} (hd : decode cc pc = .ok (.ldiv, 1)) (hn : pc + 1 = n) (h0 : w64 b ≠ 0)
    (k : Wp E X n L (.long (zl (bldiv a b)) :: st) S M) : Wp E X pc L (.long (zl b) :: .long (zl a) :: st) S M := by
  obtain ⟨p, l, e, R, s, m, args, below, meth, c, Q, G, z0, l0⟩ := X
  obtain ⟨hx, hb, hml, hown, hts, hK, hRm, hr, hlo, hnm, hQ, hz0, hl0⟩ := K
  subst hn
  intro ls H locs hL hR hl hz
  refine lv_ldiv hx hb hd (fun q => h0 (by rw [show (0 : Int64) = zl 0 from rfl, zl_eq_iff] at q; exact q)) ?_
  have k1 := k ls H locs hL hR hl hz
  unfold bldiv at k1
  rw [zl_self] at k1
  exact k1
theorem wp_lrem (K : Ok E X y cc nL ret rm P S0) {a b : Int} {n : Nat} (hd : decode cc pc = .ok (.lrem, 1)) (hn : pc + 1 = n) (h0 : w64 b ≠ 0)
    (k : Wp E X n L (.long (zl (blrem a b)) :: st) S M) : Wp E X pc L (.long (zl b) :: .long (zl a) :: st) S M := by
  obtain ⟨p, l, e, R, s, m, args, below, meth, c, Q, G, z0, l0⟩ := X
  obtain ⟨hx, hb, hml, hown, hts, hK, hRm, hr, hlo, hnm, hQ, hz0, hl0⟩ := K
  subst hn
  intro ls H locs hL hR hl hz
  refine lv_lrem hx hb hd (fun q => h0 (by rw [show (0 : Int64) = zl 0 from rfl, zl_eq_iff] at q; exact q)) ?_
  have k1 := k ls H locs hL hR hl hz
  unfold blrem at k1
  rw [zl_self] at k1
  exact k1
theorem wp_lneg (K : Ok E X y cc nL ret rm P S0) {a : Int} {n : Nat} (hd : decode cc pc = .ok (.lneg, 1)) (hn : pc + 1 = n) 
    (k : Wp E X n L (.long (zl (-a)) :: st) S M) : Wp E X pc L (.long (zl a) :: st) S M := by
  obtain ⟨p, l, e, R, s, m, args, below, meth, c, Q, G, z0, l0⟩ := X
  obtain ⟨hx, hb, hml, hown, hts, hK, hRm, hr, hlo, hnm, hQ, hz0, hl0⟩ := K
  subst hn
  intro ls H locs hL hR hl hz
  refine lv_lneg hx hb hd ?_
  rw [zl_neg]
  exact k ls H locs hL hR hl hz
theorem wp_lshl (K : Ok E X y cc nL ret rm P S0) {a b : Int} {n : Nat} (hd : decode cc pc = .ok (.lshl, 1)) (hn : pc + 1 = n) 
    (k : Wp E X n L (.long (zl (blshl a b)) :: st) S M) : Wp E X pc L (.int (z b) :: .long (zl a) :: st) S M := by
  obtain ⟨p, l, e, R, s, m, args, below, meth, c, Q, G, z0, l0⟩ := X
  obtain ⟨hx, hb, hml, hown, hts, hK, hRm, hr, hlo, hnm, hQ, hz0, hl0⟩ := K
  subst hn
  intro ls H locs hL hR hl hz
  exact lv_lshl hx hb hd (zl_self _).symm (k ls H locs hL hR hl hz)
theorem wp_lcmp (K : Ok E X y cc nL ret rm P S0) {a b : Int} {n : Nat} (hd : decode cc pc = .ok (.lcmp, 1)) (hn : pc + 1 = n) 
    (k : Wp E X n L (.int (z (lg_cmp (zl a) (zl b)).toInt) :: st) S M) : Wp E X pc L (.long (zl b) :: .long (zl a) :: st) S M := by
  obtain ⟨p, l, e, R, s, m, args, below, meth, c, Q, G, z0, l0⟩ := X
  obtain ⟨hx, hb, hml, hown, hts, hK, hRm, hr, hlo, hnm, hQ, hz0, hl0⟩ := K
  subst hn
  intro ls H locs hL hR hl hz
  refine W.lcmp hx hb hd ?_
  have k1 := k ls H locs hL hR hl hz
  rw [z_self] at k1
  exact k1
theorem wp_iconst (K : Ok E X y cc nL ret rm P S0) {a : Int} {n : Nat} (hd : decode cc pc = .ok (.iconst a, 1)) (hn : pc + 1 = n) 
    (k : Wp E X n L (.int (z a) :: st) S M) : Wp E X pc L (st) S M := by
  obtain ⟨p, l, e, R, s, m, args, below, meth, c, Q, G, z0, l0⟩ := X
  obtain ⟨hx, hb, hml, hown, hts, hK, hRm, hr, hlo, hnm, hQ, hz0, hl0⟩ := K
  subst hn
  intro ls H locs hL hR hl hz
  exact lv_iconst hx hb hd rfl (k ls H locs hL hR hl hz)
theorem wp_bipush (K : Ok E X y cc nL ret rm P S0) {a : Int} {n : Nat} (hd : decode cc pc = .ok (.bipush a, 2)) (hn : pc + 2 = n) (hv : (Int8.ofInt a).toInt32 = z a)
    (k : Wp E X n L (.int (z a) :: st) S M) : Wp E X pc L (st) S M := by
  obtain ⟨p, l, e, R, s, m, args, below, meth, c, Q, G, z0, l0⟩ := X
  obtain ⟨hx, hb, hml, hown, hts, hK, hRm, hr, hlo, hnm, hQ, hz0, hl0⟩ := K
  subst hn
  intro ls H locs hL hR hl hz
  exact lv_bipush hx hb hd hv (k ls H locs hL hR hl hz)
theorem wp_sipush (K : Ok E X y cc nL ret rm P S0) {a : Int} {n : Nat} (hd : decode cc pc = .ok (.sipush a, 3)) (hn : pc + 3 = n) (hv : (Int16.ofInt a).toInt32 = z a)
    (k : Wp E X n L (.int (z a) :: st) S M) : Wp E X pc L (st) S M := by
  obtain ⟨p, l, e, R, s, m, args, below, meth, c, Q, G, z0, l0⟩ := X
  obtain ⟨hx, hb, hml, hown, hts, hK, hRm, hr, hlo, hnm, hQ, hz0, hl0⟩ := K
  subst hn
  intro ls H locs hL hR hl hz
  exact lv_sipush hx hb hd hv (k ls H locs hL hR hl hz)
theorem wp_lconst (K : Ok E X y cc nL ret rm P S0) {i : Fin 2} {n : Nat} (hd : decode cc pc = .ok (.lconst i, 1)) (hn : pc + 1 = n) {a : Int} (hv : Int64.ofNat (i : Nat) = zl a)
    (k : Wp E X n L (.long (zl a) :: st) S M) : Wp E X pc L (st) S M := by
  obtain ⟨p, l, e, R, s, m, args, below, meth, c, Q, G, z0, l0⟩ := X
  obtain ⟨hx, hb, hml, hown, hts, hK, hRm, hr, hlo, hnm, hQ, hz0, hl0⟩ := K
  subst hn
  intro ls H locs hL hR hl hz
  exact lv_lconst hx hb hd hv (k ls H locs hL hR hl hz)
theorem wp_ldc (K : Ok E X y cc nL ret rm P S0) {i : Nat} {n : Nat} (hd : decode cc pc = .ok (.ldc i, 2)) (hn : pc + 2 = n) (a : Int) (hc : Cond.constant y.cls i (z a) ∈ Tw)
    (k : Wp E X n L (.int (z a) :: st) S M) : Wp E X pc L (st) S M := by
  obtain ⟨p, l, e, R, s, m, args, below, meth, c, Q, G, z0, l0⟩ := X
  obtain ⟨hx, hb, hml, hown, hts, hK, hRm, hr, hlo, hnm, hQ, hz0, hl0⟩ := K
  subst hn
  intro ls H locs hL hR hl hz
  exact lv_ldc hx hb hown (hts _ hc) hd (k ls H locs hL hR hl hz)
theorem wp_ldc_w (K : Ok E X y cc nL ret rm P S0) {i : Nat} {n : Nat} (hd : decode cc pc = .ok (.ldc_w i, 3)) (hn : pc + 3 = n) (a : Int) (hc : Cond.constant y.cls i (z a) ∈ Tw)
    (k : Wp E X n L (.int (z a) :: st) S M) : Wp E X pc L (st) S M := by
  obtain ⟨p, l, e, R, s, m, args, below, meth, c, Q, G, z0, l0⟩ := X
  obtain ⟨hx, hb, hml, hown, hts, hK, hRm, hr, hlo, hnm, hQ, hz0, hl0⟩ := K
  subst hn
  intro ls H locs hL hR hl hz
  exact lv_ldcw hx hb hown (hts _ hc) hd (k ls H locs hL hR hl hz)
theorem wp_ldc2 (K : Ok E X y cc nL ret rm P S0) {i : Nat} {n : Nat} (hd : decode cc pc = .ok (.ldc2_w i, 3)) (hn : pc + 3 = n) (a : Int) (hc : Cond.constantLong y.cls i (zl a) ∈ Tw)
    (k : Wp E X n L (.long (zl a) :: st) S M) : Wp E X pc L (st) S M := by
  obtain ⟨p, l, e, R, s, m, args, below, meth, c, Q, G, z0, l0⟩ := X
  obtain ⟨hx, hb, hml, hown, hts, hK, hRm, hr, hlo, hnm, hQ, hz0, hl0⟩ := K
  subst hn
  intro ls H locs hL hR hl hz
  exact lv_ldc2 hx hb hown (hts _ hc) hd (k ls H locs hL hR hl hz)
theorem wp_iload_n (K : Ok E X y cc nL ret rm P S0) {i : Fin 4} {a : Int} {n : Nat} (hd : decode cc pc = .ok (.iload_n i, 1)) (hn : pc + 1 = n) (hv : L[(i : Nat)]? = some (.int (z a)))
    (k : Wp E X n L (.int (z a) :: st) S M) : Wp E X pc L (st) S M := by
  obtain ⟨p, l, e, R, s, m, args, below, meth, c, Q, G, z0, l0⟩ := X
  obtain ⟨hx, hb, hml, hown, hts, hK, hRm, hr, hlo, hnm, hQ, hz0, hl0⟩ := K
  subst hn
  intro ls H locs hL hR hl hz
  exact lv_iload_n hx hb hd rfl (hL.2.2 _ _ hv (fun q => by cases q)) (k ls H locs hL hR hl hz)
theorem wp_iload (K : Ok E X y cc nL ret rm P S0) {i : Nat} {a : Int} {n : Nat} (hd : decode cc pc = .ok (.iload i, 2)) (hn : pc + 2 = n) (hv : L[i]? = some (.int (z a)))
    (k : Wp E X n L (.int (z a) :: st) S M) : Wp E X pc L (st) S M := by
  obtain ⟨p, l, e, R, s, m, args, below, meth, c, Q, G, z0, l0⟩ := X
  obtain ⟨hx, hb, hml, hown, hts, hK, hRm, hr, hlo, hnm, hQ, hz0, hl0⟩ := K
  subst hn
  intro ls H locs hL hR hl hz
  exact lv_iload hx hb hd (hL.2.2 _ _ hv (fun q => by cases q)) (k ls H locs hL hR hl hz)
theorem wp_lload_n (K : Ok E X y cc nL ret rm P S0) {i : Fin 4} {a : Int} {n : Nat} (hd : decode cc pc = .ok (.lload_n i, 1)) (hn : pc + 1 = n) (hv : L[(i : Nat)]? = some (.long (zl a)))
    (k : Wp E X n L (.long (zl a) :: st) S M) : Wp E X pc L (st) S M := by
  obtain ⟨p, l, e, R, s, m, args, below, meth, c, Q, G, z0, l0⟩ := X
  obtain ⟨hx, hb, hml, hown, hts, hK, hRm, hr, hlo, hnm, hQ, hz0, hl0⟩ := K
  subst hn
  intro ls H locs hL hR hl hz
  exact lv_lload_n hx hb hd rfl (hL.2.2 _ _ hv (fun q => by cases q)) (k ls H locs hL hR hl hz)
theorem wp_lload (K : Ok E X y cc nL ret rm P S0) {i : Nat} {a : Int} {n : Nat} (hd : decode cc pc = .ok (.lload i, 2)) (hn : pc + 2 = n) (hv : L[i]? = some (.long (zl a)))
    (k : Wp E X n L (.long (zl a) :: st) S M) : Wp E X pc L (st) S M := by
  obtain ⟨p, l, e, R, s, m, args, below, meth, c, Q, G, z0, l0⟩ := X
  obtain ⟨hx, hb, hml, hown, hts, hK, hRm, hr, hlo, hnm, hQ, hz0, hl0⟩ := K
  subst hn
  intro ls H locs hL hR hl hz
  exact lv_lload hx hb hd (hL.2.2 _ _ hv (fun q => by cases q)) (k ls H locs hL hR hl hz)
theorem wp_aload_n (K : Ok E X y cc nL ret rm P S0) {i : Fin 4} {a : Nat} {n : Nat} (hd : decode cc pc = .ok (.aload_n i, 1)) (hn : pc + 1 = n) (hv : L[(i : Nat)]? = some (.ref a))
    (k : Wp E X n L (.ref a :: st) S M) : Wp E X pc L (st) S M := by
  obtain ⟨p, l, e, R, s, m, args, below, meth, c, Q, G, z0, l0⟩ := X
  obtain ⟨hx, hb, hml, hown, hts, hK, hRm, hr, hlo, hnm, hQ, hz0, hl0⟩ := K
  subst hn
  intro ls H locs hL hR hl hz
  have h1 := hL.2.2 _ _ hv (fun q => by cases q)
  have k1 := k ls H locs hL hR hl hz
  rw [List.map_cons] at k1
  cases hb0 : Nat.beq a 0 with
  | true =>
    have e : tr G (.ref a) = .null := by show (bif Nat.beq a 0 then Value.null else Value.ref (ad G a)) = _; rw [hb0]; rfl
    rw [e] at h1 k1
    exact lv_aload_nN hx hb hd rfl h1 k1
  | false =>
    have e : tr G (.ref a) = .ref (ad G a) := by show (bif Nat.beq a 0 then Value.null else Value.ref (ad G a)) = _; rw [hb0]; rfl
    rw [e] at h1 k1
    exact lv_aload_n hx hb hd rfl h1 k1
theorem wp_aload (K : Ok E X y cc nL ret rm P S0) {i : Nat} {a : Nat} {n : Nat} (hd : decode cc pc = .ok (.aload i, 2)) (hn : pc + 2 = n) (hv : L[i]? = some (.ref a))
    (k : Wp E X n L (.ref a :: st) S M) : Wp E X pc L (st) S M := by
  obtain ⟨p, l, e, R, s, m, args, below, meth, c, Q, G, z0, l0⟩ := X
  obtain ⟨hx, hb, hml, hown, hts, hK, hRm, hr, hlo, hnm, hQ, hz0, hl0⟩ := K
  subst hn
  intro ls H locs hL hR hl hz
  have h1 := hL.2.2 _ _ hv (fun q => by cases q)
  have k1 := k ls H locs hL hR hl hz
  rw [List.map_cons] at k1
  cases hb0 : Nat.beq a 0 with
  | true =>
    have e : tr G (.ref a) = .null := by show (bif Nat.beq a 0 then Value.null else Value.ref (ad G a)) = _; rw [hb0]; rfl
    rw [e] at h1 k1
    exact lv_aloadN hx hb hd  h1 k1
  | false =>
    have e : tr G (.ref a) = .ref (ad G a) := by show (bif Nat.beq a 0 then Value.null else Value.ref (ad G a)) = _; rw [hb0]; rfl
    rw [e] at h1 k1
    exact lv_aload hx hb hd  h1 k1
theorem wp_istore_n (K : Ok E X y cc nL ret rm P S0) {i : Fin 4} {a : Int} {n : Nat} (hd : decode cc pc = .ok (.istore_n i, 1)) (hn : pc + 1 = n) (hi : (i : Nat) < nL)
    (k : Wp E X n (st1 L i (.int (z a))) st S M) : Wp E X pc L (.int (z a) :: st) S M := by
  obtain ⟨p, l, e, R, s, m, args, below, meth, c, Q, G, z0, l0⟩ := X
  obtain ⟨hx, hb, hml, hown, hts, hK, hRm, hr, hlo, hnm, hQ, hz0, hl0⟩ := K
  subst hn
  intro ls H locs hL hR hl hz
  refine lv_istore_n hx hb hd rfl hL.has (by rw [hml]; exact hi) rfl (fun ls1 hl1 => ?_)
  exact k ls1 H locs (lvs.s1 hl1) hR hl hz
theorem wp_istore (K : Ok E X y cc nL ret rm P S0) {i : Nat} {a : Int} {n : Nat} (hd : decode cc pc = .ok (.istore i, 2)) (hn : pc + 2 = n) (hi : i < nL)
    (k : Wp E X n (st1 L i (.int (z a))) st S M) : Wp E X pc L (.int (z a) :: st) S M := by
  obtain ⟨p, l, e, R, s, m, args, below, meth, c, Q, G, z0, l0⟩ := X
  obtain ⟨hx, hb, hml, hown, hts, hK, hRm, hr, hlo, hnm, hQ, hz0, hl0⟩ := K
  subst hn
  intro ls H locs hL hR hl hz
  refine lv_istore hx hb hd hL.has (by rw [hml]; exact hi) rfl (fun ls1 hl1 => ?_)
  exact k ls1 H locs (lvs.s1 hl1) hR hl hz
theorem wp_lstore_n (K : Ok E X y cc nL ret rm P S0) {i : Fin 4} {a : Int} {n : Nat} (hd : decode cc pc = .ok (.lstore_n i, 1)) (hn : pc + 1 = n) (hi : (i : Nat) + 1 < nL)
    (k : Wp E X n (st2 L i (.long (zl a))) st S M) : Wp E X pc L (.long (zl a) :: st) S M := by
  obtain ⟨p, l, e, R, s, m, args, below, meth, c, Q, G, z0, l0⟩ := X
  obtain ⟨hx, hb, hml, hown, hts, hK, hRm, hr, hlo, hnm, hQ, hz0, hl0⟩ := K
  subst hn
  intro ls H locs hL hR hl hz
  refine lv_lstore_n hx hb hd rfl hL.has (by rw [hml]; exact hi) rfl (fun ls1 hl1 => ?_)
  exact k ls1 H locs (lvs.s2 hl1) hR hl hz
theorem wp_lstore (K : Ok E X y cc nL ret rm P S0) {i : Nat} {a : Int} {n : Nat} (hd : decode cc pc = .ok (.lstore i, 2)) (hn : pc + 2 = n) (hi : i + 1 < nL)
    (k : Wp E X n (st2 L i (.long (zl a))) st S M) : Wp E X pc L (.long (zl a) :: st) S M := by
  obtain ⟨p, l, e, R, s, m, args, below, meth, c, Q, G, z0, l0⟩ := X
  obtain ⟨hx, hb, hml, hown, hts, hK, hRm, hr, hlo, hnm, hQ, hz0, hl0⟩ := K
  subst hn
  intro ls H locs hL hR hl hz
  refine lv_lstore hx hb hd hL.has (by rw [hml]; exact hi) rfl (fun ls1 hl1 => ?_)
  exact k ls1 H locs (lvs.s2 hl1) hR hl hz
theorem wp_astore_n (K : Ok E X y cc nL ret rm P S0) {i : Fin 4} {a : Nat} {n : Nat} (hd : decode cc pc = .ok (.astore_n i, 1)) (hn : pc + 1 = n) (h16 : a ≠ 0) (hi : (i : Nat) < nL)
    (k : Wp E X n (st1 L i (.ref a)) st S M) : Wp E X pc L (.ref a :: st) S M := by
  obtain ⟨p, l, e, R, s, m, args, below, meth, c, Q, G, z0, l0⟩ := X
  obtain ⟨hx, hb, hml, hown, hts, hK, hRm, hr, hlo, hnm, hQ, hz0, hl0⟩ := K
  subst hn
  intro ls H locs hL hR hl hz
  rw [List.map_cons, tr_ref G h16]
  refine lv_astore_n hx hb hd rfl hL.has (by rw [hml]; exact hi) rfl (fun ls1 hl1 => ?_)
  rw [← tr_ref G h16] at hl1
  exact k ls1 H locs (lvs.s1 hl1) hR hl hz
theorem wp_astore (K : Ok E X y cc nL ret rm P S0) {i : Nat} {a : Nat} {n : Nat} (hd : decode cc pc = .ok (.astore i, 2)) (hn : pc + 2 = n) (h16 : a ≠ 0) (hi : i < nL)
    (k : Wp E X n (st1 L i (.ref a)) st S M) : Wp E X pc L (.ref a :: st) S M := by
  obtain ⟨p, l, e, R, s, m, args, below, meth, c, Q, G, z0, l0⟩ := X
  obtain ⟨hx, hb, hml, hown, hts, hK, hRm, hr, hlo, hnm, hQ, hz0, hl0⟩ := K
  subst hn
  intro ls H locs hL hR hl hz
  rw [List.map_cons, tr_ref G h16]
  refine lv_astore hx hb hd hL.has (by rw [hml]; exact hi) rfl (fun ls1 hl1 => ?_)
  rw [← tr_ref G h16] at hl1
  exact k ls1 H locs (lvs.s1 hl1) hR hl hz
theorem wp_iinc (K : Ok E X y cc nL ret rm P S0) {i : Nat} {a d : Int} {n : Nat} (hd : decode cc pc = .ok (.iinc i d, 3)) (hn : pc + 3 = n) (hv : L[i]? = some (.int (z a))) (hi : i < nL)
    (k : Wp E X n (st1 L i (.int (z (a + d)))) st S M) : Wp E X pc L (st) S M := by
  obtain ⟨p, l, e, R, s, m, args, below, meth, c, Q, G, z0, l0⟩ := X
  obtain ⟨hx, hb, hml, hown, hts, hK, hRm, hr, hlo, hnm, hQ, hz0, hl0⟩ := K
  subst hn
  intro ls H locs hL hR hl hz
  obtain ⟨j, hj⟩ := List.getElem?_of_mem (mem_prs (G := G) hv (fun q => by cases q))
  refine lv_iinc (v := z (a + d)) hx hb hd hL.has hj (z_add a d) (by rw [hml]; exact hi) rfl (fun ls1 hl1 => ?_)
  exact k ls1 H locs (lvs.s1 hl1) hR hl hz
theorem wp_dup (K : Ok E X y cc nL ret rm P S0) {v : Value} {n : Nat} (hd : decode cc pc = .ok (.dup, 1)) (hn : pc + 1 = n) (hc : v.category = 1)
    (k : Wp E X n L (v :: v :: st) S M) : Wp E X pc L (v :: st) S M := by
  obtain ⟨p, l, e, R, s, m, args, below, meth, c, Q, G, z0, l0⟩ := X
  obtain ⟨hx, hb, hml, hown, hts, hK, hRm, hr, hlo, hnm, hQ, hz0, hl0⟩ := K
  subst hn
  intro ls H locs hL hR hl hz
  exact lv_dup hx hb hd (by rw [tr_cat]; exact hc) (k ls H locs hL hR hl hz)
theorem wp_pop (K : Ok E X y cc nL ret rm P S0) {v : Value} {n : Nat} (hd : decode cc pc = .ok (.pop, 1)) (hn : pc + 1 = n) (hc : v.category = 1)
    (k : Wp E X n L (st) S M) : Wp E X pc L (v :: st) S M := by
  obtain ⟨p, l, e, R, s, m, args, below, meth, c, Q, G, z0, l0⟩ := X
  obtain ⟨hx, hb, hml, hown, hts, hK, hRm, hr, hlo, hnm, hQ, hz0, hl0⟩ := K
  subst hn
  intro ls H locs hL hR hl hz
  exact lv_pop hx hb hd (by rw [tr_cat]; exact hc) (k ls H locs hL hR hl hz)
theorem wp_dup2 (K : Ok E X y cc nL ret rm P S0) {v w : Value} {n : Nat} (hd : decode cc pc = .ok (.dup2, 1)) (hn : pc + 1 = n) (hc : v.category = 1) (hc2 : w.category = 1)
    (k : Wp E X n L (v :: w :: v :: w :: st) S M) : Wp E X pc L (v :: w :: st) S M := by
  obtain ⟨p, l, e, R, s, m, args, below, meth, c, Q, G, z0, l0⟩ := X
  obtain ⟨hx, hb, hml, hown, hts, hK, hRm, hr, hlo, hnm, hQ, hz0, hl0⟩ := K
  subst hn
  intro ls H locs hL hR hl hz
  exact lv_dup2_11 hx hb hd (by rw [tr_cat]; exact hc) (by rw [tr_cat]; exact hc2) (k ls H locs hL hR hl hz)
theorem wp_if_eq (K : Ok E X y cc nL ret rm P S0) {a : Int} {off : Int} {n tgt : Nat} (hd : decode cc pc = .ok (.ifCond .eq off, 3)) (hn : pc + 3 = n) (ht : (pc : Int) + off = (tgt : Int)) (ha : InR a)
    (kt : a = 0 → Wp E X tgt L st S M) (kf : a ≠ 0 → Wp E X n L st S M) : Wp E X pc L (.int (z a) :: st) S M := by
  obtain ⟨p, l, e, R, s, m, args, below, meth, c, Q, G, z0, l0⟩ := X
  obtain ⟨hx, hb, hml, hown, hts, hK, hRm, hr, hlo, hnm, hQ, hz0, hl0⟩ := K
  subst hn
  intro ls H locs hL hR hl hz
  refine lv_if_eq hx hb hd ht (fun q => kt ?_ ls H locs hL hR hl hz) (fun q => kf ?_ ls H locs hL hR hl hz)
  · simp only [z_0, z_eq_iff, z_lt_iff, z_le_iff, ha.w, show w32 0 = 0 from rfl, ne_eq, Decidable.not_not] at q; omega
  · simp only [z_0, z_eq_iff, z_lt_iff, z_le_iff, ha.w, show w32 0 = 0 from rfl, ne_eq, Decidable.not_not] at q; omega
theorem wp_icmp_eq (K : Ok E X y cc nL ret rm P S0) {a b : Int} {off : Int} {n tgt : Nat} (hd : decode cc pc = .ok (.if_icmp .eq off, 3)) (hn : pc + 3 = n) (ht : (pc : Int) + off = (tgt : Int)) (ha : InR a) (hb1 : InR b)
    (kt : a = b → Wp E X tgt L st S M) (kf : a ≠ b → Wp E X n L st S M) : Wp E X pc L (.int (z b) :: .int (z a) :: st) S M := by
  obtain ⟨p, l, e, R, s, m, args, below, meth, c, Q, G, z0, l0⟩ := X
  obtain ⟨hx, hb, hml, hown, hts, hK, hRm, hr, hlo, hnm, hQ, hz0, hl0⟩ := K
  subst hn
  intro ls H locs hL hR hl hz
  refine lv_icmp_eq hx hb hd ht (fun q => kt ?_ ls H locs hL hR hl hz) (fun q => kf ?_ ls H locs hL hR hl hz)
  · simp only [z_eq_iff, z_lt_iff, z_le_iff, ha.w, hb1.w, ne_eq, Decidable.not_not] at q; omega
  · simp only [z_eq_iff, z_lt_iff, z_le_iff, ha.w, hb1.w, ne_eq, Decidable.not_not] at q; omega
theorem wp_if_ne (K : Ok E X y cc nL ret rm P S0) {a : Int} {off : Int} {n tgt : Nat} (hd : decode cc pc = .ok (.ifCond .ne off, 3)) (hn : pc + 3 = n) (ht : (pc : Int) + off = (tgt : Int)) (ha : InR a)
    (kt : a ≠ 0 → Wp E X tgt L st S M) (kf : a = 0 → Wp E X n L st S M) : Wp E X pc L (.int (z a) :: st) S M := by
  obtain ⟨p, l, e, R, s, m, args, below, meth, c, Q, G, z0, l0⟩ := X
  obtain ⟨hx, hb, hml, hown, hts, hK, hRm, hr, hlo, hnm, hQ, hz0, hl0⟩ := K
  subst hn
  intro ls H locs hL hR hl hz
  refine lv_if_ne hx hb hd ht (fun q => kt ?_ ls H locs hL hR hl hz) (fun q => kf ?_ ls H locs hL hR hl hz)
  · simp only [z_0, z_eq_iff, z_lt_iff, z_le_iff, ha.w, show w32 0 = 0 from rfl, ne_eq, Decidable.not_not] at q; omega
  · simp only [z_0, z_eq_iff, z_lt_iff, z_le_iff, ha.w, show w32 0 = 0 from rfl, ne_eq, Decidable.not_not] at q; omega
theorem wp_icmp_ne (K : Ok E X y cc nL ret rm P S0) {a b : Int} {off : Int} {n tgt : Nat} (hd : decode cc pc = .ok (.if_icmp .ne off, 3)) (hn : pc + 3 = n) (ht : (pc : Int) + off = (tgt : Int)) (ha : InR a) (hb1 : InR b)
    (kt : a ≠ b → Wp E X tgt L st S M) (kf : a = b → Wp E X n L st S M) : Wp E X pc L (.int (z b) :: .int (z a) :: st) S M := by
  obtain ⟨p, l, e, R, s, m, args, below, meth, c, Q, G, z0, l0⟩ := X
  obtain ⟨hx, hb, hml, hown, hts, hK, hRm, hr, hlo, hnm, hQ, hz0, hl0⟩ := K
  subst hn
  intro ls H locs hL hR hl hz
  refine lv_icmp_ne hx hb hd ht (fun q => kt ?_ ls H locs hL hR hl hz) (fun q => kf ?_ ls H locs hL hR hl hz)
  · simp only [z_eq_iff, z_lt_iff, z_le_iff, ha.w, hb1.w, ne_eq, Decidable.not_not] at q; omega
  · simp only [z_eq_iff, z_lt_iff, z_le_iff, ha.w, hb1.w, ne_eq, Decidable.not_not] at q; omega
theorem wp_if_lt (K : Ok E X y cc nL ret rm P S0) {a : Int} {off : Int} {n tgt : Nat} (hd : decode cc pc = .ok (.ifCond .lt off, 3)) (hn : pc + 3 = n) (ht : (pc : Int) + off = (tgt : Int)) (ha : InR a)
    (kt : a < 0 → Wp E X tgt L st S M) (kf : 0 ≤ a → Wp E X n L st S M) : Wp E X pc L (.int (z a) :: st) S M := by
  obtain ⟨p, l, e, R, s, m, args, below, meth, c, Q, G, z0, l0⟩ := X
  obtain ⟨hx, hb, hml, hown, hts, hK, hRm, hr, hlo, hnm, hQ, hz0, hl0⟩ := K
  subst hn
  intro ls H locs hL hR hl hz
  refine lv_if_lt hx hb hd ht (fun q => kt ?_ ls H locs hL hR hl hz) (fun q => kf ?_ ls H locs hL hR hl hz)
  · simp only [z_0, z_eq_iff, z_lt_iff, z_le_iff, ha.w, show w32 0 = 0 from rfl, ne_eq, Decidable.not_not] at q; omega
  · simp only [z_0, z_eq_iff, z_lt_iff, z_le_iff, ha.w, show w32 0 = 0 from rfl, ne_eq, Decidable.not_not] at q; omega
theorem wp_icmp_lt (K : Ok E X y cc nL ret rm P S0) {a b : Int} {off : Int} {n tgt : Nat} (hd : decode cc pc = .ok (.if_icmp .lt off, 3)) (hn : pc + 3 = n) (ht : (pc : Int) + off = (tgt : Int)) (ha : InR a) (hb1 : InR b)
    (kt : a < b → Wp E X tgt L st S M) (kf : b ≤ a → Wp E X n L st S M) : Wp E X pc L (.int (z b) :: .int (z a) :: st) S M := by
  obtain ⟨p, l, e, R, s, m, args, below, meth, c, Q, G, z0, l0⟩ := X
  obtain ⟨hx, hb, hml, hown, hts, hK, hRm, hr, hlo, hnm, hQ, hz0, hl0⟩ := K
  subst hn
  intro ls H locs hL hR hl hz
  refine lv_icmp_lt hx hb hd ht (fun q => kt ?_ ls H locs hL hR hl hz) (fun q => kf ?_ ls H locs hL hR hl hz)
  · simp only [z_eq_iff, z_lt_iff, z_le_iff, ha.w, hb1.w, ne_eq, Decidable.not_not] at q; omega
  · simp only [z_eq_iff, z_lt_iff, z_le_iff, ha.w, hb1.w, ne_eq, Decidable.not_not] at q; omega
theorem wp_if_ge (K : Ok E X y cc nL ret rm P S0) {a : Int} {off : Int} {n tgt : Nat} (hd : decode cc pc = .ok (.ifCond .ge off, 3)) (hn : pc + 3 = n) (ht : (pc : Int) + off = (tgt : Int)) (ha : InR a)
    (kt : 0 ≤ a → Wp E X tgt L st S M) (kf : a < 0 → Wp E X n L st S M) : Wp E X pc L (.int (z a) :: st) S M := by
  obtain ⟨p, l, e, R, s, m, args, below, meth, c, Q, G, z0, l0⟩ := X
  obtain ⟨hx, hb, hml, hown, hts, hK, hRm, hr, hlo, hnm, hQ, hz0, hl0⟩ := K
  subst hn
  intro ls H locs hL hR hl hz
  refine lv_if_ge hx hb hd ht (fun q => kt ?_ ls H locs hL hR hl hz) (fun q => kf ?_ ls H locs hL hR hl hz)
  · simp only [z_0, z_eq_iff, z_lt_iff, z_le_iff, ha.w, show w32 0 = 0 from rfl, ne_eq, Decidable.not_not] at q; omega
  · simp only [z_0, z_eq_iff, z_lt_iff, z_le_iff, ha.w, show w32 0 = 0 from rfl, ne_eq, Decidable.not_not] at q; omega
theorem wp_icmp_ge (K : Ok E X y cc nL ret rm P S0) {a b : Int} {off : Int} {n tgt : Nat} (hd : decode cc pc = .ok (.if_icmp .ge off, 3)) (hn : pc + 3 = n) (ht : (pc : Int) + off = (tgt : Int)) (ha : InR a) (hb1 : InR b)
    (kt : b ≤ a → Wp E X tgt L st S M) (kf : a < b → Wp E X n L st S M) : Wp E X pc L (.int (z b) :: .int (z a) :: st) S M := by
  obtain ⟨p, l, e, R, s, m, args, below, meth, c, Q, G, z0, l0⟩ := X
  obtain ⟨hx, hb, hml, hown, hts, hK, hRm, hr, hlo, hnm, hQ, hz0, hl0⟩ := K
  subst hn
  intro ls H locs hL hR hl hz
  refine lv_icmp_ge hx hb hd ht (fun q => kt ?_ ls H locs hL hR hl hz) (fun q => kf ?_ ls H locs hL hR hl hz)
  · simp only [z_eq_iff, z_lt_iff, z_le_iff, ha.w, hb1.w, ne_eq, Decidable.not_not] at q; omega
  · simp only [z_eq_iff, z_lt_iff, z_le_iff, ha.w, hb1.w, ne_eq, Decidable.not_not] at q; omega
theorem wp_if_gt (K : Ok E X y cc nL ret rm P S0) {a : Int} {off : Int} {n tgt : Nat} (hd : decode cc pc = .ok (.ifCond .gt off, 3)) (hn : pc + 3 = n) (ht : (pc : Int) + off = (tgt : Int)) (ha : InR a)
    (kt : 0 < a → Wp E X tgt L st S M) (kf : a ≤ 0 → Wp E X n L st S M) : Wp E X pc L (.int (z a) :: st) S M := by
  obtain ⟨p, l, e, R, s, m, args, below, meth, c, Q, G, z0, l0⟩ := X
  obtain ⟨hx, hb, hml, hown, hts, hK, hRm, hr, hlo, hnm, hQ, hz0, hl0⟩ := K
  subst hn
  intro ls H locs hL hR hl hz
  refine lv_if_gt hx hb hd ht (fun q => kt ?_ ls H locs hL hR hl hz) (fun q => kf ?_ ls H locs hL hR hl hz)
  · simp only [z_0, z_eq_iff, z_lt_iff, z_le_iff, ha.w, show w32 0 = 0 from rfl, ne_eq, Decidable.not_not] at q; omega
  · simp only [z_0, z_eq_iff, z_lt_iff, z_le_iff, ha.w, show w32 0 = 0 from rfl, ne_eq, Decidable.not_not] at q; omega
theorem wp_icmp_gt (K : Ok E X y cc nL ret rm P S0) {a b : Int} {off : Int} {n tgt : Nat} (hd : decode cc pc = .ok (.if_icmp .gt off, 3)) (hn : pc + 3 = n) (ht : (pc : Int) + off = (tgt : Int)) (ha : InR a) (hb1 : InR b)
    (kt : b < a → Wp E X tgt L st S M) (kf : a ≤ b → Wp E X n L st S M) : Wp E X pc L (.int (z b) :: .int (z a) :: st) S M := by
  obtain ⟨p, l, e, R, s, m, args, below, meth, c, Q, G, z0, l0⟩ := X
  obtain ⟨hx, hb, hml, hown, hts, hK, hRm, hr, hlo, hnm, hQ, hz0, hl0⟩ := K
  subst hn
  intro ls H locs hL hR hl hz
  refine lv_icmp_gt hx hb hd ht (fun q => kt ?_ ls H locs hL hR hl hz) (fun q => kf ?_ ls H locs hL hR hl hz)
  · simp only [z_eq_iff, z_lt_iff, z_le_iff, ha.w, hb1.w, ne_eq, Decidable.not_not] at q; omega
  · simp only [z_eq_iff, z_lt_iff, z_le_iff, ha.w, hb1.w, ne_eq, Decidable.not_not] at q; omega
theorem wp_if_le (K : Ok E X y cc nL ret rm P S0) {a : Int} {off : Int} {n tgt : Nat} (hd : decode cc pc = .ok (.ifCond .le off, 3)) (hn : pc + 3 = n) (ht : (pc : Int) + off = (tgt : Int)) (ha : InR a)
    (kt : a ≤ 0 → Wp E X tgt L st S M) (kf : 0 < a → Wp E X n L st S M) : Wp E X pc L (.int (z a) :: st) S M := by
  obtain ⟨p, l, e, R, s, m, args, below, meth, c, Q, G, z0, l0⟩ := X
  obtain ⟨hx, hb, hml, hown, hts, hK, hRm, hr, hlo, hnm, hQ, hz0, hl0⟩ := K
  subst hn
  intro ls H locs hL hR hl hz
  refine lv_if_le hx hb hd ht (fun q => kt ?_ ls H locs hL hR hl hz) (fun q => kf ?_ ls H locs hL hR hl hz)
  · simp only [z_0, z_eq_iff, z_lt_iff, z_le_iff, ha.w, show w32 0 = 0 from rfl, ne_eq, Decidable.not_not] at q; omega
  · simp only [z_0, z_eq_iff, z_lt_iff, z_le_iff, ha.w, show w32 0 = 0 from rfl, ne_eq, Decidable.not_not] at q; omega
theorem wp_icmp_le (K : Ok E X y cc nL ret rm P S0) {a b : Int} {off : Int} {n tgt : Nat} (hd : decode cc pc = .ok (.if_icmp .le off, 3)) (hn : pc + 3 = n) (ht : (pc : Int) + off = (tgt : Int)) (ha : InR a) (hb1 : InR b)
    (kt : a ≤ b → Wp E X tgt L st S M) (kf : b < a → Wp E X n L st S M) : Wp E X pc L (.int (z b) :: .int (z a) :: st) S M := by
  obtain ⟨p, l, e, R, s, m, args, below, meth, c, Q, G, z0, l0⟩ := X
  obtain ⟨hx, hb, hml, hown, hts, hK, hRm, hr, hlo, hnm, hQ, hz0, hl0⟩ := K
  subst hn
  intro ls H locs hL hR hl hz
  refine lv_icmp_le hx hb hd ht (fun q => kt ?_ ls H locs hL hR hl hz) (fun q => kf ?_ ls H locs hL hR hl hz)
  · simp only [z_eq_iff, z_lt_iff, z_le_iff, ha.w, hb1.w, ne_eq, Decidable.not_not] at q; omega
  · simp only [z_eq_iff, z_lt_iff, z_le_iff, ha.w, hb1.w, ne_eq, Decidable.not_not] at q; omega
theorem wp_goto (K : Ok E X y cc nL ret rm P S0) {off : Int} {tgt : Nat} (hd : decode cc pc = .ok (.goto off, 3)) (ht : (pc : Int) + off = (tgt : Int)) (k : Wp E X tgt L st S M) : Wp E X pc L st S M := by
  obtain ⟨p, l, e, R, s, m, args, below, meth, c, Q, G, z0, l0⟩ := X
  obtain ⟨hx, hb, hml, hown, hts, hK, hRm, hr, hlo, hnm, hQ, hz0, hl0⟩ := K
  intro ls H locs hL hR hl hz
  exact lv_goto hx hb hd ht (k ls H locs hL hR hl hz)
theorem wp_tswIn (K : Ok E X y cc nL ret rm P S0) {a dflt lo hi off : Int} {offs : Array Int} {len tgt : Nat} (hd : decode cc pc = .ok (.tableswitch dflt lo hi offs, len)) (ha : InR a) (h1 : lo ≤ a) (h2 : a ≤ hi) (ho : offs[(a - lo).toNat]? = some off) (ht : (pc : Int) + off = (tgt : Int)) (k : Wp E X tgt L st S M) : Wp E X pc L (.int (z a) :: st) S M := by
  obtain ⟨p, l, e, R, s, m, args, below, meth, c, Q, G, z0, l0⟩ := X
  obtain ⟨hx, hb, hml, hown, hts, hK, hRm, hr, hlo, hnm, hQ, hz0, hl0⟩ := K
  intro ls H locs hL hR hl hz
  exact lv_tableIn hx hb hd (by rw [z_toInt, ha.w]; omega) (by rw [z_toInt, ha.w]; omega) (by rw [z_toInt, ha.w]; exact ho) ht (k ls H locs hL hR hl hz)
theorem wp_tswOut (K : Ok E X y cc nL ret rm P S0) {a dflt lo hi : Int} {offs : Array Int} {len tgt : Nat} (hd : decode cc pc = .ok (.tableswitch dflt lo hi offs, len)) (ha : InR a) (h1 : a < lo ∨ hi < a) (ht : (pc : Int) + dflt = (tgt : Int)) (k : Wp E X tgt L st S M) : Wp E X pc L (.int (z a) :: st) S M := by
  obtain ⟨p, l, e, R, s, m, args, below, meth, c, Q, G, z0, l0⟩ := X
  obtain ⟨hx, hb, hml, hown, hts, hK, hRm, hr, hlo, hnm, hQ, hz0, hl0⟩ := K
  intro ls H locs hL hR hl hz
  exact lv_tableOut hx hb hd (by rw [z_toInt, ha.w]; exact h1) ht (k ls H locs hL hR hl hz)
theorem wp_ireturn {a : Int} (K : Ok E X y cc nL (some .int) rm P S0) (hd : decode cc pc = .ok (.ireturn, 1)) (hP : P (some (.int (z a))) (bud S S0 rm) M) (hw : S.2.2.1 ≤ S0.2.2.1 + rm.cells ∧ S.2.2.2 ≤ S0.2.2.2 + rm.slots) : Wp E X pc L ([.int (z a)]) S M := by
  obtain ⟨p, l, e, R, s, m, args, below, meth, c, Q, G, z0, l0⟩ := X
  obtain ⟨hx, hb, hml, hown, hts, hK, hRm, hr, hlo, hnm, hQ, hz0, hl0⟩ := K
  intro ls H locs hL hR hl hz
  subst hQ; subst hz0; subst hl0
  refine W.widen (k := rm.cells) (n := rm.slots) (by omega) (by omega) ?_
  exact W.iret hx hb hr (fun t ht _ => ⟨_, bud S S0 rm, M, rfl, hP, by rw [ht]; exact hR, rfl, rfl⟩) hl hd
theorem wp_zreturn {a : Int} {ty : FieldType} (K : Ok E X y cc nL (some ty) rm P S0) (hd : decode cc pc = .ok (.ireturn, 1)) (hP : P (some (.int (z a))) (bud S S0 rm) M) (hnr : narrow ty (.int (z a)) = .int (z a)) (hw : S.2.2.1 ≤ S0.2.2.1 + rm.cells ∧ S.2.2.2 ≤ S0.2.2.2 + rm.slots) : Wp E X pc L ([.int (z a)]) S M := by
  obtain ⟨p, l, e, R, s, m, args, below, meth, c, Q, G, z0, l0⟩ := X
  obtain ⟨hx, hb, hml, hown, hts, hK, hRm, hr, hlo, hnm, hQ, hz0, hl0⟩ := K
  intro ls H locs hL hR hl hz
  subst hQ; subst hz0; subst hl0
  refine W.widen (k := rm.cells) (n := rm.slots) (by omega) (by omega) ?_
  exact W.zret hx hb hr hnr (fun t ht _ => ⟨_, bud S S0 rm, M, rfl, hP, by rw [ht]; exact hR, rfl, rfl⟩) hl hd
theorem wp_lreturn {a : Int} (K : Ok E X y cc nL (some .long) rm P S0) (hd : decode cc pc = .ok (.lreturn, 1)) (hP : P (some (.long (zl a))) (bud S S0 rm) M) (hw : S.2.2.1 ≤ S0.2.2.1 + rm.cells ∧ S.2.2.2 ≤ S0.2.2.2 + rm.slots) : Wp E X pc L ([.long (zl a)]) S M := by
  obtain ⟨p, l, e, R, s, m, args, below, meth, c, Q, G, z0, l0⟩ := X
  obtain ⟨hx, hb, hml, hown, hts, hK, hRm, hr, hlo, hnm, hQ, hz0, hl0⟩ := K
  intro ls H locs hL hR hl hz
  subst hQ; subst hz0; subst hl0
  refine W.widen (k := rm.cells) (n := rm.slots) (by omega) (by omega) ?_
  exact W.lret hx hb hr (fun t ht _ => ⟨_, bud S S0 rm, M, rfl, hP, by rw [ht]; exact hR, rfl, rfl⟩) hl hd
theorem wp_vreturn (K : Ok E X y cc nL none rm P S0) (hd : decode cc pc = .ok (.return_, 1)) (hP : P (none) (bud S S0 rm) M) (hw : S.2.2.1 ≤ S0.2.2.1 + rm.cells ∧ S.2.2.2 ≤ S0.2.2.2 + rm.slots) : Wp E X pc L ([]) S M := by
  obtain ⟨p, l, e, R, s, m, args, below, meth, c, Q, G, z0, l0⟩ := X
  obtain ⟨hx, hb, hml, hown, hts, hK, hRm, hr, hlo, hnm, hQ, hz0, hl0⟩ := K
  intro ls H locs hL hR hl hz
  subst hQ; subst hz0; subst hl0
  refine W.widen (k := rm.cells) (n := rm.slots) (by omega) (by omega) ?_
  exact W.vret hx hb hr (fun t ht _ => ⟨_, bud S S0 rm, M, rfl, hP, by rw [ht]; exact hR, rfl, rfl⟩) hl hd
theorem wp_areturn {a : Nat} {ty : FieldType} (K : Ok E X y cc nL (some ty) rm P S0) (hd : decode cc pc = .ok (.areturn, 1)) (hP : P (some (.ref a)) (bud S S0 rm) M) (h16 : a ≠ 0) (hty : (∃ n, ty = .object n) ∨ ∃ t, ty = .array t) (hw : S.2.2.1 ≤ S0.2.2.1 + rm.cells ∧ S.2.2.2 ≤ S0.2.2.2 + rm.slots) : Wp E X pc L ([.ref a]) S M := by
  obtain ⟨p, l, e, R, s, m, args, below, meth, c, Q, G, z0, l0⟩ := X
  obtain ⟨hx, hb, hml, hown, hts, hK, hRm, hr, hlo, hnm, hQ, hz0, hl0⟩ := K
  intro ls H locs hL hR hl hz
  subst hQ; subst hz0; subst hl0
  refine W.widen (k := rm.cells) (n := rm.slots) (by omega) (by omega) ?_
  rw [List.map_cons, List.map_nil, tr_ref G h16]
  exact W.aret hx hb hr hty (Or.inr ⟨_, rfl⟩) (fun t ht _ => ⟨_, bud S S0 rm, M, by rw [Option.map_some, tr_ref G h16], hP, by rw [ht]; exact hR, rfl, rfl⟩) hl hd
end ROWS
