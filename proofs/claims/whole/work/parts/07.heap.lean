def kd : FieldType → Nat
  | .long => 1
  | .object _ => 2
  | .array _ => 2
  | .float => 3
  | .double => 3
  | _ => 0
theorem fval_0 {G : GT} {ty : FieldType} {x : Int} (h : kd ty = 0) : fval G ty x = .int (z x) := by cases ty <;> first | rfl | cases h
theorem fval_1 {G : GT} {ty : FieldType} {x : Int} (h : kd ty = 1) : fval G ty x = .long (zl x) := by cases ty <;> first | rfl | cases h
theorem fval_2 {G : GT} {ty : FieldType} {x : Int} (h : kd ty = 2) : fval G ty x = tr G (.ref x.toNat) := by cases ty <;> first | rfl | cases h
def ClsK (ci : Nat) (C : String) (T : u_T) (N : Nat) : Prop := vwCl[ci]? = some (C, T, N) ∧ (∀ w ∈ u_ws C T N, w ∈ Tw) ∧ (∀ k, k < N → parseFieldDescriptor (T k).2.2.1 = some (tyC ci k)) ∧ ∀ a, a < N → ∀ b, b < N → a ≠ b → (T a).2.1 ≠ (T b).2.1
def Fld (own : String) (idx ci j : Nat) (C : String) (T : u_T) (N : Nat) : Prop := ClsK ci C T N ∧ j < N ∧ (Cond.fieldLink own idx (T j).1 (T j).2.1 (T j).2.2.1 ∈ Tw ∨ ∃ host, Cond.fieldLinkNest own idx (T j).1 (T j).2.1 (T j).2.2.1 host ∈ Tw)
def live (E : ET) (S : ST) (a : Nat) : Prop := 16 ≤ a ∧ (a < E.1 ∨ a < S.2.1)
theorem liS {E : ET} {S : ST} {a : Nat} (h : (Nat.ble 16 a && Nat.blt a E.1) = true) : live E S a := by
  rw [Bool.and_eq_true] at h
  exact ⟨Nat.le_of_ble_eq_true h.1, Or.inl (Nat.blt_eq.mp h.2)⟩
theorem Rel.cel {E : ET} {G : GT} {S : ST} {M : MT} {H : Heap} (h : Rel E G S M H) {a : Nat} (hl : live E S a) : celA G (shp E S a) (M a) H (ad G a) ∧ 16 ≤ a ∧ a < S.2.1 := by
  obtain ⟨h1, h2, h3, h4, h5, h6⟩ := h
  obtain ⟨q1, q2⟩ := hl
  have : a < S.2.1 := by omega
  exact ⟨h4 a q1 this, q1, this⟩
section ROWS
variable {E : ET} {X : XT} {y : MethodName} {cc : ByteArray} {nL : Nat} {ret : Option FieldType} {rm : Room} {P : Option Value → ST → MT → Prop} {S0 : ST}
variable {pc : Nat} {L st : List Value} {S : ST} {M : MT}
theorem wp_get0 (K : Ok E X y cc nL ret rm P S0) {idx n ci j N a : Nat} {C : String} {T : u_T} (hd : decode cc pc = .ok (.getfield idx, 3)) (hn : pc + 3 = n) (F : Fld y.cls idx ci j C T N) (hs : shp E S a = (1, ci)) (hl : live E S a)
    (v : Value) (hv : ∀ G, (∀ i b, fin E i b = none ∨ True) → (∀ i k b, fin E i k = some b → M i k = (b : Int)) → fval G (tyC ci j) (M a j) = tr G v) (k : Wp E X n L (v :: st) S M) : Wp E X pc L (.ref a :: st) S M := by
  obtain ⟨p, l, e, R, s, m, args, below, meth, c, Q, G, z0, l0⟩ := X
  obtain ⟨hx, hb, hml, hown, hts, hK, hRm, hr, hlo, hnm, hQ, hz0, hl0⟩ := K
  subst hn
  intro ls H locs hL hR hlc hz
  obtain ⟨hc, h16, -⟩ := hR.cel hl
  obtain ⟨⟨hC, hin, hty, hnm2⟩, hj, hlink⟩ := F
  rw [hs] at hc
  obtain ⟨r, hr1, cell, q1, q2, q3, q4⟩ := hc
  have hr2 : r = (C, T, N) := Option.some.inj (hr1.symm.trans hC)
  subst hr2
  obtain ⟨hSl, hfc, kC, hkC, hkind⟩ := hK.2.1.1 ci _ hC
  obtain ⟨cf, kf, fi, f, hi, hsl⟩ := hSl j hj
  have k1 := k ls H locs hL hR hlc hz
  rw [List.map_cons, ← hv G (fun _ _ => Or.inr trivial) hR.2.2.2.2.2] at k1
  rw [List.map_cons, tr_ref G (by omega)]
  have hst := (u_facts hfc hkC (u_lays hts hin hj) hi).1
  have hslot : cell.slots[f.slot]? = some (fval G (tyC ci j) (M a j)) := by rw [hsl, q4 j hj]
  rcases hlink with hlink | ⟨host, hlink⟩
  · exact W.getf hx hb hown (hts _ hlink) hi hst q1 (by rw [q3]; exact fun h => by cases h) hslot rfl rfl hd k1
  · exact va_Wgetf hx hb hown (hts _ hlink) hi hst q1 (by rw [q3]; exact fun h => by cases h) hslot rfl rfl hd k1
theorem wp_getI (K : Ok E X y cc nL ret rm P S0) {idx n ci j N a : Nat} {C : String} {T : u_T} (hd : decode cc pc = .ok (.getfield idx, 3)) (hn : pc + 3 = n) (F : Fld y.cls idx ci j C T N) (hs : shp E S a = (1, ci)) (hl : live E S a) (ht : kd (tyC ci j) = 0)
    (k : Wp E X n L (.int (z (M a j)) :: st) S M) : Wp E X pc L (.ref a :: st) S M := wp_get0 K hd hn F hs hl _ (fun G _ _ => fval_0 ht) k
theorem wp_getL (K : Ok E X y cc nL ret rm P S0) {idx n ci j N a : Nat} {C : String} {T : u_T} (hd : decode cc pc = .ok (.getfield idx, 3)) (hn : pc + 3 = n) (F : Fld y.cls idx ci j C T N) (hs : shp E S a = (1, ci)) (hl : live E S a) (ht : kd (tyC ci j) = 1)
    (k : Wp E X n L (.long (zl (M a j)) :: st) S M) : Wp E X pc L (.ref a :: st) S M := wp_get0 K hd hn F hs hl _ (fun G _ _ => fval_1 ht) k
/-- a reference that changes -/
theorem wp_getD (K : Ok E X y cc nL ret rm P S0) {idx n ci j N a : Nat} {C : String} {T : u_T} (hd : decode cc pc = .ok (.getfield idx, 3)) (hn : pc + 3 = n) (F : Fld y.cls idx ci j C T N) (hs : shp E S a = (1, ci)) (hl : live E S a) (ht : kd (tyC ci j) = 2) {b : Nat} (hv : M a j = (b : Int))
    (k : Wp E X n L (.ref b :: st) S M) : Wp E X pc L (.ref a :: st) S M := wp_get0 K hd hn F hs hl _ (fun G _ _ => by rw [fval_2 ht, hv]; rfl) k
/-- a reference that never changes -/
theorem wp_getF (K : Ok E X y cc nL ret rm P S0) {idx n ci j N a : Nat} {C : String} {T : u_T} (hd : decode cc pc = .ok (.getfield idx, 3)) (hn : pc + 3 = n) (F : Fld y.cls idx ci j C T N) (hs : shp E S a = (1, ci)) (hl : live E S a) (ht : kd (tyC ci j) = 2) {b : Nat} (hv : fin E a j = some b)
    (k : Wp E X n L (.ref b :: st) S M) : Wp E X pc L (.ref a :: st) S M := wp_get0 K hd hn F hs hl _ (fun G _ h => by rw [fval_2 ht, h a j b hv]; rfl) k
theorem wp_put0 (K : Ok E X y cc nL ret rm P S0) {idx n ci j N a : Nat} {C : String} {T : u_T} (hd : decode cc pc = .ok (.putfield idx, 3)) (hn : pc + 3 = n) (F : Fld y.cls idx ci j C T N) (hs : shp E S a = (1, ci)) (hl : live E S a) (hfin : (T j).2.2.2 = false ∨ (y.name = "<init>" ∧ (T j).1 = y.cls ∧ Cond.fieldLink y.cls idx (T j).1 (T j).2.1 (T j).2.2.1 ∈ Tw)) (hf : fin E a j = none)
    (v : Value) (x : Int) (hv : ∀ G, tr G v = fval G (tyC ci j) x ∧ narrow (tyC ci j) (tr G v) = tr G v ∧ fits (tyC ci j) (tr G v) = true) (k : Wp E X n L st S (up M a (up (M a) j x))) : Wp E X pc L (v :: .ref a :: st) S M := by
  obtain ⟨p, l, e, R, s, m, args, below, meth, c, Q, G, z0, l0⟩ := X
  obtain ⟨hx, hb, hml, hown, hts, hK, hRm, hr, hlo, hnm, hQ, hz0, hl0⟩ := K
  subst hn
  intro ls H locs hL hR hlc hz
  obtain ⟨hc, h16, hlt⟩ := hR.cel hl
  obtain ⟨⟨hC, hin, hty, hnm2⟩, hj, hlink⟩ := F
  rw [hs] at hc
  obtain ⟨r, hr1, cell, q1, q2, q3, q4⟩ := hc
  have hr2 : r = (C, T, N) := Option.some.inj (hr1.symm.trans hC)
  subst hr2
  have hap := va_apart (own := y.cls) hts hin (tyC ci) hty hnm2 hK.2.1 hC
  obtain ⟨hSl, hfc, kC, hkC, hkind⟩ := hK.2.1.1 ci _ hC
  obtain ⟨cf, kf, fi, f, hi, hsl⟩ := hSl j hj
  obtain ⟨v1, v2, v3⟩ := hv G
  rw [List.map_cons, List.map_cons, tr_ref G (by omega)]
  have hst := (u_facts hfc hkC (u_lays hts hin hj) hi).1
  have fin1 : ∀ H' : Heap, H'[ad G a]? = some (cell.setSlot f.slot (tr G v)) → H'.size = H.size → (∀ q, q ≠ ad G a → H'[q]? = H[q]?) → W p l e R s m args below meth c H' (locs ++ [⟨ad G a, f.slot⟩]) (S.2.2.1 - z0) (S.2.2.2 - l0) Q (F0 m (pc + 3) ls (st.map (tr G))) := by
    intro H' e1 e2 e3
    refine k ls H' _ hL ?_ (fun q hq => ?_) hz
    · refine hR.put h16 hlt e2 e3 ?_ ?_
      · rw [hs]
        refine ⟨_, hC, t_OB.to (V := updV (fun j => fval G (tyC ci j) (M a j)) j (tr G v)) ⟨_, e1, q2, q3, ?_⟩ (fun i _ => ?_)⟩
        · rw [hsl]; exact t_set q4 hap hj _
        · unfold updV up
          split
          · rename_i he; subst he; exact v1
          · rfl
      · intro i b hb1
        by_cases he : i = j
        · subst he; rw [hf] at hb1; cases hb1
        · rw [up_ne _ _ he]; exact hR.2.2.2.2.2 a i b hb1
    · rcases List.mem_append.mp hq with h | h
      · exact hlc q h
      · have : q = ⟨ad G a, f.slot⟩ := by simpa using h
        rw [this, ad_ge G h16]; exact Nat.le_add_right _ _
  by_cases hff : (T j).2.2.2 = false
  · have hlay := hts _ (hin _ (u_in_lay hj))
    unfold u_lay at hlay
    rw [if_neg (by rw [hff]; decide)] at hlay
    have h6 := u_store hfc hkC hkind hlay hi (hty j hj) v2 v3
    rcases hlink with hlink | ⟨host, hlink⟩
    · exact W.putK hx hb (f := f) ⟨hown, hts _ hlink, ⟨_, _, _, hi⟩, hst⟩ (by rw [q2]; exact h6) q1 q3 (by rw [hsl]; exact k2_hasslot (q4 j hj)) rfl rfl hd fin1
    · exact va_WputK hx hb (f := f) hown (hts _ hlink) hi hst (by rw [q2]; exact h6) q1 q3 (by rw [hsl]; exact k2_hasslot (q4 j hj)) rfl rfl hd fin1
  · have hff : (T j).2.2.2 = true := by simpa using hff
    rcases hfin with h | ⟨hni, hdecl, hlink⟩
    · rw [h] at hff; cases hff
    · have hlay := hts _ (hin _ (u_in_lay hj))
      unfold u_lay at hlay
      rw [if_pos hff] at hlay
      have hcf : m.cls = cf := by
        obtain ⟨_, _, c', _, _, _, -, -, hf', -, -, -, hown2, -⟩ := Cond.laysFinal_spec hlay
        have e1 : c' = cf := by have := hi.symm.trans hf'; simp at this; exact this.1.symm
        rw [hdecl] at hown2
        rw [← e1]; exact Option.some.inj (hown.symm.trans hown2)
      have h6 := u_fits hfc hkC hkind (Or.inr hlay) hi (hty j hj) v2 v3
      exact W.putFinK hx hb hown (hts _ hlink) hi hst hcf (hnm.trans hni) (by rw [q2]; exact h6) q1 q3 (by rw [hsl]; exact k2_hasslot (q4 j hj)) rfl rfl hd fin1
theorem wp_putI (K : Ok E X y cc nL ret rm P S0) {idx n ci j N a : Nat} {C : String} {T : u_T} (hd : decode cc pc = .ok (.putfield idx, 3)) (hn : pc + 3 = n) (F : Fld y.cls idx ci j C T N) (hs : shp E S a = (1, ci)) (hl : live E S a) (hfin : (T j).2.2.2 = false ∨ (y.name = "<init>" ∧ (T j).1 = y.cls ∧ Cond.fieldLink y.cls idx (T j).1 (T j).2.1 (T j).2.2.1 ∈ Tw)) (hf : fin E a j = none) (ht : tyC ci j = .int) {x : Int}
    (k : Wp E X n L st S (up M a (up (M a) j x))) : Wp E X pc L (.int (z x) :: .ref a :: st) S M := wp_put0 K hd hn F hs hl hfin hf _ x (fun G => by rw [ht]; exact ⟨rfl, rfl, rfl⟩) k
theorem fits_bool {x : Int} (h : x = 0 ∨ x = 1) : narrow .boolean (.int (z x)) = .int (z x) ∧ fits .boolean (.int (z x)) = true := by rcases h with rfl | rfl <;> exact ⟨rfl, rfl⟩
theorem wp_putZ (K : Ok E X y cc nL ret rm P S0) {idx n ci j N a : Nat} {C : String} {T : u_T} (hd : decode cc pc = .ok (.putfield idx, 3)) (hn : pc + 3 = n) (F : Fld y.cls idx ci j C T N) (hs : shp E S a = (1, ci)) (hl : live E S a) (hfin : (T j).2.2.2 = false ∨ (y.name = "<init>" ∧ (T j).1 = y.cls ∧ Cond.fieldLink y.cls idx (T j).1 (T j).2.1 (T j).2.2.1 ∈ Tw)) (hf : fin E a j = none) (ht : tyC ci j = .boolean) {x : Int} (hx : x = 0 ∨ x = 1)
    (k : Wp E X n L st S (up M a (up (M a) j x))) : Wp E X pc L (.int (z x) :: .ref a :: st) S M := wp_put0 K hd hn F hs hl hfin hf _ x (fun G => by rw [ht]; exact ⟨rfl, fits_bool hx⟩) k
theorem wp_putL (K : Ok E X y cc nL ret rm P S0) {idx n ci j N a : Nat} {C : String} {T : u_T} (hd : decode cc pc = .ok (.putfield idx, 3)) (hn : pc + 3 = n) (F : Fld y.cls idx ci j C T N) (hs : shp E S a = (1, ci)) (hl : live E S a) (hfin : (T j).2.2.2 = false ∨ (y.name = "<init>" ∧ (T j).1 = y.cls ∧ Cond.fieldLink y.cls idx (T j).1 (T j).2.1 (T j).2.2.1 ∈ Tw)) (hf : fin E a j = none) (ht : tyC ci j = .long) {x : Int}
    (k : Wp E X n L st S (up M a (up (M a) j x))) : Wp E X pc L (.long (zl x) :: .ref a :: st) S M := wp_put0 K hd hn F hs hl hfin hf _ x (fun G => by rw [ht]; exact ⟨rfl, rfl, rfl⟩) k
theorem tr_fits {G : GT} {ty : FieldType} {b : Nat} (h : kd ty = 2) : narrow ty (tr G (.ref b)) = tr G (.ref b) ∧ fits ty (tr G (.ref b)) = true := by
  cases hb : Nat.beq b 0 with
  | true =>
    have e : tr G (.ref b) = .null := by show (bif Nat.beq b 0 then Value.null else Value.ref (ad G b)) = _; rw [hb]; rfl
    rw [e]; cases ty <;> first | exact ⟨rfl, rfl⟩ | cases h
  | false =>
    have e : tr G (.ref b) = .ref (ad G b) := by show (bif Nat.beq b 0 then Value.null else Value.ref (ad G b)) = _; rw [hb]; rfl
    rw [e]; cases ty <;> first | exact ⟨rfl, rfl⟩ | cases h
theorem wp_putR (K : Ok E X y cc nL ret rm P S0) {idx n ci j N a : Nat} {C : String} {T : u_T} (hd : decode cc pc = .ok (.putfield idx, 3)) (hn : pc + 3 = n) (F : Fld y.cls idx ci j C T N) (hs : shp E S a = (1, ci)) (hl : live E S a) (hfin : (T j).2.2.2 = false ∨ (y.name = "<init>" ∧ (T j).1 = y.cls ∧ Cond.fieldLink y.cls idx (T j).1 (T j).2.1 (T j).2.2.1 ∈ Tw)) (hf : fin E a j = none) (ht : kd (tyC ci j) = 2) {b : Nat}
    (k : Wp E X n L st S (up M a (up (M a) j (b : Int)))) : Wp E X pc L (.ref b :: .ref a :: st) S M := wp_put0 K hd hn F hs hl hfin hf _ (b : Int) (fun G => ⟨by rw [fval_2 ht]; rfl, tr_fits ht⟩) k
/-- an index: what the machine sees of it -/
theorem ix_in {i : Int} {n : Nat} (h0 : 0 ≤ i) (h1 : i < n) (h2 : i < 2147483648) : ¬ (z i < 0 ∨ n ≤ (z i).toNatClampNeg) ∧ (z i).toNatClampNeg = i.toNat := by
  have e : (z i).toInt = i := by rw [z_toInt]; exact w32_id (by omega) h2
  have e2 : (z i).toNatClampNeg = i.toNat := by show (z i).toInt.toNat = _; rw [e]
  refine ⟨fun h => ?_, e2⟩
  rcases h with h | h
  · rw [z_0, z_lt_iff, w32_id (by omega) h2] at h
    have : w32 0 = 0 := rfl
    omega
  · rw [e2] at h; omega
theorem arr_of {G : GT} {U : State} (hK : va_K G.2.2.2.1 vwCl (ctys G) U) {k : Nat} (hk : k < 5) : ArrOfT U (G.2.2.1 (k + 2)) (ek (k + 2)) ∧ va_RA U (G.2.2.1 (k + 2)) (ek (k + 2)) := by
  have h := hK.2
  match k, hk with
  | 0, _ => exact h 0 _ rfl
  | 1, _ => exact h 1 _ rfl
  | 2, _ => exact h 2 _ rfl
  | 3, _ => exact h 3 _ rfl
  | 4, _ => exact h 4 _ rfl
theorem wp_iald (K : Ok E X y cc nL ret rm P S0) {n N a : Nat} {i : Int} (hd : decode cc pc = .ok (.iaload, 1)) (hn : pc + 1 = n) (hs : shp E S a = (2, N)) (hl : live E S a) (h0 : 0 ≤ i ∧ i < N ∧ i < 2147483648)
    (k : Wp E X n L (.int (z (M a i.toNat)) :: st) S M) : Wp E X pc L (.int (z i) :: .ref a :: st) S M := by
  obtain ⟨p, l, e, R, s, m, args, below, meth, c, Q, G, z0, l0⟩ := X
  obtain ⟨hx, hb, hml, hown, hts, hK, hRm, hr, hlo, hnm, hQ, hz0, hl0⟩ := K
  subst hn
  intro ls H locs hL hR hlc hz
  obtain ⟨hc, h16, hlt⟩ := hR.cel hl
  rw [hs] at hc
  obtain ⟨i1, i2⟩ := ix_in h0.1 h0.2.1 h0.2.2
  rw [List.map_cons, List.map_cons, tr_ref G (by omega)]
  refine W.iald (v := .int (z (M a i.toNat))) hx hb hc ((arr_of hK.2.1 (k := 0) (by decide)).1 _ _) (fun q => by cases q) (by rw [arrV_size]; exact i1) ?_ rfl rfl hd (k ls H locs hL hR hlc hz)
  rw [i2, arrV_read _ _ (by omega)]; rfl
theorem wp_bald (K : Ok E X y cc nL ret rm P S0) {n N a : Nat} {i : Int} (hd : decode cc pc = .ok (.baload, 1)) (hn : pc + 1 = n) (hs : shp E S a = (3, N)) (hl : live E S a) (h0 : 0 ≤ i ∧ i < N ∧ i < 2147483648)
    (k : Wp E X n L (.int (z (M a i.toNat)) :: st) S M) : Wp E X pc L (.int (z i) :: .ref a :: st) S M := by
  obtain ⟨p, l, e, R, s, m, args, below, meth, c, Q, G, z0, l0⟩ := X
  obtain ⟨hx, hb, hml, hown, hts, hK, hRm, hr, hlo, hnm, hQ, hz0, hl0⟩ := K
  subst hn
  intro ls H locs hL hR hlc hz
  obtain ⟨hc, h16, hlt⟩ := hR.cel hl
  rw [hs] at hc
  obtain ⟨i1, i2⟩ := ix_in h0.1 h0.2.1 h0.2.2
  rw [List.map_cons, List.map_cons, tr_ref G (by omega)]
  refine W.bald (v := .int (z (M a i.toNat))) hx hb hc ((arr_of hK.2.1 (k := 1) (by decide)).1 _ _) (fun q => by cases q) (by rw [arrV_size]; exact i1) ?_ rfl rfl hd (k ls H locs hL hR hlc hz)
  rw [i2, arrV_read _ _ (by omega)]; rfl
theorem wp_zald (K : Ok E X y cc nL ret rm P S0) {n N a : Nat} {i : Int} (hd : decode cc pc = .ok (.baload, 1)) (hn : pc + 1 = n) (hs : shp E S a = (4, N)) (hl : live E S a) (h0 : 0 ≤ i ∧ i < N ∧ i < 2147483648)
    (k : Wp E X n L (.int (z (M a i.toNat)) :: st) S M) : Wp E X pc L (.int (z i) :: .ref a :: st) S M := by
  obtain ⟨p, l, e, R, s, m, args, below, meth, c, Q, G, z0, l0⟩ := X
  obtain ⟨hx, hb, hml, hown, hts, hK, hRm, hr, hlo, hnm, hQ, hz0, hl0⟩ := K
  subst hn
  intro ls H locs hL hR hlc hz
  obtain ⟨hc, h16, hlt⟩ := hR.cel hl
  rw [hs] at hc
  obtain ⟨i1, i2⟩ := ix_in h0.1 h0.2.1 h0.2.2
  rw [List.map_cons, List.map_cons, tr_ref G (by omega)]
  refine W.zald (v := .int (z (M a i.toNat))) hx hb hc ((arr_of hK.2.1 (k := 2) (by decide)).1 _ _) (fun q => by cases q) (by rw [arrV_size]; exact i1) ?_ rfl rfl hd (k ls H locs hL hR hlc hz)
  rw [i2, arrV_read _ _ (by omega)]; rfl
theorem wp_lald (K : Ok E X y cc nL ret rm P S0) {n N a : Nat} {i : Int} (hd : decode cc pc = .ok (.laload, 1)) (hn : pc + 1 = n) (hs : shp E S a = (5, N)) (hl : live E S a) (h0 : 0 ≤ i ∧ i < N ∧ i < 2147483648)
    (k : Wp E X n L (.long (zl (M a i.toNat)) :: st) S M) : Wp E X pc L (.int (z i) :: .ref a :: st) S M := by
  obtain ⟨p, l, e, R, s, m, args, below, meth, c, Q, G, z0, l0⟩ := X
  obtain ⟨hx, hb, hml, hown, hts, hK, hRm, hr, hlo, hnm, hQ, hz0, hl0⟩ := K
  subst hn
  intro ls H locs hL hR hlc hz
  obtain ⟨hc, h16, hlt⟩ := hR.cel hl
  rw [hs] at hc
  obtain ⟨i1, i2⟩ := ix_in h0.1 h0.2.1 h0.2.2
  rw [List.map_cons, List.map_cons, tr_ref G (by omega)]
  refine W.lald (v := .long (zl (M a i.toNat))) hx hb hc ((arr_of hK.2.1 (k := 3) (by decide)).1 _ _) (fun q => by cases q) (by rw [arrV_size]; exact i1) ?_ rfl rfl hd (k ls H locs hL hR hlc hz)
  rw [i2, arrV_read _ _ (by omega)]; rfl
theorem wp_aald (K : Ok E X y cc nL ret rm P S0) {n N a b : Nat} {i : Int} (hd : decode cc pc = .ok (.aaload, 1)) (hn : pc + 1 = n) (hs : shp E S a = (6, N)) (hl : live E S a) (h0 : 0 ≤ i ∧ i < N ∧ i < 2147483648) (hv : M a i.toNat = (b : Int))
    (k : Wp E X n L (.ref b :: st) S M) : Wp E X pc L (.int (z i) :: .ref a :: st) S M := by
  obtain ⟨p, l, e, R, s, m, args, below, meth, c, Q, G, z0, l0⟩ := X
  obtain ⟨hx, hb, hml, hown, hts, hK, hRm, hr, hlo, hnm, hQ, hz0, hl0⟩ := K
  subst hn
  intro ls H locs hL hR hlc hz
  obtain ⟨hc, h16, hlt⟩ := hR.cel hl
  rw [hs] at hc
  obtain ⟨i1, i2⟩ := ix_in h0.1 h0.2.1 h0.2.2
  rw [List.map_cons, List.map_cons, tr_ref G (by omega)]
  refine W.aald (v := tr G (.ref b)) (ty := ek 6) hx hb hc ((arr_of hK.2.1 (k := 4) (by decide)).1 _ _) rfl (fun q => by cases q) (by rw [arrV_size]; exact i1) ?_ rfl rfl hd (k ls H locs hL hR hlc hz)
  rw [i2, arrV_read _ _ (by omega), fval_2 rfl, hv]; rfl
theorem wp_alen (K : Ok E X y cc nL ret rm P S0) {n N a kk : Nat} (hd : decode cc pc = .ok (.arraylength, 1)) (hn : pc + 1 = n) (hs : shp E S a = (kk + 2, N)) (hk : kk < 5) (hl : live E S a)
    (k : Wp E X n L (.int (z (N : Int)) :: st) S M) : Wp E X pc L (.ref a :: st) S M := by
  obtain ⟨p, l, e, R, s, m, args, below, meth, c, Q, G, z0, l0⟩ := X
  obtain ⟨hx, hb, hml, hown, hts, hK, hRm, hr, hlo, hnm, hQ, hz0, hl0⟩ := K
  subst hn
  intro ls H locs hL hR hlc hz
  obtain ⟨hc, h16, hlt⟩ := hR.cel hl
  rw [hs] at hc
  rw [List.map_cons, tr_ref G (by omega)]
  exact W.alen (n := z (N : Int)) hx hb hc ((arr_of hK.2.1 (k := kk) hk).1 _ _) (by rw [arrV_size]; exact (Int32.ofInt_eq_ofNat).symm) rfl rfl hd (k ls H locs hL hR hlc hz)
/-- the empty array that was there before -/
theorem wp_alen1 (K : Ok E X y cc nL ret rm P S0) {n : Nat} (hd : decode cc pc = .ok (.arraylength, 1)) (hn : pc + 1 = n)
    (k : Wp E X n L (.int (z 0) :: st) S M) : Wp E X pc L (.ref 1 :: st) S M := by
  obtain ⟨p, l, e, R, s, m, args, below, meth, c, Q, G, z0, l0⟩ := X
  obtain ⟨hx, hb, hml, hown, hts, hK, hRm, hr, hlo, hnm, hQ, hz0, hl0⟩ := K
  subst hn
  intro ls H locs hL hR hlc hz
  obtain ⟨cell, t1, t2, t3, t4, t5, t6, t7⟩ := hK.2.2.2.2.1
  have hq : G.2.1 1 < G.1 := Nat.not_le.mp t7
  rw [List.map_cons, tr_ref G (by decide)]
  refine W.alen (n := z 0) (cell := cell) hx hb ?_ t2 t5 rfl rfl hd (k ls H locs hL hR hlc hz)
  show H[G.2.1 1]? = _
  rw [hR.2.2.2.2.1 _ hq]; exact t1
/-- one element is written -/
theorem arr_put {G : GT} {H H1 : Heap} (hR : Rel E G S M H) {a j N kk : Nat} {x : Int} {v : Value} (h16 : 16 ≤ a) (hlt : a < S.2.1) (hs : shp E S a = (kk + 2, N)) (hf : ∀ i, fin E a i = none) (he : H1[ad G a]? = some ((arrV (G.2.2.1 (kk + 2)) N (fun j => fval G (ek (kk + 2)) (M a j))).setSlot j v)) (hv : v = fval G (ek (kk + 2)) x) (hsz : H1.size = H.size) (ho : ∀ q : Nat, q ≠ ad G a → H1[q]? = H[q]?) : Rel E G S (up M a (up (M a) j x)) H1 := by
  refine hR.put h16 hlt hsz ho ?_ (fun i b h => by rw [hf] at h; cases h)
  rw [hs]
  show H1[ad G a]? = _
  rw [he, arrV_store]
  congr 2
  funext q
  unfold updV up
  split
  · exact hv
  · rfl
theorem wp_iast (K : Ok E X y cc nL ret rm P S0) {n N a : Nat} {i x : Int} (hd : decode cc pc = .ok (.iastore, 1)) (hn : pc + 1 = n) (hs : shp E S a = (2, N)) (hl : live E S a) (hf : ∀ i, fin E a i = none) (h0 : 0 ≤ i ∧ i < N ∧ i < 2147483648)
    (k : Wp E X n L st S (up M a (up (M a) i.toNat x))) : Wp E X pc L (.int (z x) :: .int (z i) :: .ref a :: st) S M := by
  obtain ⟨p, l, e, R, s, m, args, below, meth, c, Q, G, z0, l0⟩ := X
  obtain ⟨hx, hb, hml, hown, hts, hK, hRm, hr, hlo, hnm, hQ, hz0, hl0⟩ := K
  subst hn
  intro ls H locs hL hR hlc hz
  obtain ⟨hc, h16, hlt⟩ := hR.cel hl
  rw [hs] at hc
  obtain ⟨i1, i2⟩ := ix_in h0.1 h0.2.1 h0.2.2
  rw [List.map_cons, List.map_cons, List.map_cons, tr_ref G (by omega)]
  refine W.iast hx hb hc ((arr_of hK.2.1 (k := 0) (by decide)).1 _ _) (fun q => by cases q) (by rw [arrV_size]; exact i1) rfl rfl hd fun H1 e1 e2 e3 => ?_
  rw [i2] at e1
  refine k ls H1 _ hL (arr_put hR h16 hlt hs hf e1 rfl e2 e3) (fun q hq => ?_) hz
  rcases List.mem_append.mp hq with h | h
  · exact hlc q h
  · have : q.base = ad G a := by have : q = _ := List.mem_singleton.mp h; rw [this]
    rw [this, ad_ge G h16]; exact Nat.le_add_right _ _
theorem wp_last (K : Ok E X y cc nL ret rm P S0) {n N a : Nat} {i x : Int} (hd : decode cc pc = .ok (.lastore, 1)) (hn : pc + 1 = n) (hs : shp E S a = (5, N)) (hl : live E S a) (hf : ∀ i, fin E a i = none) (h0 : 0 ≤ i ∧ i < N ∧ i < 2147483648)
    (k : Wp E X n L st S (up M a (up (M a) i.toNat x))) : Wp E X pc L (.long (zl x) :: .int (z i) :: .ref a :: st) S M := by
  obtain ⟨p, l, e, R, s, m, args, below, meth, c, Q, G, z0, l0⟩ := X
  obtain ⟨hx, hb, hml, hown, hts, hK, hRm, hr, hlo, hnm, hQ, hz0, hl0⟩ := K
  subst hn
  intro ls H locs hL hR hlc hz
  obtain ⟨hc, h16, hlt⟩ := hR.cel hl
  rw [hs] at hc
  obtain ⟨i1, i2⟩ := ix_in h0.1 h0.2.1 h0.2.2
  rw [List.map_cons, List.map_cons, List.map_cons, tr_ref G (by omega)]
  refine W.last hx hb hc ((arr_of hK.2.1 (k := 3) (by decide)).1 _ _) (fun q => by cases q) (by rw [arrV_size]; exact i1) rfl rfl hd fun H1 e1 e2 e3 => ?_
  rw [i2] at e1
  refine k ls H1 _ hL (arr_put hR h16 hlt hs hf e1 rfl e2 e3) (fun q hq => ?_) hz
  rcases List.mem_append.mp hq with h | h
  · exact hlc q h
  · have : q.base = ad G a := by have : q = _ := List.mem_singleton.mp h; rw [this]
    rw [this, ad_ge G h16]; exact Nat.le_add_right _ _
theorem wp_bast (K : Ok E X y cc nL ret rm P S0) {n N a : Nat} {i x : Int} (hd : decode cc pc = .ok (.bastore, 1)) (hn : pc + 1 = n) (hs : shp E S a = (3, N)) (hl : live E S a) (hf : ∀ i, fin E a i = none) (h0 : 0 ≤ i ∧ i < N ∧ i < 2147483648)
    (k : Wp E X n L st S (up M a (up (M a) i.toNat (bi2b x)))) : Wp E X pc L (.int (z x) :: .int (z i) :: .ref a :: st) S M := by
  obtain ⟨p, l, e, R, s, m, args, below, meth, c, Q, G, z0, l0⟩ := X
  obtain ⟨hx, hb, hml, hown, hts, hK, hRm, hr, hlo, hnm, hQ, hz0, hl0⟩ := K
  subst hn
  intro ls H locs hL hR hlc hz
  obtain ⟨hc, h16, hlt⟩ := hR.cel hl
  rw [hs] at hc
  obtain ⟨i1, i2⟩ := ix_in h0.1 h0.2.1 h0.2.2
  rw [List.map_cons, List.map_cons, List.map_cons, tr_ref G (by omega)]
  refine W.bast hx hb hc ((arr_of hK.2.1 (k := 1) (by decide)).1 _ _) (fun q => by cases q) (by rw [arrV_size]; exact i1) rfl rfl hd fun H1 e1 e2 e3 => ?_
  rw [i2] at e1
  refine k ls H1 _ hL (arr_put hR h16 hlt hs hf e1 ?_ e2 e3) (fun q hq => ?_) hz
  · show narrow .byte (.int (z x)) = .int (z (bi2b x))
    unfold bi2b
    rw [z_self]; rfl
  rcases List.mem_append.mp hq with h | h
  · exact hlc q h
  · have : q.base = ad G a := by have : q = _ := List.mem_singleton.mp h; rw [this]
    rw [this, ad_ge G h16]; exact Nat.le_add_right _ _
theorem wp_zast (K : Ok E X y cc nL ret rm P S0) {n N a : Nat} {i x : Int} (hd : decode cc pc = .ok (.bastore, 1)) (hn : pc + 1 = n) (hs : shp E S a = (4, N)) (hl : live E S a) (hf : ∀ i, fin E a i = none) (h0 : 0 ≤ i ∧ i < N ∧ i < 2147483648) (h1 : x = 0 ∨ x = 1)
    (k : Wp E X n L st S (up M a (up (M a) i.toNat x))) : Wp E X pc L (.int (z x) :: .int (z i) :: .ref a :: st) S M := by
  obtain ⟨p, l, e, R, s, m, args, below, meth, c, Q, G, z0, l0⟩ := X
  obtain ⟨hx, hb, hml, hown, hts, hK, hRm, hr, hlo, hnm, hQ, hz0, hl0⟩ := K
  subst hn
  intro ls H locs hL hR hlc hz
  obtain ⟨hc, h16, hlt⟩ := hR.cel hl
  rw [hs] at hc
  obtain ⟨i1, i2⟩ := ix_in h0.1 h0.2.1 h0.2.2
  rw [List.map_cons, List.map_cons, List.map_cons, tr_ref G (by omega)]
  refine W.zast hx hb hc ((arr_of hK.2.1 (k := 2) (by decide)).1 _ _) (fun q => by cases q) (by rw [arrV_size]; exact i1) rfl rfl hd fun H1 e1 e2 e3 => ?_
  rw [i2] at e1
  refine k ls H1 _ hL (arr_put hR h16 hlt hs hf e1 ?_ e2 e3) (fun q hq => ?_) hz
  · exact (fits_bool h1).1
  rcases List.mem_append.mp hq with h | h
  · exact hlc q h
  · have : q.base = ad G a := by have : q = _ := List.mem_singleton.mp h; rw [this]
    rw [this, ad_ge G h16]; exact Nat.le_add_right _ _
end ROWS
