theorem getD_out {α : Type} (d : α) : ∀ (l : List α) (a : Nat), l.length ≤ a → l.getD a d = d := by
  intro l a h
  rw [List.getD_eq_getElem?_getD, List.getElem?_eq_none h]; rfl
theorem fin_out {E : ET} (hE : E.2.2.length ≤ E.1) {a : Nat} (h : E.1 ≤ a) (j : Nat) : fin E a j = none := by
  unfold fin
  rw [getD_out [] _ _ (by omega)]; rfl
theorem shp_out {E : ET} {S : ST} {a : Nat} (h : E.1 ≤ a) : shp E S a = S.1 a := by
  unfold shp
  have : Nat.blt a E.1 = false := by
    cases hb : Nat.blt a E.1 with
    | false => rfl
    | true => have := Nat.blt_eq.mp hb; omega
  rw [this]; rfl
theorem shp_in {E : ET} {S S' : ST} {a : Nat} (h : a < E.1) : shp E S a = shp E S' a := by
  unfold shp
  rw [Nat.blt_eq.mpr h]; rfl
theorem Rel.push {E : ET} {G : GT} {S : ST} {M : MT} {H H1 : Heap} (h : Rel E G S M H) (hE : E.2.2.length ≤ E.1) (sh : Nat × Nat) (f : Nat → Int) (c s : Nat) (hsz : H1.size = H.size + 1) (ho : ∀ q : Nat, q < H.size → H1[q]? = H[q]?) (hc : celA G sh f H1 H.size) : Rel E G (up S.1 S.2.1 sh, S.2.1 + 1, c, s) (up M S.2.1 f) H1 := by
  obtain ⟨h1, h2, h3, h4, h5, h6⟩ := h
  refine ⟨Nat.le_trans h1 (Nat.le_succ _), Nat.le_trans h2 (Nat.le_succ _), by rw [hsz, h3]; show _ = G.1 + (S.2.1 + 1 - 16); omega, fun b hb1 hb2 => ?_, fun q hq => ?_, fun b j i hb => ?_⟩
  · by_cases he : b = S.2.1
    · subst he
      rw [up_same, shp_out h2]
      show celA G (up S.1 S.2.1 sh S.2.1) _ _ _
      rw [up_same, ad_ge G hb1, ← h3]
      exact hc
    · have hb3 : b < S.2.1 := by have : b < S.2.1 + 1 := hb2; omega
      have hk := (h4 b hb1 hb3)
      rw [up_ne _ _ he]
      have e : shp E (up S.1 S.2.1 sh, S.2.1 + 1, c, s) b = shp E S b := by
        by_cases hlt : b < E.1
        · exact shp_in hlt
        · rw [shp_out (by omega), shp_out (by omega)]; exact up_ne _ _ he
      rw [e]
      exact hk.kept (ho _ hk.lt)
  · rw [ho q (by omega)]; exact h5 q hq
  · by_cases he : b = S.2.1
    · subst he; rw [fin_out hE h2] at hb; cases hb
    · rw [up_ne _ _ he]; exact h6 b j i hb
theorem fval_def (G : GT) (ty : FieldType) (h : kd ty ≠ 3) : defaultValue ty = fval G ty 0 := by
  cases ty <;> first | rfl | exact absurd rfl h
section ROWS
variable {E : ET} {X : XT} {y : MethodName} {cc : ByteArray} {nL : Nat} {ret : Option FieldType} {rm : Room} {P : Option Value → ST → MT → Prop} {S0 : ST}
variable {pc : Nat} {L st : List Value} {S : ST} {M : MT}
theorem wp_new (K : Ok E X y cc nL ret rm P S0) {idx n ci N : Nat} {C : String} {T : u_T} (hd : decode cc pc = .ok (.new idx, 3)) (hn : pc + 3 = n) (hC : ClsK ci C T N) (h1 : Cond.classLink y.cls idx C ∈ Tw) (h2 : Cond.instantiable C N ∈ Tw) (h3 : Cond.initialized C ∈ Tw) (hE : E.2.2.length ≤ E.1) (hk : ∀ j, j < N → kd (tyC ci j) ≠ 3) (hB : S.2.2.1 + 1 ≤ S0.2.2.1 + rm.cells ∧ S.2.2.2 + N ≤ S0.2.2.2 + rm.slots)
    (k : Wp E X n L (.ref S.2.1 :: st) (up S.1 S.2.1 (1, ci), S.2.1 + 1, S.2.2.1 + 1, S.2.2.2 + N) (up M S.2.1 (fun _ => 0))) : Wp E X pc L st S M := by
  obtain ⟨p, l, e, R, s, m, args, below, meth, c, Q, G, z0, l0⟩ := X
  obtain ⟨hx, hb, hml, hown, hts, hK, hRm, hr, hlo, hnm, hQ, hz0, hl0⟩ := K
  subst hn; subst hRm
  intro ls H locs hL hR hlc hz
  obtain ⟨hC1, hin, hty, -⟩ := hC
  have hKn := hK.2.1.1 ci _ hC1
  refine W.newcK hx hb hown (hts _ h1) (hts _ h2) (hts _ h3) rfl hd (by omega) (by omega) hKn.2.1 rfl fun H1 kC hkC e1 z1 o1 => ?_
  have k1 := k ls H1 locs hL (hR.push hE _ _ _ _ z1 o1 ⟨_, hC1, (u_born (tyC ci) hts hin hKn hkC e1 hty).to (fun j hj => fval_def G _ (hk j hj))⟩) hlc ⟨by show _ ≤ S.2.2.1 + 1; omega, by show _ ≤ S.2.2.2 + N; omega⟩
  rw [List.map_cons, tr_ref G (by have := hR.1; omega), ad_ge G hR.1, ← hR.2.2.1] at k1
  rw [show S.2.2.1 - z0 + 1 = S.2.2.1 + 1 - z0 by omega, show S.2.2.2 - l0 + N = S.2.2.2 + N - l0 by omega]
  exact k1
theorem RA_uniq {U : State} {a b : ClassId} {ty : FieldType} (h1 : va_RA U a ty) (h2 : U.vm.findClass ("[" ++ ty.toString) = some b) : a = b := by
  cases ty <;> first | exact Option.some.inj (Eq.trans (Eq.symm h1) h2) | (obtain ⟨kA, comp, -, -, -, h4⟩ := h1; exact Option.some.inj (h4.symm.trans h2))
theorem wp_newa (K : Ok E X y cc nL ret rm P S0) {n kk : Nat} {i : Int} {at0 : ArrayType} (hd : decode cc pc = .ok (.newarray at0, 2)) (hn : pc + 2 = n) (hk : kk < 4) (hty : newarray.typeOf at0 = ek (kk + 2)) (h1 : Cond.arrayClass (ek (kk + 2)) ∈ Tw) (hE : E.2.2.length ≤ E.1) (h0 : 0 ≤ i ∧ i ≤ 60000000) (hB : S.2.2.1 + 1 ≤ S0.2.2.1 + rm.cells ∧ S.2.2.2 + i.toNat ≤ S0.2.2.2 + rm.slots)
    (k : Wp E X n L (.ref S.2.1 :: st) (up S.1 S.2.1 (kk + 2, i.toNat), S.2.1 + 1, S.2.2.1 + 1, S.2.2.2 + i.toNat) (up M S.2.1 (fun _ => 0))) : Wp E X pc L (.int (z i) :: st) S M := by
  obtain ⟨p, l, e, R, s, m, args, below, meth, c, Q, G, z0, l0⟩ := X
  obtain ⟨hx, hb, hml, hown, hts, hK, hRm, hr, hlo, hnm, hQ, hz0, hl0⟩ := K
  subst hn; subst hRm
  intro ls H locs hL hR hlc hz
  have ex : (z i).toInt = i := by rw [z_toInt]; exact w32_id (by omega) (by omega)
  have hc8 : componentBytes (ek (kk + 2)) ≤ 8 := by
    match kk, hk with
    | 0, _ => decide
    | 1, _ => decide
    | 2, _ => decide
    | 3, _ => decide
  refine va_newaK hx hb (by rw [hty]; exact hts _ h1) rfl hd rfl (by rw [z_0, z_lt_iff, ← z_toInt, ex]; have : w32 0 = 0 := rfl; omega) (N := i.toNat) (by show (z i).toInt.toNat = _; rw [ex]) (by rw [hty]; exact Nat.le_trans (Nat.mul_le_mul (show i.toNat ≤ 60000000 by omega) hc8) (by decide)) (by omega) (by omega) rfl fun H1 cA e1 z1 o1 hAr hNm => ?_
  rw [hty] at e1 hNm
  have hcA : G.2.2.1 (kk + 2) = cA := RA_uniq (arr_of hK.2.1 (k := kk) (by omega)).2 hNm
  subst hcA
  have hkd : kd (ek (kk + 2)) ≠ 3 := by
    match kk, hk with
    | 0, _ => decide
    | 1, _ => decide
    | 2, _ => decide
    | 3, _ => decide
  have k1 := k ls H1 locs hL (hR.push hE _ _ _ _ z1 o1 (by show H1[H.size]? = _; rw [e1, fval_def G _ hkd])) hlc ⟨by show _ ≤ S.2.2.1 + 1; omega, by show _ ≤ S.2.2.2 + i.toNat; omega⟩
  rw [List.map_cons, tr_ref G (by have := hR.1; omega), ad_ge G hR.1, ← hR.2.2.1] at k1
  rw [show S.2.2.1 - z0 + 1 = S.2.2.1 + 1 - z0 by omega, show S.2.2.2 - l0 + i.toNat = S.2.2.2 + i.toNat - l0 by omega]
  exact k1
theorem wp_anew (K : Ok E X y cc nL ret rm P S0) {n idx : Nat} {i : Int} (hd : decode cc pc = .ok (.anewarray idx, 3)) (hn : pc + 3 = n) (h1 : Cond.classLink y.cls idx RX10 ∈ Tw) (h2 : Cond.arrayOver (.object RX10) ∈ Tw) (hE : E.2.2.length ≤ E.1) (h0 : 0 ≤ i ∧ i ≤ 60000000) (hB : S.2.2.1 + 1 ≤ S0.2.2.1 + rm.cells ∧ S.2.2.2 + i.toNat ≤ S0.2.2.2 + rm.slots)
    (k : Wp E X n L (.ref S.2.1 :: st) (up S.1 S.2.1 (6, i.toNat), S.2.1 + 1, S.2.2.1 + 1, S.2.2.2 + i.toNat) (up M S.2.1 (fun _ => 0))) : Wp E X pc L (.int (z i) :: st) S M := by
  obtain ⟨p, l, e, R, s, m, args, below, meth, c, Q, G, z0, l0⟩ := X
  obtain ⟨hx, hb, hml, hown, hts, hK, hRm, hr, hlo, hnm, hQ, hz0, hl0⟩ := K
  subst hn; subst hRm
  intro ls H locs hL hR hlc hz
  have ex : (z i).toInt = i := by rw [z_toInt]; exact w32_id (by omega) (by omega)
  have ex2 : (z i).toNatClampNeg = i.toNat := by show (z i).toInt.toNat = _; rw [ex]
  refine W.anew hx hb hown (hts _ h1) (hts _ h2) rfl hd rfl (by rw [z_0, z_lt_iff, ← z_toInt, ex]; have : w32 0 = 0 := rfl; omega) (by rw [ex2]; omega) (by omega) (by rw [ex2]; omega) fun cA kA comp f1 f2 f3 f4 => ?_
  rw [ex2]
  have hcA : G.2.2.1 6 = cA := RA_uniq (arr_of hK.2.1 (k := 4) (by omega)).2 f1
  subst hcA
  generalize hH1 : H.push ({ cls := G.2.2.1 6, slots := Array.replicate i.toNat .null, vm := .none } : Cell) = H1
  have z1 : H1.size = H.size + 1 := by rw [← hH1, Array.size_push]
  have e1 : H1[H.size]? = some (arrV (G.2.2.1 6) i.toNat (fun _ => .null)) := by rw [← hH1, Array.getElem?_push_size, ← arrV_new]
  have o1 : ∀ q : Nat, q < H.size → H1[q]? = H[q]? := fun q hq => by rw [← hH1, Array.getElem?_push, if_neg (Nat.ne_of_lt hq)]
  have k1 := k ls H1 locs hL (hR.push hE _ _ _ _ z1 o1 (by show H1[H.size]? = _; rw [e1]; rfl)) hlc ⟨by show _ ≤ S.2.2.1 + 1; omega, by show _ ≤ S.2.2.2 + i.toNat; omega⟩
  rw [List.map_cons, tr_ref G (by have := hR.1; omega), ad_ge G hR.1, ← hR.2.2.1] at k1
  rw [show S.2.2.1 - z0 + 1 = S.2.2.1 + 1 - z0 by omega, show S.2.2.2 - l0 + i.toNat = S.2.2.2 + i.toNat - l0 by omega]
  exact k1
/-- a TEXT is put into its row -/
theorem wp_aast (K : Ok E X y cc nL ret rm P S0) {n N a b : Nat} {i : Int} (hd : decode cc pc = .ok (.aastore, 1)) (hn : pc + 1 = n) (hs : shp E S a = (6, N)) (hl : live E S a) (hf : ∀ i, fin E a i = none) (h0 : 0 ≤ i ∧ i < N ∧ i < 2147483648) (hsb : shp E S b = (1, 10)) (hlb : live E S b)
    (k : Wp E X n L st S (up M a (up (M a) i.toNat (b : Int)))) : Wp E X pc L (.ref b :: .int (z i) :: .ref a :: st) S M := by
  obtain ⟨p, l, e, R, s, m, args, below, meth, c, Q, G, z0, l0⟩ := X
  obtain ⟨hx, hb, hml, hown, hts, hK, hRm, hr, hlo, hnm, hQ, hz0, hl0⟩ := K
  subst hn
  intro ls H locs hL hR hlc hz
  obtain ⟨hc, h16, hlt⟩ := hR.cel hl
  obtain ⟨hcb, h16b, hltb⟩ := hR.cel hlb
  rw [hs] at hc
  rw [hsb] at hcb
  obtain ⟨r, hr1, cell, q1, q2, q3, q4⟩ := hcb
  obtain ⟨i1, i2⟩ := ix_in h0.1 h0.2.1 h0.2.2
  rw [List.map_cons, List.map_cons, List.map_cons, tr_ref G (by omega), tr_ref G (by omega)]
  have hcls := (hK.2.1.1 10 _ rfl).2
  obtain ⟨kA, comp, k1, k2, k3, -⟩ := (arr_of hK.2.1 (k := 4) (by decide)).2
  have hcomp : comp = G.2.2.2.1.1 10 := Option.some.inj (k3.symm.trans hcls.1)
  subst hcomp
  obtain ⟨kC, hkC, -⟩ := hcls.2
  refine W.aast hx hb hc (fun q h => by cases h) (fun h => by cases h) k1 k2 rfl hkC ⟨fun h => i1 (Or.inl h), by rw [arrV_size]; exact Nat.not_le.mp fun h => i1 (Or.inr h)⟩ q1 (fun q h => by rw [q3] at h; cases h) (by rw [q2]; exact hkC) (by rw [q2]; exact va_assign hcls) rfl rfl hd fun H1 e1 e2 e3 => ?_
  rw [i2] at e1
  refine k ls H1 _ hL (arr_put hR h16 hlt hs hf e1 ?_ e2 e3) (fun q hq => ?_) hz
  · rw [fval_2 rfl, Int.toNat_natCast, tr_ref G (by omega)]
  rcases List.mem_append.mp hq with h | h
  · exact hlc q h
  · have : q.base = ad G a := by have : q = _ := List.mem_singleton.mp h; rw [this]
    rw [this, ad_ge G h16]; exact Nat.le_add_right _ _
theorem wp_getNC (K : Ok E X y cc nL ret rm P S0) {n idx : Nat} (hd : decode cc pc = .ok (.getstatic idx, 3)) (hn : pc + 3 = n) (F : Cond.fieldLink y.cls idx "WalledIn" "NO_CODE" "[I" ∈ Tw ∨ ∃ host, Cond.fieldLinkNest y.cls idx "WalledIn" "NO_CODE" "[I" host ∈ Tw)
    (k : Wp E X n L (.ref 1 :: st) S M) : Wp E X pc L st S M := by
  obtain ⟨p, l, e, R, s, m, args, below, meth, c, Q, G, z0, l0⟩ := X
  obtain ⟨hx, hb, hml, hown, hts, hK, hRm, hr, hlo, hnm, hQ, hz0, hl0⟩ := K
  subst hn
  intro ls H locs hL hR hlc hz
  obtain ⟨cf, kf, fi, f, a, cell, h1, h2, h3, h4, h5, h6, h7, h8⟩ := hK.2.2.2.1
  have k1 := k ls H locs hL hR hlc hz
  rw [List.map_cons, tr_ref G (by decide)] at k1
  have hq : H[a]? = some cell := by rw [hR.2.2.2.2.1 a (Nat.not_le.mp h8)]; exact h5
  rcases F with F | ⟨host, F⟩
  · exact W.gets hx hb hown (hts _ F) h1 h2 h3 h4 hq (fun e => by rw [e] at h6; cases h6) h7 rfl hd k1
  · exact va_WgetsN hx hb hown (hts _ F) h1 h2 h3 h4 hq (fun e => by rw [e] at h6; cases h6) h7 rfl hd k1
theorem wp_objInit (K : Ok E X y cc nL ret rm P S0) {n idx a : Nat} (hd : decode cc pc = .ok (.invokespecial idx, 3)) (hn : pc + 3 = n) (h1 : Cond.methodLink y.cls idx objectInit ∈ Tw) (h2 : Cond.instanceMethod objectInit ∈ Tw) (h3 : Cond.code objectInit ⟨#[0xb1]⟩ 1 none ∈ Tw) (h16 : a ≠ 0) (hR : 1 ≤ rm.frames ∧ 20 ≤ rm.locals) (h8 : (st.map fun v => v.category).sum ≤ 8)
    (k : Wp E X n L st S M) : Wp E X pc L (.ref a :: st) S M := by
  obtain ⟨p, l, e, R, s, m, args, below, meth, c, Q, G, z0, l0⟩ := X
  obtain ⟨hx, hb, hml, hown, hts, hK, hRm, hr, hlo, hnm, hQ, hz0, hl0⟩ := K
  subst hn; subst hRm
  intro ls H locs hL hRl hlc hz
  rw [List.map_cons, tr_ref G h16]
  have h := lv_room (m := m) (pc := pc) (ls := ls) (rest := .ref (ad G a) :: st.map (tr G)) (st := st.map (tr G)) (by rw [cat_sum]; exact h8)
  exact W.objInit hx hb hown (hts _ h1) (hts _ h2) (hts _ h3) rfl hL.1 rfl hd hR.1 (by omega) (k ls H locs hL hRl hlc hz)
end ROWS
