/-! texts that were there before, System.arraycopy, an array's clone -/
/-- a contract out of a walk -/
theorem Ct.mkF {E : ET} {y : MethodName} {cc : ByteArray} {nL : Nat} {ret : Option FieldType} {rm : Room} {A : List Value} {S : ST} {M : MT} {P : Option Value → ST → MT → Prop} (L0 : List Value)
    (hy : plainFor y = true) (hL : lent A ++ List.replicate (nL - (lent A).length) mkV = L0) (hn : (lent A).length ≤ nL)
    (k : ∀ X : XT, Ok E X y cc nL ret rm P S → Wp E X 0 L0 [] S M) : Ct E y cc nL ret rm A S M P := by
  intro l G
  refine va_MetF (cc := cc) (maxL := nL) (ret := ret) hy rfl ?_
  intro p e s m args below meth c s₁ B hml hv
  obtain ⟨rfl, hR, hK⟩ := hv
  have hts := atoms_spec (ws := Cond.code y cc nL ret :: Gw) B.pre
  have hown : s.vm.findClass y.cls = some m.cls := findClass_of_methodNamed B.named
  have hnm : meth.name = y.name := (name_of_methodNamed B.named B.method).1
  have h1 := k (p, l, e, rm, s, m, (A.map (tr G)).toArray, below, meth, c, MQ below (Qp E G P S rm) (A.map (tr G)).toArray s rm.cells rm.slots (fun q => G.1 ≤ q), G, S.2.2.1, S.2.2.2) ⟨B.exec, B.bytes, hml, hown, Tw_of (fun w hw => hts w (List.mem_cons_of_mem _ hw)) hK, hK, rfl, B.returns, B.notSynchronized, hnm, rfl, rfl, rfl⟩
  have hl := lv_entry (A.map (tr G)) (n := nL) (by rw [sl_len]; exact hn)
  rw [lg_entry_eq]
  generalize (lg_sl (A.map (tr G)) ++ List.replicate (nL - (lg_sl (A.map (tr G))).length) Slot.unset).toArray = ls at hl ⊢
  have h2 := h1 ls s.heap [] ⟨by rw [hml]; exact hl.1, hl.2.1, fun i v hi hv => by
    subst hL
    rcases Nat.lt_or_ge i (lent A).length with h | h
    · rw [List.getElem?_append_left h] at hi
      have := lent_args G A ls 0 hl.2.2 i v hi hv
      rwa [Nat.zero_add] at this
    · rw [List.getElem?_append_right h, List.getElem?_replicate] at hi
      split at hi
      · exact absurd (Option.some.inj hi).symm hv
      · cases hi⟩ hR (fun q h => by cases h) ⟨Nat.le_refl _, Nat.le_refl _⟩
  rw [Nat.sub_self, Nat.sub_self] at h2
  exact h2
def sB (i j : Nat) : Int := ((sBt.getD i []).getD j 0).toInt
section ROWS
variable {E : ET} {X : XT} {y : MethodName} {cc : ByteArray} {nL : Nat} {ret : Option FieldType} {rm : Room} {P : Option Value → ST → MT → Prop} {S0 : ST}
variable {pc : Nat} {L st stk : List Value} {S S1 : ST} {M M1 : MT}
variable {y' : MethodName} {cc' : ByteArray} {nL' : Nat} {ret' : Option FieldType} {rm' : Room} {A : List Value} {P' : Option Value → ST → MT → Prop}
theorem wp_ldcS (K : Ok E X y cc nL ret rm P S0) {n idx b : Nat} (hd : decode cc pc = .ok (.ldc idx, 2)) (hn : pc + 2 = n) (hy : y.cls = "WalledIn$Tape") (hq : (idx = 69 ∧ b = 2) ∨ (idx = 84 ∧ b = 4))
    (k : Wp E X n L (.ref b :: st) S M) : Wp E X pc L st S M := by
  obtain ⟨p, l, e, R, s, m, args, below, meth, c, Q, G, z0, l0⟩ := X
  obtain ⟨hx, hb, hml, hown, hts, hK, hRm, hr, hlo, hnm, hQ, hz0, hl0⟩ := K
  subst hn
  intro ls H locs hL hR hlc hz
  have k1 := k ls H locs hL hR hlc hz
  rw [hy] at hown
  have hS := hK.2.2.2.2.2
  rcases hq with ⟨rfl, rfl⟩ | ⟨rfl, rfl⟩
  · exact va_ldcS hx hb hown hS.1 hd k1
  · exact va_ldcS hx hb hown hS.2.1 hd k1
theorem wp_strV (K : Ok E X y cc nL ret rm P S0) {n i : Nat} (hd : decode cc pc = .ok (.getfield 9, 3)) (hn : pc + 3 = n) (hy : y.cls = "java/lang/String") (hi : i < 2)
    (k : Wp E X n L (.ref (3 + 2 * i) :: st) S M) : Wp E X pc L (.ref (2 + 2 * i) :: st) S M := by
  obtain ⟨p, l, e, R, s, m, args, below, meth, c, Q, G, z0, l0⟩ := X
  obtain ⟨hx, hb, hml, hown, hts, hK, hRm, hr, hlo, hnm, hQ, hz0, hl0⟩ := K
  subst hn
  intro ls H locs hL hR hlc hz
  have k1 := k ls H locs hL hR hlc hz
  rw [hy] at hown
  obtain ⟨cf, kf, fi, f, cell, h1, h2, h3, h4, h5, h6⟩ := ((hK.2.2.2.2.2.2.2.1).1 i hi).2.2.1
  rw [List.map_cons, tr_ref G (by omega)] at k1 ⊢
  have e1 : ad G (2 + 2 * i) = G.2.1 (2 + 2 * i) := by unfold ad; rw [Nat.blt_eq.mpr (by omega)]; rfl
  have e2 : ad G (3 + 2 * i) = G.2.1 (3 + 2 * i) := by unfold ad; rw [Nat.blt_eq.mpr (by omega)]; rfl
  rw [e1]; rw [e2] at k1
  exact W.getf hx hb hown (hts _ sl_value) h1 h2 ((hR.2.2.2.2.1 _ (Nat.not_le.mp h6)).trans h3) h4 h5 rfl rfl hd k1
theorem wp_strC (K : Ok E X y cc nL ret rm P S0) {n i : Nat} (hd : decode cc pc = .ok (.getfield 15, 3)) (hn : pc + 3 = n) (hy : y.cls = "java/lang/String") (hi : i < 2)
    (k : Wp E X n L (.int (z 0) :: st) S M) : Wp E X pc L (.ref (2 + 2 * i) :: st) S M := by
  obtain ⟨p, l, e, R, s, m, args, below, meth, c, Q, G, z0, l0⟩ := X
  obtain ⟨hx, hb, hml, hown, hts, hK, hRm, hr, hlo, hnm, hQ, hz0, hl0⟩ := K
  subst hn
  intro ls H locs hL hR hlc hz
  have k1 := k ls H locs hL hR hlc hz
  rw [hy] at hown
  obtain ⟨cf, kf, fi, f, cell, h1, h2, h3, h4, h5, h6⟩ := ((hK.2.2.2.2.2.2.2.1).1 i hi).2.1
  rw [List.map_cons, tr_ref G (by omega)]
  have e1 : ad G (2 + 2 * i) = G.2.1 (2 + 2 * i) := by unfold ad; rw [Nat.blt_eq.mpr (by omega)]; rfl
  rw [e1]
  exact W.getf hx hb hown (hts _ sl_coder) h1 h2 ((hR.2.2.2.2.1 _ (Nat.not_le.mp h6)).trans h3) h4 h5 rfl rfl hd k1
theorem wp_alenS (K : Ok E X y cc nL ret rm P S0) {n i : Nat} (hd : decode cc pc = .ok (.arraylength, 1)) (hn : pc + 1 = n) (hi : i < 2)
    (k : Wp E X n L (.int (z (sLn.getD i 0 : Nat)) :: st) S M) : Wp E X pc L (.ref (3 + 2 * i) :: st) S M := by
  obtain ⟨p, l, e, R, s, m, args, below, meth, c, Q, G, z0, l0⟩ := X
  obtain ⟨hx, hb, hml, hown, hts, hK, hRm, hr, hlo, hnm, hQ, hz0, hl0⟩ := K
  subst hn
  intro ls H locs hL hR hlc hz
  obtain ⟨cell, t1, t2, t3, t4, t5, t6, t7⟩ := ((hK.2.2.2.2.2.2.2.1).1 i hi).2.2.2
  rw [List.map_cons, tr_ref G (by omega)]
  have e1 : ad G (3 + 2 * i) = G.2.1 (3 + 2 * i) := by unfold ad; rw [Nat.blt_eq.mpr (by omega)]; rfl
  rw [e1]
  exact W.alen (n := z (sLn.getD i 0 : Nat)) (cell := cell) hx hb ((hR.2.2.2.2.1 _ (Nat.not_le.mp t7)).trans t1) t2 (by rw [t5]; exact (Int32.ofInt_eq_ofNat).symm) rfl rfl hd (k ls H locs hL hR hlc hz)
theorem wp_baldS (K : Ok E X y cc nL ret rm P S0) {n i : Nat} {j : Int} (hd : decode cc pc = .ok (.baload, 1)) (hn : pc + 1 = n) (hi : i < 2) (h0 : 0 ≤ j ∧ j < (sLn.getD i 0 : Nat) ∧ j < 2147483648)
    (k : Wp E X n L (.int (z (sB i j.toNat)) :: st) S M) : Wp E X pc L (.int (z j) :: .ref (3 + 2 * i) :: st) S M := by
  obtain ⟨p, l, e, R, s, m, args, below, meth, c, Q, G, z0, l0⟩ := X
  obtain ⟨hx, hb, hml, hown, hts, hK, hRm, hr, hlo, hnm, hQ, hz0, hl0⟩ := K
  subst hn
  intro ls H locs hL hR hlc hz
  obtain ⟨cell, t1, t2, t3, t4, t5, t6, t7⟩ := ((hK.2.2.2.2.2.2.2.1).1 i hi).2.2.2
  rw [List.map_cons, List.map_cons, tr_ref G (by omega)]
  have e1 : ad G (3 + 2 * i) = G.2.1 (3 + 2 * i) := by unfold ad; rw [Nat.blt_eq.mpr (by omega)]; rfl
  rw [e1]
  obtain ⟨i1, i2⟩ := ix_in (n := cell.slots.size) h0.1 (by omega) h0.2.2
  refine W.bald (v := .int (z (sB i j.toNat))) hx hb ((hR.2.2.2.2.1 _ (Nat.not_le.mp t7)).trans t1) t2 t3 i1 ?_ rfl rfl hd (k ls H locs hL hR hlc hz)
  rw [i2, t6 _ (by omega)]
  unfold sB; rw [z_self]
theorem wp_getCS (K : Ok E X y cc nL ret rm P S0) {n : Nat} (hd : decode cc pc = .ok (.getstatic 38, 3)) (hn : pc + 3 = n) (hy : y.cls = "java/lang/String")
    (k : Wp E X n L (.int (z 1) :: st) S M) : Wp E X pc L st S M := by
  obtain ⟨p, l, e, R, s, m, args, below, meth, c, Q, G, z0, l0⟩ := X
  obtain ⟨hx, hb, hml, hown, hts, hK, hRm, hr, hlo, hnm, hQ, hz0, hl0⟩ := K
  subst hn
  intro ls H locs hL hR hlc hz
  rw [hy] at hown
  obtain ⟨cf, kf, fi, f, a, cell, h1, h2, h3, h4, h5, h6, h7, h8⟩ := hK.2.2.2.2.2.2.2.2.1
  exact W.gets hx hb hown (hts _ sl_comp) h1 h2 h3 h4 ((hR.2.2.2.2.1 _ (Nat.not_le.mp h8)).trans h5) (fun e => by rw [e] at h6; cases h6) h7 rfl hd (k ls H locs hL hR hlc hz)
theorem wp_getSF (K : Ok E X y cc nL ret rm P S0) {n : Nat} (hd : decode cc pc = .ok (.getstatic 1053, 3)) (hn : pc + 3 = n) (hy : y.cls = "java/lang/String")
    (k : ∀ r : Nat, Wp E X n L (.ref r :: st) S M) : Wp E X pc L st S M := by
  obtain ⟨p, l, e, R, s, m, args, below, meth, c, Q, G, z0, l0⟩ := X
  obtain ⟨hx, hb, hml, hown, hts, hK, hRm, hr, hlo, hnm, hQ, hz0, hl0⟩ := K
  subst hn
  intro ls H locs hL hR hlc hz
  rw [hy] at hown
  rcases hK.2.2.2.2.2.2.2.2.2 with h | h
  · obtain ⟨cf, kf, fi, f, a, cell, h1, h2, h3, h4, h5, h6, h7, h8⟩ := h
    exact W.gets hx hb hown (hts _ sl_form) h1 h2 h3 h4 ((hR.2.2.2.2.1 _ (Nat.not_le.mp h8)).trans h5) (fun e => by rw [e] at h6; cases h6) h7 rfl hd (k 0 ls H locs hL hR hlc hz)
  · obtain ⟨cf, kf, fi, f, a, cell, h1, h2, h3, h4, h5, h6, h7, h8⟩ := h
    exact W.gets hx hb hown (hts _ sl_form) h1 h2 h3 h4 ((hR.2.2.2.2.1 _ (Nat.not_le.mp h8)).trans h5) (fun e => by rw [e] at h6; cases h6) h7 rfl hd (k 6 ls H locs hL hR hlc hz)
theorem wp_invVS (K : Ok E X y cc nL ret rm P S0) {idx n np i : Nat} {v : Int} (hd : decode cc pc = .ok (.invokevirtual idx, 3)) (hn : pc + 3 = n) (F : CfV y.cls idx y' cc' nL' ret' np) (c : Ct E y' cc' nL' ret' rm' (.ref (2 + 2 * i) :: A) S M (Pi v S1 M1)) (hA : stk = A.reverse ++ .ref (2 + 2 * i) :: st) (hnp : A.length = np) (hi : i < 2) (hy : y'.cls = "java/lang/String") (hR : Rms rm' rm nL') (hB : Bgt S S0 rm' rm) (h8 : (st.map fun v => v.category).sum ≤ 8)
    (k : Wp E X n L (.int (z v) :: st) S1 M1) : Wp E X pc L stk S M := by
  have k : ∀ r S' M', Pi v S1 M1 r S' M' → S'.2.2.1 = S.2.2.1 + rm'.cells → S'.2.2.2 = S.2.2.2 + rm'.slots → Wp E X n L (r.toList ++ st) S' M' := fun r S' M' hP _ _ => by obtain ⟨rfl, rfl, rfl⟩ := hP; exact k
  obtain ⟨p, l, e, R, s, m, args, below, meth, c0, Q, G, z0, l0⟩ := X
  obtain ⟨hx, hb, hml, hown, hts, hK, hRm, hr, hlo, hnm, hQ, hz0, hl0⟩ := K
  intro ls H locs hL hRl hlc hz
  obtain ⟨f1, f2, f3, f4, f5, f6⟩ := F
  subst hRm
  have h16 : 2 + 2 * i ≠ 0 := by omega
  have e1 : ad G (2 + 2 * i) = G.2.1 (2 + 2 * i) := by unfold ad; rw [Nat.blt_eq.mpr (by omega)]; rfl
  have hrecv : ∃ cell : Cell, H[ad G (2 + 2 * i)]? = some cell ∧ cell.vm.isStatics = false ∧ s.vm.findClass y'.cls = some cell.cls := by
    obtain ⟨cell, h1, h2, h3, h4⟩ := ((hK.2.2.2.2.2.2.2.1).1 i hi).1
    exact ⟨cell, by rw [e1]; exact (hRl.2.2.2.2.1 _ (Nat.not_le.mp h4)).trans h1, h2, by rw [hy]; exact h3⟩
  have hp : PreV s H y'.cls (ad G (2 + 2 * i)) (Pc0 E G (.ref (2 + 2 * i) :: A) S M) (A.map (tr G)) := ⟨Pc0.blind, hrecv, fun U hU hW => ⟨by rw [List.map_cons, tr_ref G h16], by rw [hU]; exact hRl, KF.moved hW hK⟩⟩
  have hstk : stk.map (tr G) = (A.map (tr G)).reverse ++ .ref (ad G (2 + 2 * i)) :: st.map (tr G) := by subst hA; rw [List.map_append, List.map_reverse, List.map_cons, tr_ref G h16]
  rcases f3 with f3 | ⟨host, f3⟩
  · exact wp_run (va_runV (As := A.map (tr G)) (rest := st.map (tr G)) ⟨hx, hb, hml, hown, hts⟩ (c l G) ⟨callB_of np hts (tbl_in f4) rfl rfl rfl (hts _ f5) (hts _ f3) f6 hR, hts _ f1, hts _ f2⟩ hp rfl (by rw [List.length_map]; exact hnp) (by rw [← hml]; exact hL.1) hstk (lv_room (by rw [cat_sum]; exact h8)) hd ⟨by omega, by omega⟩) hn hL hlc hz k
  · exact wp_run (va_runVN (As := A.map (tr G)) (rest := st.map (tr G)) (host := host) ⟨hx, hb, hml, hown, hts⟩ (c l G) ⟨va_cnB np hts (tbl_in f4) rfl rfl rfl (hts _ f3) (hts _ f5) f6 hR, hts _ f1, hts _ f2⟩ hp rfl (by rw [List.length_map]; exact hnp) (by rw [← hml]; exact hL.1) hstk (lv_room (by rw [cat_sum]; exact h8)) hd ⟨by omega, by omega⟩) hn hL hlc hz k
theorem ret_t {a v : Int} {ty : FieldType} (K : Ok E X y cc nL (some ty) rm (Pi v S1 M1) S0) (hd : decode cc pc = .ok (.ireturn, 1)) (he : a = v) (hn : narrow ty (.int (z v)) = .int (z v)) (hS : bud S S0 rm = S1) (hM : M = M1) (hw : Bw S S0 rm) : Wp E X pc L [.int (z a)] S M := wp_zreturn K hd ⟨by rw [he], hS, hM⟩ (by rw [he]; exact hn) hw
/-- what System.arraycopy leaves -/
def cpy (f g : Nat → Int) (sp dp n : Nat) : Nat → Int := fun j => if dp ≤ j ∧ j < dp + n then f (sp + (j - dp)) else g j
theorem z_nn {x : Int} (h0 : 0 ≤ x) (h1 : x < 2147483648) : ¬ z x < 0 ∧ (z x).toInt = x ∧ (z x).toNatClampNeg = x.toNat := by
  have e : (z x).toInt = x := by rw [z_toInt]; exact w32_id (by omega) h1
  refine ⟨fun h => ?_, e, by show (z x).toInt.toNat = _; rw [e]⟩
  rw [z_0, z_lt_iff, w32_id (by omega) h1] at h
  have : w32 0 = 0 := rfl
  omega
theorem wp_copy (K : Ok E X y cc nL ret rm P S0) {idx n N0 N1 a0 a1 : Nat} {sp dp q : Int} (hd : decode cc pc = .ok (.invokestatic idx, 3)) (hn : pc + 3 = n) (F : Cond.methodLink y.cls idx arraycopyName ∈ Tw) (h0 : shp E S a0 = (2, N0)) (l0 : live E S a0) (h1 : shp E S a1 = (2, N1)) (l1 : live E S a1) (hf : ∀ i, fin E a1 i = none) (hs : 0 ≤ sp ∧ 0 ≤ dp ∧ 0 ≤ q ∧ sp + q ≤ N0 ∧ dp + q ≤ N1 ∧ N0 < 100000 ∧ N1 < 100000) (hR : 1 ≤ rm.frames ∧ (st.map fun v => v.category).sum + (nativeFrameWords "java/lang/System" "arraycopy" 5 + 11) ≤ rm.locals)
    (k : Wp E X n L st S (up M a1 (cpy (M a0) (M a1) sp.toNat dp.toNat q.toNat))) : Wp E X pc L (.int (z q) :: .int (z dp) :: .ref a1 :: .int (z sp) :: .ref a0 :: st) S M := by
  obtain ⟨p, l, e, R, s, m, args, below, meth, c, Q, G, z0, l00⟩ := X
  obtain ⟨hx, hb, hml, hown, hts, hK, hRm, hr, hlo, hnm, hQ, hz0, hl0⟩ := K
  subst hn; subst hRm
  intro ls H locs hL hRl hlc hz
  obtain ⟨hc0, g0, -⟩ := hRl.cel l0
  obtain ⟨hc1, g1, hlt⟩ := hRl.cel l1
  rw [h0] at hc0; rw [h1] at hc1
  obtain ⟨p1, p2, p3⟩ := z_nn hs.1 (by omega)
  obtain ⟨d1, d2, d3⟩ := z_nn hs.2.1 (by omega)
  obtain ⟨q1, q2, q3⟩ := z_nn hs.2.2.1 (by omega)
  rw [List.map_cons, List.map_cons, List.map_cons, List.map_cons, List.map_cons, tr_ref G (by omega), tr_ref G (by omega)]
  intro T hT X
  obtain ⟨-, k0, hk0, cm0, hkk0⟩ := (arr_of hK.2.1 (k := 0) (by decide)).1 N0 (fun j => .int (z (M a0 j)))
  obtain ⟨-, k1, hk1, cm1, hkk1⟩ := (arr_of hK.2.1 (k := 0) (by decide)).1 N1 (fun j => .int (z (M a1 j)))
  obtain ⟨vm', X', step⟩ := X.arraycopy hx hown (hts _ F) (hts _ ac_nat) (hts _ ac_st) (hts _ ac_ini) (src := ad G a0) (dst := ad G a1) (cs := arrV (G.2.2.1 2) N0 (fun j => .int (z (M a0 j)))) (cd := arrV (G.2.2.1 2) N1 (fun j => .int (z (M a1 j)))) (srcPos := z sp) (destPos := z dp) (n := z q) (by rw [hT]; exact hc0) (by rw [hT]; exact hc1)
    (fun _ h => by cases h) (fun _ h => by cases h) (fun h => by cases h) (fun h => by cases h) hk0 hk1 hkk0 hkk1 (by decide) p1 d1 q1
    (by rw [p2, q2, arrV_size]; omega) (by rw [d2, q2, arrV_size]; omega)
    (fun vm₁ _ i hi => by
      have e : (arrV (G.2.2.1 2) N0 (fun j => Value.int (z (M a0 j)))).slots.getD ((z sp).toNatClampNeg + i) .null = .int (z (M a0 ((z sp).toNatClampNeg + i))) := by
        rw [Array.getD_eq_getD_getElem?, arrV_read _ _ (by rw [q3] at hi; rw [p3]; omega)]
        rfl
      refine ⟨?_, ?_⟩
      · rw [e]; rfl
      · rw [e]; exact trivial)
    (g := F0 m pc ls (.int (z q) :: .int (z dp) :: .ref (ad G a1) :: .int (z sp) :: .ref (ad G a0) :: st.map (tr G))) rfl hL.1 (rest := st.map (tr G)) rfl (by rw [hb]; exact hd) hR.1 (by show 2 * 0 + _ + _ ≤ _; rw [cat_sum]; omega)
  have e1 : copied (arrV (G.2.2.1 2) N0 (fun j => .int (z (M a0 j)))) (arrV (G.2.2.1 2) N1 (fun j => .int (z (M a1 j)))) (z sp) (z dp) (z q) = arrV (G.2.2.1 2) N1 (fun j => .int (va_cpy (fun j => z (M a0 j)) (fun j => z (M a1 j)) (z sp).toNatClampNeg (z dp).toNatClampNeg (z q).toNatClampNeg j)) := va_copied (fun z => .int z) _ _ (fun j => z (M a0 j)) (fun j => z (M a1 j)) (by rw [p3, q3]; omega)
  rw [e1] at X' step
  have e2 : (fun j => Value.int (va_cpy (fun j => z (M a0 j)) (fun j => z (M a1 j)) (z sp).toNatClampNeg (z dp).toNatClampNeg (z q).toNatClampNeg j)) = fun j => Value.int (z (cpy (M a0) (M a1) sp.toNat dp.toNat q.toNat j)) := by
    funext j
    rw [p3, d3, q3]
    unfold va_cpy cpy
    split <;> rfl
  rw [e2] at X' step
  have hl : ad G a1 < H.size := (Array.getElem?_eq_some_iff.mp hc1).1
  generalize hnew : arrV (G.2.2.1 2) N1 (fun j => Value.int (z (cpy (M a0) (M a1) sp.toNat dp.toNat q.toNat j))) = nw at X' step
  have hheap : ((T.setVm vm').setCell (ad G a1) nw).heap = H.setIfInBounds (ad G a1) nw := by rw [← hT]; rfl
  have k2 := k ls (H.setIfInBounds (ad G a1) nw) (locs ++ ((arrV (G.2.2.1 2) N0 (fun j => Value.int (z (M a0 j)))).stretch (z sp).toNatClampNeg (z q).toNatClampNeg).zipIdx.map fun w => ⟨ad G a1, (z dp).toNatClampNeg + w.2⟩) hL
    (hRl.put g1 hlt (by simp) (fun w hw => by simp [Array.getElem?_setIfInBounds, Ne.symm hw]) (by
      rw [h1]
      show (H.setIfInBounds (ad G a1) nw)[ad G a1]? = _
      rw [← hnew]
      simp [Array.getElem?_setIfInBounds, hl]
      rfl) (fun j b hb1 => by rw [hf] at hb1; cases hb1))
    (fun w hw => by
      rcases List.mem_append.mp hw with h | h
      · exact hlc w h
      · obtain ⟨u, -, hu⟩ := List.mem_map.mp h
        rw [← hu, ad_ge G g1]; exact Nat.le_add_right _ _) hz
  obtain ⟨t, b1, b2⟩ := k2 _ hheap X'
  exact ⟨t, step t b1, b2⟩
theorem wp_clone (K : Ok E X y cc nL ret rm P S0) {n N a : Nat} (hy : y.cls = "java/util/Arrays") (hd : decode cc pc = .ok (.invokevirtual 316, 3)) (hn : pc + 3 = n) (hs : shp E S a = (2, N)) (hl : live E S a) (hE : E.2.2.length ≤ E.1) (hR : 1 ≤ rm.frames ∧ (st.map fun v => v.category).sum + 14 ≤ rm.locals) (hB : S.2.2.1 + 1 ≤ S0.2.2.1 + rm.cells ∧ S.2.2.2 + N ≤ S0.2.2.2 + rm.slots)
    (k : Wp E X n L (.ref S.2.1 :: st) (up S.1 S.2.1 (2, N), S.2.1 + 1, S.2.2.1 + 1, S.2.2.2 + N) (up M S.2.1 (M a))) : Wp E X pc L (.ref a :: st) S M := by
  obtain ⟨p, l, e, R, s, m, args, below, meth, c, Q, G, z0, l00⟩ := X
  obtain ⟨hx, hb, hml, hown, hts, hK, hRm, hr, hlo, hnm, hQ, hz0, hl0⟩ := K
  subst hn; subst hRm
  intro ls H locs hL hRl hlc hz
  obtain ⟨hc0, g0, -⟩ := hRl.cel hl
  rw [hs] at hc0
  rw [hy] at hown
  rw [List.map_cons, tr_ref G (by omega)]
  have hA := arr_of hK.2.1 (k := 0) (by decide)
  have hnmA : s.vm.findClass "[I" = some (G.2.2.1 2) := va_nm_int hA.2
  obtain ⟨c1, t1, f1, f2, f3⟩ := Cond.castable_spec (va_Nw.use (A := args) rfl (hK.1 _ cn_cast rfl))
  have hc1 : G.2.2.1 2 = c1 := Option.some.inj (hnmA.symm.trans f1)
  subst hc1
  intro T hT X
  obtain ⟨-, kA, hkA, comp, hkind⟩ := State.isArrayOf_alike X.warmed.alike (hA.1 0 (fun _ => .null))
  obtain ⟨-, kS, hkS, compS, hkindS⟩ := hA.1 0 (fun _ => .null)
  obtain ⟨vm', X', step⟩ := X.cloneArray hx hown (hts _ cn_link) (hts _ cn_same) (hts _ cn_nat) (hts _ cn_ins) (hts _ cn_sel) (a := ad G a) (cell := arrV (G.2.2.1 2) N (fun j => .int (z (M a j)))) (by rw [hT]; exact hc0) (fun _ h => by cases h) (fun h => by cases h) hnmA f2 f3
    (fun i v hv => by
      have hk' : T.vm.classes[G.2.2.1 2]? = some kA := hkA
      have hfit : fits .int v = true := va_fit (ty := .int) (fun _ _ => rfl) i v hv
      simpa [State.fitsSlot, State.slotType?, arrV, ek, hk', hkind] using hfit)
    (g := F0 m pc ls (.ref (ad G a) :: st.map (tr G))) rfl hL.1 rfl (by rw [hb]; exact hd) hR.1 (by show 2 * 0 + _ + 14 ≤ _; rw [cat_sum]; omega) (by omega) (by rw [arrV_size]; omega) (hloader := Vm.clonesLoader_of_array hkS hkindS)
  rw [arrV_size] at X'
  have hce : ({ cls := (arrV (G.2.2.1 2) N (fun j => Value.int (z (M a j)))).cls, slots := (arrV (G.2.2.1 2) N (fun j => Value.int (z (M a j)))).slots } : Cell) = arrV (G.2.2.1 2) N (fun j => Value.int (z (M a j))) := rfl
  rw [hce] at X' step
  generalize hnew : arrV (G.2.2.1 2) N (fun j => Value.int (z (M a j))) = nw at X' step
  have k2 := k ls (H.push nw) locs hL (hRl.push hE (2, N) (M a) (S.2.2.1 + 1) (S.2.2.2 + N) (by rw [Array.size_push]) (fun w hw => by rw [Array.getElem?_push, if_neg (Nat.ne_of_lt hw)]) (by
      show (H.push nw)[H.size]? = _
      rw [Array.getElem?_push_size, ← hnew]; rfl)) hlc ⟨by show _ ≤ S.2.2.1 + 1; omega, by show _ ≤ S.2.2.2 + N; omega⟩
  rw [List.map_cons, tr_ref G (by have := hRl.1; omega), ad_ge G hRl.1, ← hRl.2.2.1] at k2
  have e1 : S.2.2.1 - z0 + 1 = S.2.2.1 + 1 - z0 := by omega
  have e2 : S.2.2.2 - l00 + N = S.2.2.2 + N - l00 := by omega
  rw [e1, e2] at X'
  obtain ⟨t, b1, b2⟩ := k2 ((T.setVm vm').pushCell nw) (by rw [← hT]; rfl) X'
  refine ⟨t, step t ?_, b2⟩
  rw [hT]; exact b1
theorem wp_castI (K : Ok E X y cc nL ret rm P S0) {n N a : Nat} (hy : y.cls = "java/util/Arrays") (hd : decode cc pc = .ok (.checkcast 317, 3)) (hn : pc + 3 = n) (hs : shp E S a = (2, N)) (hl : live E S a)
    (k : Wp E X n L (.ref a :: st) S M) : Wp E X pc L (.ref a :: st) S M := by
  obtain ⟨p, l, e, R, s, m, args, below, meth, c, Q, G, z0, l00⟩ := X
  obtain ⟨hx, hb, hml, hown, hts, hK, hRm, hr, hlo, hnm, hQ, hz0, hl0⟩ := K
  subst hn; subst hRm
  intro ls H locs hL hRl hlc hz
  obtain ⟨hc0, g0, -⟩ := hRl.cel hl
  rw [hs] at hc0
  rw [hy] at hown
  have k1 := k ls H locs hL hRl hlc hz
  rw [List.map_cons, tr_ref G (by omega)] at k1 ⊢
  intro T hT X
  obtain ⟨vm', X', step⟩ := X.checkcastYes hx hown (hts _ cn_cl) (by rw [hT]; exact hc0) rfl (va_nm_int (arr_of hK.2.1 (k := 0) (by decide)).2) (va_asg _ _) (g := F0 m pc ls (.ref (ad G a) :: st.map (tr G))) rfl rfl (by rw [hb]; exact hd)
  obtain ⟨t, a1, b1⟩ := k1 (T.setVm vm') hT X'
  exact ⟨t, step t a1, b1⟩
end ROWS
