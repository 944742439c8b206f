theorem tbl_in {y : MethodName} {cc : ByteArray} {nL : Nat} {ret : Option FieldType} (h : Cond.code y cc nL ret ∈ Tw) : GoodIn Tw (Cond.code y cc nL ret :: Gw) := by
  intro w hw
  rcases List.mem_cons.mp hw with rfl | hw
  · exact ⟨h, good_of_word rfl⟩
  · obtain ⟨h1, h2⟩ := List.mem_filter.mp hw
    exact ⟨List.mem_filter.mpr ⟨h1, by rw [h2]; rfl⟩, good_of_word h2⟩
def Nms (y : MethodName) (n : Nat) : Prop := y.cls ≠ "java/lang/invoke/MethodHandle" ∧ y.cls ≠ "java/lang/invoke/VarHandle" ∧ (parseMethodDescriptor y.desc).map (fun d => d.parameters.length) = some n
def CfS (own : String) (idx : Nat) (y : MethodName) (cc : ByteArray) (nL : Nat) (ret : Option FieldType) (n : Nat) : Prop :=
  Cond.static y ∈ Tw ∧ Cond.methodLink own idx y ∈ Tw ∧ Cond.code y cc nL ret ∈ Tw ∧ Cond.initialized y.cls ∈ Tw ∧ Nms y n
def CfV (own : String) (idx : Nat) (y : MethodName) (cc : ByteArray) (nL : Nat) (ret : Option FieldType) (n : Nat) : Prop :=
  Cond.instanceMethod y ∈ Tw ∧ Cond.selects y.cls y y ∈ Tw ∧ (Cond.methodLink own idx y ∈ Tw ∨ ∃ host, Cond.methodLinkNest own idx y host ∈ Tw) ∧ Cond.code y cc nL ret ∈ Tw ∧ Cond.initialized y.cls ∈ Tw ∧ Nms y n
def CfI (own : String) (idx : Nat) (y : MethodName) (cc : ByteArray) (nL : Nat) (n : Nat) : Prop :=
  y.name = "<init>" ∧ Cond.instanceMethod y ∈ Tw ∧ (Cond.methodLink own idx y ∈ Tw ∨ ∃ host, Cond.methodLinkNest own idx y host ∈ Tw) ∧ Cond.code y cc nL none ∈ Tw ∧ Cond.initialized y.cls ∈ Tw ∧ Nms y n
theorem cat_sum (G : GT) (st : List Value) : ((st.map (tr G)).map fun v => v.category).sum = (st.map fun v => v.category).sum := by
  induction st with
  | nil => rfl
  | cons v st ih => rw [List.map_cons, List.map_cons, List.map_cons, List.sum_cons, List.sum_cons, ih, tr_cat]
theorem Pc0.blind {E : ET} {G : GT} {A : List Value} {S : ST} {M : MT} : FrameBlind (Pc0 E G A S M) := fun a U g mk q => ⟨q.1, q.2.1, KF.same (u := U) (U := U.calling g mk a) rfl q.2.2⟩
section CALLS
variable {E : ET} {X : XT} {y : MethodName} {cc : ByteArray} {nL : Nat} {ret : Option FieldType} {rm : Room} {P : Option Value → ST → MT → Prop} {S0 : ST}
variable {pc : Nat} {L st stk : List Value} {S : ST} {M : MT}
variable {y' : MethodName} {cc' : ByteArray} {nL' : Nat} {ret' : Option FieldType} {rm' : Room} {A : List Value} {P' : Option Value → ST → MT → Prop}
abbrev Rms (rm' rm : Room) (nL' : Nat) : Prop := rm'.frames + 1 ≤ rm.frames ∧ 8 + (nL' + 11) + rm'.locals ≤ rm.locals
abbrev Bgt (S S0 : ST) (rm' rm : Room) : Prop := S.2.2.1 + rm'.cells ≤ S0.2.2.1 + rm.cells ∧ S.2.2.2 + rm'.slots ≤ S0.2.2.2 + rm.slots
theorem wp_run {p : Program} {l : Launch} {e : Env} {R : Room} {s : State} {m : MethodId} {args : Array Value} {below : List Frame} {meth : Method} {c : Code} {Q : State → Prop} {G : GT} {z0 l0 : Nat} {ls : Array Slot} {H : Heap} {locs : List Loc} {n : Nat} {g : List Value} {a : Array Value}
    (hr : va_Run p l e R s m args below meth c H locs (S.2.2.1 - z0) (S.2.2.2 - l0) rm'.cells rm'.slots (F0 m pc ls g) (st.map (tr G)) (Qp E G P' S rm' a) (fun q => G.1 ≤ q)) (hn : pc + 3 = n)
    (hL : lvs G c.maxLocals ls L) (hlc : ∀ q ∈ locs, G.1 ≤ q.base) (hz : z0 ≤ S.2.2.1 ∧ l0 ≤ S.2.2.2)
    (k : ∀ r S' M', P' r S' M' → S'.2.2.1 = S.2.2.1 + rm'.cells → S'.2.2.2 = S.2.2.2 + rm'.slots → Wp E (p, l, e, R, s, m, args, below, meth, c, Q, G, z0, l0) n L (r.toList ++ st) S' M') : W p l e R s m args below meth c H locs (S.2.2.1 - z0) (S.2.2.2 - l0) Q (F0 m pc ls g) := by
  subst hn
  intro T hT Xs
  obtain ⟨v, st₀, t, T', Ls, h0, X', hLs, e1, e2, ⟨r, S', M', q1, q2, q3, q4, q5⟩, stp⟩ := hr T hT Xs
  have hv : v = r.map (tr G) := by injection q1
  subst hv
  have k1 := k r S' M' q2 q4 q5 ls T'.heap (locs ++ Ls) hL (by rw [e1]; exact q3) (fun q hq => (List.mem_append.mp hq).elim (hlc q) (hLs q)) ⟨by omega, by omega⟩
  rw [show S'.2.2.1 - z0 = S.2.2.1 - z0 + rm'.cells by omega, show S'.2.2.2 - l0 = S.2.2.2 - l0 + rm'.slots by omega] at k1
  obtain ⟨t2, a1, b1⟩ := k1 T' rfl X'
  refine ⟨t2, stp t2 ?_, b1⟩
  have e3 : (r.toList ++ st).map (tr G) = (r.map (tr G)).toList ++ st.map (tr G) := by cases r <;> simp
  rw [e3] at a1
  exact a1
theorem wp_invS (K : Ok E X y cc nL ret rm P S0) {idx n np : Nat} (hd : decode cc pc = .ok (.invokestatic idx, 3)) (hn : pc + 3 = n) (F : CfS y.cls idx y' cc' nL' ret' np) (c : Ct E y' cc' nL' ret' rm' A S M P') (hA : stk = A.reverse ++ st) (hnp : A.length = np) (hR : Rms rm' rm nL') (hB : Bgt S S0 rm' rm) (h8 : (st.map fun v => v.category).sum ≤ 8)
    (k : ∀ r S' M', P' r S' M' → S'.2.2.1 = S.2.2.1 + rm'.cells → S'.2.2.2 = S.2.2.2 + rm'.slots → Wp E X n L (r.toList ++ st) S' M') : Wp E X pc L stk S M := by
  obtain ⟨p, l, e, R, s, m, args, below, meth, c0, Q, G, z0, l0⟩ := X
  obtain ⟨hx, hb, hml, hown, hts, hK, hRm, hr, hlo, hnm, hQ, hz0, hl0⟩ := K
  intro ls H locs hL hRl hlc hz
  obtain ⟨f1, f2, f3, f4, f5⟩ := F
  subst hRm
  refine wp_run (va_runS (As := A.map (tr G)) (rest := st.map (tr G)) ⟨hx, hb, hml, hown, hts⟩ (c l G) ⟨callB_of np hts (tbl_in f3) rfl rfl rfl (hts _ f4) (hts _ f2) f5 hR, hts _ f1⟩ ⟨Pc0.blind, fun U hU hW => ⟨rfl, by rw [hU]; exact hRl, KF.moved hW hK⟩⟩ rfl (by rw [List.length_map]; exact hnp) (by rw [← hml]; exact hL.1) (by subst hA; show List.map _ _ = _; rw [List.map_append, List.map_reverse]) (lv_room (by rw [cat_sum]; exact h8)) hd ⟨by omega, by omega⟩) hn hL hlc hz k
theorem Rel.recv {G : GT} {s : State} {H : Heap} (hR : Rel E G S M H) (hK : KF G s) {a ci N : Nat} {C : String} {T : u_T} (hl : live E S a) (hs : shp E S a = (1, ci)) (hC : vwCl[ci]? = some (C, T, N)) : ∃ cell : Cell, H[ad G a]? = some cell ∧ cell.vm.isStatics = false ∧ s.vm.findClass C = some cell.cls := by
  obtain ⟨hc, -, -⟩ := hR.cel hl
  rw [hs] at hc
  obtain ⟨r, hr1, cell, q1, q2, q3, -⟩ := hc
  obtain ⟨hSl, hfc, -⟩ := hK.2.1.1 ci _ hC
  exact ⟨cell, q1, by rw [q3]; rfl, by rw [q2]; exact hfc⟩
theorem wp_invV (K : Ok E X y cc nL ret rm P S0) {idx n np a ci N : Nat} {T : u_T} (hd : decode cc pc = .ok (.invokevirtual idx, 3)) (hn : pc + 3 = n) (F : CfV y.cls idx y' cc' nL' ret' np) (hs : shp E S a = (1, ci)) (hl : live E S a) (hC : vwCl[ci]? = some (y'.cls, T, N)) (c : Ct E y' cc' nL' ret' rm' (.ref a :: A) S M P') (hA : stk = A.reverse ++ .ref a :: st) (hnp : A.length = np) (hR : Rms rm' rm nL') (hB : Bgt S S0 rm' rm) (h8 : (st.map fun v => v.category).sum ≤ 8)
    (k : ∀ r S' M', P' r S' M' → S'.2.2.1 = S.2.2.1 + rm'.cells → S'.2.2.2 = S.2.2.2 + rm'.slots → Wp E X n L (r.toList ++ st) S' M') : Wp E X pc L stk S M := by
  obtain ⟨p, l, e, R, s, m, args, below, meth, c0, Q, G, z0, l0⟩ := X
  obtain ⟨hx, hb, hml, hown, hts, hK, hRm, hr, hlo, hnm, hQ, hz0, hl0⟩ := K
  intro ls H locs hL hRl hlc hz
  obtain ⟨f1, f2, f3, f4, f5, f6⟩ := F
  subst hRm
  have h16 : a ≠ 0 := by have := hl.1; omega
  have hp : PreV s H y'.cls (ad G a) (Pc0 E G (.ref a :: A) S M) (A.map (tr G)) := ⟨Pc0.blind, hRl.recv hK hl hs hC, fun U hU hW => ⟨by rw [List.map_cons, tr_ref G h16], by rw [hU]; exact hRl, KF.moved hW hK⟩⟩
  have hstk : stk.map (tr G) = (A.map (tr G)).reverse ++ .ref (ad G a) :: st.map (tr G) := by subst hA; rw [List.map_append, List.map_reverse, List.map_cons, tr_ref G h16]
  rcases f3 with f3 | ⟨host, f3⟩
  · exact wp_run (va_runV (As := A.map (tr G)) (rest := st.map (tr G)) ⟨hx, hb, hml, hown, hts⟩ (c l G) ⟨callB_of np hts (tbl_in f4) rfl rfl rfl (hts _ f5) (hts _ f3) f6 hR, hts _ f1, hts _ f2⟩ hp rfl (by rw [List.length_map]; exact hnp) (by rw [← hml]; exact hL.1) hstk (lv_room (by rw [cat_sum]; exact h8)) hd ⟨by omega, by omega⟩) hn hL hlc hz k
  · exact wp_run (va_runVN (As := A.map (tr G)) (rest := st.map (tr G)) (host := host) ⟨hx, hb, hml, hown, hts⟩ (c l G) ⟨va_cnB np hts (tbl_in f4) rfl rfl rfl (hts _ f3) (hts _ f5) f6 hR, hts _ f1, hts _ f2⟩ hp rfl (by rw [List.length_map]; exact hnp) (by rw [← hml]; exact hL.1) hstk (lv_room (by rw [cat_sum]; exact h8)) hd ⟨by omega, by omega⟩) hn hL hlc hz k
theorem wp_invI (K : Ok E X y cc nL ret rm P S0) {idx n np a : Nat} (hd : decode cc pc = .ok (.invokespecial idx, 3)) (hn : pc + 3 = n) (F : CfI y.cls idx y' cc' nL' np) (h16 : a ≠ 0) (c : Ct E y' cc' nL' none rm' (.ref a :: A) S M P') (hA : stk = A.reverse ++ .ref a :: st) (hnp : A.length = np) (hR : Rms rm' rm nL') (hB : Bgt S S0 rm' rm) (h8 : (st.map fun v => v.category).sum ≤ 8)
    (k : ∀ r S' M', P' r S' M' → S'.2.2.1 = S.2.2.1 + rm'.cells → S'.2.2.2 = S.2.2.2 + rm'.slots → Wp E X n L (r.toList ++ st) S' M') : Wp E X pc L stk S M := by
  obtain ⟨p, l, e, R, s, m, args, below, meth, c0, Q, G, z0, l0⟩ := X
  obtain ⟨hx, hb, hml, hown, hts, hK, hRm, hr, hlo, hnm, hQ, hz0, hl0⟩ := K
  intro ls H locs hL hRl hlc hz
  obtain ⟨f0, f1, f3, f4, f5, f6⟩ := F
  subst hRm
  have hp : PreS s H (Pc0 E G (.ref a :: A) S M) (.ref (ad G a) :: A.map (tr G)) := ⟨Pc0.blind, fun U hU hW => ⟨by rw [List.map_cons, tr_ref G h16], by rw [hU]; exact hRl, KF.moved hW hK⟩⟩
  have hstk : stk.map (tr G) = (A.map (tr G)).reverse ++ .ref (ad G a) :: st.map (tr G) := by subst hA; rw [List.map_append, List.map_reverse, List.map_cons, tr_ref G h16]
  rcases f3 with f3 | ⟨host, f3⟩
  · exact wp_run (va_runI (As := A.map (tr G)) (rest := st.map (tr G)) ⟨hx, hb, hml, hown, hts⟩ (c l G) ⟨callB_of np hts (tbl_in f4) rfl rfl rfl (hts _ f5) (hts _ f3) f6 hR, f0, hts _ f1⟩ hp rfl (by rw [List.length_map]; exact hnp) (by rw [← hml]; exact hL.1) hstk (lv_room (by rw [cat_sum]; exact h8)) hd ⟨by omega, by omega⟩) hn hL hlc hz k
  · exact wp_run (va_runIN (As := A.map (tr G)) (rest := st.map (tr G)) (host := host) ⟨hx, hb, hml, hown, hts⟩ (c l G) ⟨va_cnB np hts (tbl_in f4) rfl rfl rfl (hts _ f3) (hts _ f5) f6 hR, f0, hts _ f1⟩ hp rfl (by rw [List.length_map]; exact hnp) (by rw [← hml]; exact hL.1) hstk (lv_room (by rw [cat_sum]; exact h8)) hd ⟨by omega, by omega⟩) hn hL hlc hz k
end CALLS
