/-! THE CLAIM OUT OF ONE WALK OF THE LAW'S BODY. Your part is whole_start (and what it stands on); all else here is the same for every law, but numbers. -/
def R_law : String := "WalledInLaw"
def lw_P (b : Addr) (xs : List Int32) (args : Array Value) (s : State) : Prop := args = #[.ref b] ∧ s.IntsAt b xs ∧ xs.length ≤ 3072 ∧ (Jvm.Cond.and given_1 narrow_1).before args s = true
def lw_Q (_ : Array Value) (s : State) (o : Outcome) (t : State) : Prop := o = .returned (some (.int 1)) ∧ Framed s o t [] 600000 7302250
def lw_Z (below : List Frame) (a : Array Value) (s : State) : State → Prop := fun t => ∃ o, t.status = .running ∧ Ended t below o ∧ lw_Q a s o t
/-- the law's own end, with 1 on the stack, nothing written that was there before, its room as the claim has it -/
theorem lw_ret {p : Program} {l : Launch} {e : Env} {s : State} {m : MethodId} {below : List Frame} {meth : Method} {c : Code} {b : Nat} (hx : p.tables.exec = Jvm.exec) (hb : c.code = code) (hr : meth.sig.returnType = ret) (hlocks : meth.locks = false) {pc : Nat} {H : Heap} {ls : Array Slot} (hdg : decode code pc = .ok (.ireturn, 1)) : W p l e room_1 s m #[Value.ref b] below meth c H [] 600000 7302250 (lw_Z below #[Value.ref b] s) (F0 m pc ls [.int 1]) := by
  intro T hT X
  obtain ⟨fs, hret, hrun, hended, hW, hframe⟩ := X.leave (v := some (.int 1)) (hlocks := hlocks) (fun h => by rw [hr] at h; cases h)
  have hmeth' : T.vm.method? m = some meth := X.method'
  refine ⟨T.setFrames fs, ?_, .returned (some (.int 1)), hrun, hended, rfl, ⟨_, rfl⟩, hW, hframe⟩
  jvm_step X.here [X.here.top, hx, hb, hdg, hmeth', hr, ret, narrow_b1]
  (try refine ⟨rfl, ?_⟩); (try refine ⟨rfl, ?_⟩)
  first | (intro acts; rw [hret _ acts rfl rfl rfl]) | rw [hret _ _ rfl rfl rfl]
  exact Steps.refl _
/-- what holds at the law's entry: the machine, the code, the tables' words (any of lw_tbl by 'hts w (by decide +kernel)'), the script of L ints xs at the cell b, what the Statement gives of the start (any of its parts by flat_of_before) -/
def lw_At (p : Program) (s : State) (m : MethodId) (meth : Method) (c : Code) (b L : Nat) (xs : Nat → Int32) : Prop :=
  p.tables.exec = Jvm.exec ∧ c.code = code ∧ meth.sig.returnType = ret ∧ c.maxLocals = 4 ∧ s.vm.findClass R_law = some m.cls ∧ (∀ w ∈ lw_tbl, w.before #[Value.ref b] s = true) ∧ va_X b L xs s s.heap ∧ b < s.heap.size ∧ meth.locks = false ∧ (Jvm.Cond.and given_1 narrow_1).before #[Value.ref b] s = true ∧ meth.name = "law"
theorem same_drop {s s' : State} {J : List Loc} {k n : Nat} (h : s.sameButNew s' J k n) (hJ : ∀ x ∈ J, s.heap.size ≤ x.base) : s.sameButNew s' [] k n := by
  obtain ⟨h1, h2, h3, h4, h5, h6⟩ := h
  refine ⟨h1, h2, h3, h4, h5, fun a c hc => ?_⟩
  obtain ⟨c', hc', hce, hsz, hout⟩ := h6 a c hc
  refine ⟨c', hc', hce, hsz, fun i hi => hout i ?_⟩
  intro hmem
  have hb : s.heap.size ≤ a := hJ _ hmem
  have ha : a < s.heap.size := (Array.getElem?_eq_some_iff.mp hc).1
  exact absurd ha (Nat.not_lt.mpr hb)
section START
variable {p : Program} {l : Launch} {e : Env} {s : State} {m : MethodId} {args : Array Value} {below : List Frame} {meth : Method} {c : Code} {G : GT} {S0 : ST} {z0 l0 : Nat}
abbrev QE (E : ET) (G : GT) (S0 : ST) (below : List Frame) (args : Array Value) (s : State) : State → Prop := MQ below (Qp E G PT1 S0 room_1) args s room_1.cells room_1.slots (fun q => G.1 ≤ q)
theorem Wp_e1 {pc cl sl : Nat} {L st : List Value} (h : Wp E1 (p, l, e, room_1, s, m, args, below, meth, c, QE E1 G S0 below args s, G, z0, l0) pc L st (T1, 91, cl, sl) Mst) : Wp E0 (p, l, e, room_1, s, m, args, below, meth, c, QE E0 G S0 below args s, G, z0, l0) pc L st (T1, 91, cl, sl) Mst := by
  intro ls H locs hL hR hlc hz
  have k := h ls H locs hL hR.e1 hlc hz
  intro T hT Xs
  obtain ⟨t, a1, o, r1, r2, ⟨r, S', M', q1, q2, q3, q4, q5⟩, r4⟩ := k T hT Xs
  exact ⟨t, a1, o, r1, r2, ⟨r, (shp E1 S', S'.2.1, S'.2.2.1, S'.2.2.2), M', q1, q2, q3.e0, q4, q5⟩, r4⟩
end START
theorem law_entry {X : XT} {N : Nat} {xs : Nat → Int} {P : Option Value → ST → MT → Prop} (K : Ok E0 X yL_law cL_law 4 (some .boolean) room_1 P (T1, 16, 0, 0)) (k : Wp E0 X 18 (LL 0) [] (T1, 91, 75, 31473) Mst) : Wp E0 X 0 [.ref 7, mkV, mkV, mkV] [] (T1, 16, 0, 0) (fun _ _ => 0) := by
  refine wp_new0 (n := 3) (k := 16) (k1 := 17) K dL_law_0 rfl ck11 cl_L_7 inst_X11 ini_X11 (by decide) rfl rfl ⟨by decide, by decide⟩ ?_
  refine wp_dup (n := 4) K dL_law_3 rfl rfl ?_
  refine wp_invI0 (n := 7) (k1 := 77) K dL_law_4 rfl cf_L_9 (by decide) (i_X11_init_16 _ _ _) rfl rfl (by decide) ⟨by decide, by decide⟩ (Nat.le_of_ble_eq_true rfl) ?_
  refine wp_astore_n (n := 8) K dL_law_7 rfl (by decide) (by decide) ?_
  refine wp_new0 (n := 11) (k := 77) (k1 := 78) K dL_law_8 rfl ck12 cl_L_10 inst_X12 ini_X12 (by decide) rfl rfl ⟨by decide, by decide⟩ ?_
  refine wp_dup (n := 12) K dL_law_11 rfl rfl ?_
  refine wp_invI0 (n := 15) (k1 := 91) K dL_law_12 rfl cf_L_12 (by decide) (i_X12_init_77 _ _ _) rfl rfl (by decide) ⟨by decide, by decide⟩ (Nat.le_of_ble_eq_true rfl) ?_
  refine wp_astore_n (n := 16) K dL_law_15 rfl (by decide) (by decide) ?_
  refine wp_iconst (n := 17) K dL_law_16 rfl ?_
  refine wp_istore_n (n := 18) K dL_law_17 rfl (by decide) ?_
  exact k
set_option maxHeartbeats 4000000 in
/-- from the entry, for every script of at most 3072 ints, the law comes to its end with true -/
theorem whole_start {p : Program} {e : Env} {s : State} {m : MethodId} {below : List Frame} {meth : Method} {c : Code} (l : Launch) {b L : Nat} {xs : Nat → Int32} (hL : L ≤ 3072) (hC : lw_At p s m meth c b L xs) : W p l e room_1 s m #[Value.ref b] below meth c s.heap [] 0 0 (lw_Z below #[Value.ref b] s) (entryFrame m ([Value.ref b] : List Value).toArray 4) := by
  obtain ⟨hx, hb, hr, hml, hown, hts, hX, hbl, hlocks, hgv, hnm⟩ := hC
  obtain ⟨G, hG1, hG2, hG3, hK⟩ := KF_start hts hgv
  have hTw : ∀ w ∈ Tw, w.before #[Value.ref b] s = true := fun w hw => hts w (List.mem_filter.mp hw).1
  have K0 : Ok E0 (p, l, e, room_1, s, m, #[Value.ref b], below, meth, c, QE E0 G (T1, 16, 0, 0) below #[Value.ref b] s, G, 0, 0) yL_law cL_law 4 (some .boolean) room_1 PT1 (T1, 16, 0, 0) := ⟨hx, hb, hml, hown, hTw, hK, rfl, hr, hlocks, hnm, rfl, rfl, rfl⟩
  have K1 : Ok E1 (p, l, e, room_1, s, m, #[Value.ref b], below, meth, c, QE E1 G (T1, 16, 0, 0) below #[Value.ref b] s, G, 0, 0) yL_law cL_law 4 (some .boolean) room_1 PT1 (T1, 16, 0, 0) := ⟨hx, hb, hml, hown, hTw, hK, rfl, hr, hlocks, hnm, rfl, rfl, rfl⟩
  have hSX : SX (p, l, e, room_1, s, m, #[Value.ref b], below, meth, c, QE E1 G (T1, 16, 0, 0) below #[Value.ref b] s, G, 0, 0) L (fun j => (xs j).toInt) := by
    refine ⟨?_, by rw [hG3, hG1]; exact hbl⟩
    rw [hG3, hG2]
    have e1 : (fun j => z ((fun j => (xs j).toInt) j)) = xs := funext fun j => z_self (xs j)
    rw [e1]
    exact hX
  have hrng : ∀ j, InR ((fun j => (xs j).toInt) j) := fun j => inR_t (xs j)
  have hw := law_entry (N := L) (xs := fun j => (xs j).toInt) K0 (Wp_e1 (lw_loop K1 hSX hrng hL 512 0 _ _ rfl (LI_start _ _) ⟨by decide, by decide⟩))
  have hl := lv_entry ([Value.ref b]) (n := 4) (Nat.le_of_ble_eq_true rfl)
  rw [lg_entry_eq]
  generalize (lg_sl ([Value.ref b]) ++ List.replicate (4 - (lg_sl ([Value.ref b])).length) Slot.unset).toArray = ls at hl ⊢
  have h0 : ls[0]? = some (.val (.ref b)) := hl.2.2 (0, .ref b) List.mem_cons_self
  have h2 := hw ls s.heap [] ⟨by rw [hml]; exact hl.1, hl.2.1, fun i v hi hv => by
    match i, hi with
    | 0, hi => cases hi; rw [tr_ref G (by decide), show ad G 7 = G.2.1 7 from rfl, hG3]; exact h0
    | 1, hi => cases hi; exact absurd rfl hv
    | 2, hi => cases hi; exact absurd rfl hv
    | 3, hi => cases hi; exact absurd rfl hv
    | i + 4, hi => cases hi⟩ ⟨Nat.le_refl _, Nat.le_refl _, by rw [hG1]; rfl, fun a q1 q2 => absurd q1 (Nat.not_le.mpr q2), fun q _ => by rw [hG2], fun a j i q => by rw [fin_E0] at q; cases q⟩ (fun q h => by cases h) ⟨Nat.le_refl _, Nat.le_refl _⟩
  intro T hT Xs
  obtain ⟨t, a1, o, r1, r2, ⟨r, S', M', q1, q2, q3, -, -⟩, Ls, ⟨f1, f2, f3⟩, f4⟩ := h2 T hT Xs
  refine ⟨t, a1, o, r1, r2, ?_, f1, f2, same_drop f3 (fun x hx => by rw [← hG1]; exact f4 x hx)⟩
  have q2' : r = some (.int (z 1)) := q2
  rw [q1, q2']
  rfl
set_option maxHeartbeats 4000000 in
theorem lw_walk (l : Launch) (b : Addr) (xs : List Int32) : MetFree l x (headSpec (Jvm.Cond.code x code maxLocals ret :: tables_1) room_1) (lw_P b xs) (fun _ _ _ _ _ => True) lw_Q := by
  refine MetFree.of_bodyS (code := code) (maxLocals := maxLocals) (ret := ret) (by decide) ?_ ?_
  · intro args s m h hn
    obtain ⟨meth, c, h1, h2, h3, h4, h5, h6, -, -⟩ := Cond.code_spec hn (atoms_spec (ws := Jvm.Cond.code x code maxLocals ret :: tables_1) h _ List.mem_cons_self)
    exact ⟨meth, c, h1, h2, h3, h4, h5, h6⟩
  · intro p e s m args below meth c s₁ B hml0 hP _
    obtain ⟨rfl, hx, hbd, hgv⟩ := hP
    obtain ⟨scr, harrAt, hlist, hof, hsmall⟩ := hx
    obtain ⟨hcb, hkn, -, -⟩ := State.arrayAt?_spec harrAt
    have hown : s.vm.findClass R_law = some m.cls := findClass_of_methodNamed B.named
    have hts0 : ∀ c ∈ (Jvm.Cond.code x code maxLocals ret :: tables_1), c.before #[Value.ref b] s = true := atoms_spec (ws := Jvm.Cond.code x code maxLocals ret :: tables_1) B.pre
    have hts : ∀ w ∈ lw_tbl, w.before #[Value.ref b] s = true := k2_hts_sels lw_privs (fun w hw => hts0 w (List.mem_cons_of_mem _ hw)) lw_privs_ok
    have hml : c.maxLocals = 4 := B.maxLocals_eq (hts0 _ List.mem_cons_self)
    have X₀ : Stand p l e room_1 s m #[Value.ref b] below meth c s₁ [] 0 0 := Stand.of_body B
    have hh0 : s₁.heap = s.heap := by rw [B.state]; rfl
    have hsz : scr.slots.size = xs.length := by rw [← Array.length_toList, hlist, List.length_map]
    have hval : ∀ j : Nat, j < xs.length → scr.slots[j]? = some (.int (xs.getD j 0)) := fun j hj => by
      rw [← Array.getElem?_toList, hlist]
      simp [hj]
    have hbl : b < s.heap.size := (Array.getElem?_eq_some_iff.mp hcb).1
    have hX : va_X b xs.length (fun j => xs.getD j 0) s s.heap := ⟨scr, hcb, hof, hkn, hsz, hval⟩
    have K : W p l e room_1 s m #[Value.ref b] below meth c s₁.heap [] 0 0 (lw_Z below #[Value.ref b] s) (entryFrame m ([Value.ref b] : List Value).toArray 4) := by
      rw [hh0]
      exact whole_start l hbd ⟨B.exec, B.bytes, B.returns, hml, hown, hts, hX, hbl, B.notSynchronized, hgv, (name_of_methodNamed B.named B.method).1⟩
    obtain ⟨t, a1, o, b1, b2, b3⟩ := K s₁ rfl X₀
    exact ⟨t, o, a1, b1, b2, b3⟩
theorem lw_pre_spec {args : Array Value} {s : State} (h : (Jvm.Cond.and given_1 narrow_1).before args s = true) (hr : rest_1_c.before args s = true) : ∃ (b : Addr) (xs : List Int32), lw_P b xs args s := by
  have hs := flat_of_before _ h
  have hq := flat_of_before _ hr
  have hc : (Cond.count 1).before args s = true := hs _ (by decide +kernel)
  have harr : (Cond.arrayOf (.arg 0) .int).before args s = true := hs _ (by decide +kernel)
  have hle : (Cond.le (.length (.arg 0)) (.int 3072)).before args s = true := hs _ (by decide +kernel)
  have hlen : (Cond.isInt (.length (.arg 0))).before args s = true := hq _ (by decide +kernel)
  have hall : (Cond.all (.arg 0) (.isInt (.elem (.arg 0) (.index 0)))).before args s = true := hq _ (by decide +kernel)
  obtain ⟨b, xs, hb, hx⟩ := State.ints_of_pre rfl harr hlen hall
  have hsm : xs.length < 2 ^ 31 := hx.choose_spec.2.2.2
  have hev : (Term.length (.arg 0)).eval args s none [] s = some (.int xs.length.toInt32) := hx.length_eval hb
  have hv := Cond.le_ints hev (show (Term.int 3072).eval args s none [] s = some (.int 3072) from rfl)
  have hd : xs.length.toInt32 ≤ 3072 := by
    simpa [Cond.before, Cond.holds, hv] using hle
  have hN : xs.length ≤ 3072 := (Int32.ofNat_le_ofNat hsm (by decide)).mp (show Int32.ofNat xs.length ≤ Int32.ofNat 3072 from hd)
  exact ⟨b, xs, Cond.one_arg hc (show args[0]? = some (.ref b) from hb), hx, hN, h⟩
theorem lw_comes (l : Launch) : Comes l x (Jvm.Cond.code x code maxLocals ret :: tables_1) room_1 (fun tb e args s => Calls_1 tb e args s ∧ rest_1 tb e args s ∧ Pre_1 tb e args s)
    (fun _ _ args s o t => lw_Q args s o t) := by
  intro p e ha hc hk s m args below hf hfit hheap happ hpre
  obtain ⟨b, xs, hP⟩ := lw_pre_spec hpre.2.2 hpre.2.1
  obtain ⟨k, o, h1, h2, h3, hQ⟩ := lw_walk l b xs p e ha hc hk s m args below hf ((Spec.applies_iff_loose hf).mp happ).1 hP trivial
  exact ⟨k, o, h1, h2, h3, hQ⟩
theorem lw_frame {s t : State} {o : Outcome} {args : Array Value} (h : Framed s o t [] 600000 7302250) :
    Framed s o t (fieldLocs frame_1_writes args s ++ arrayLocs frame_1_arrays args s ++ staticLocs frame_1_statics s) 600000 7302250 := h
theorem lw_limb (L : Cond) (hL : ∀ (args : Array Value) (s t : State), L.after args s (.returned (some (.int 1))) t = true) :
    ArmFor flags0 classFile x code maxLocals ret World_1 tables_1 room_1 Calls_1 rest_1 Pre_1
      (fun tb e a s o t => postC L tb e a s o t ∧ Framed s o t (fieldLocs frame_1_writes a s ++ arrayLocs frame_1_arrays a s ++ staticLocs frame_1_statics s) 600000 7302250) := by
  intro l _ _ _ p e ha hc hk s m args below hf hfit hheap happ hpre
  obtain ⟨k, o, h1, h2, h3, rfl, hF⟩ := lw_comes l p e ha hc hk s m args below hf hfit hheap happ hpre
  exact ⟨k, _, h1, h2, h3, hL args s _, lw_frame hF⟩
theorem i_vc : Claimed_1_1 ∧ Claimed_1_2 := ⟨lw_limb limb_1_1 (fun args s t => by simp [limb_1_1, Cond.after, Cond.holds, Cond.value]), lw_limb limb_1_2 (fun args s t => Cond.after_iff.mpr (by
  first | (rw [show limb_1_2 = Cond.eq .result (.int 1) from rfl, Cond.eq_ints (x := 1) (y := 1) rfl rfl]; simp; done) | (simp [limb_1_2, Cond.value, Term.eval]; done)))⟩
