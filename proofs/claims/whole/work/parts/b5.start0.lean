/-! what the Statement gives of the start -/
theorem mvw_of {w : Cond} (h : mvw w = true) {A : Array Value} {U : State} (hw : w.before A U = true) : va_Nw w U := by
  cases w <;> first | exact va_Nw.of rfl hw | (exfalso; exact Bool.false_ne_true h) | exact hw
def stm : Nat → Term
  | 0 => .string "WalledIn$Tape" 69
  | _ => .string "WalledIn$Tape" 84
abbrev gvN : Cond := Jvm.Cond.and given_1 narrow_1
theorem gv_nc : Cond.arrayOf (.static "WalledIn" "NO_CODE" "[I") .int ∈ flatC gvN ∧ Cond.eq (.length (.static "WalledIn" "NO_CODE" "[I")) (.int (Int32.ofNat 0)) ∈ flatC gvN := by decide +kernel
theorem gv_cs : Cond.eq (.static "java/lang/String" "COMPACT_STRINGS" "Z") (.int 1) ∈ flatC gvN ∧ Cond.isRef (.static "jdk/internal/util/Preconditions" "SIOOBE_FORMATTER" "Ljava/util/function/BiFunction;") ∈ flatC gvN := by decide +kernel
theorem gv_ex : ∀ i, i < 2 → Cond.exactly (stm i) "java/lang/String" ∈ flatC gvN := by decide +kernel
theorem gv_co : ∀ i, i < 2 → Cond.eq (.field (stm i) "java/lang/String" "coder" "B") (.int 0) ∈ flatC gvN := by decide +kernel
theorem gv_ar : ∀ i, i < 2 → Cond.arrayOf (.field (stm i) "java/lang/String" "value" "[B") .byte ∈ flatC gvN := by decide +kernel
theorem gv_le : ∀ i, i < 2 → Cond.eq (.length (.field (stm i) "java/lang/String" "value" "[B")) (.int (Int32.ofNat (sLn.getD i 0))) ∈ flatC gvN := by decide +kernel
theorem gv_el : ∀ i, i < 2 → ∀ j, j < sLn.getD i 0 → Cond.eq (.elem (.field (stm i) "java/lang/String" "value" "[B") (.int (Int32.ofNat j))) (.int ((sBt.getD i []).getD j 0)) ∈ flatC gvN := by decide +kernel
theorem gv_ne : Cond.not (Cond.eq (stm 0) (stm 1)) ∈ flatC gvN ∨ Cond.not (Cond.eq (stm 1) (stm 0)) ∈ flatC gvN := by decide +kernel
theorem tb_nc : Cond.laysStatic "WalledIn" "NO_CODE" "[I" ∈ lw_tbl := List.mem_of_getElem? (i := 282) (by decide +kernel)
theorem tb_cs : Cond.laysStatic "java/lang/String" "COMPACT_STRINGS" "Z" ∈ lw_tbl := List.mem_of_getElem? (i := 652) (by decide +kernel)
theorem tb_sf : Cond.laysStatic "jdk/internal/util/Preconditions" "SIOOBE_FORMATTER" "Ljava/util/function/BiFunction;" ∈ lw_tbl := List.mem_of_getElem? (i := 668) (by decide +kernel)
theorem tb_s1 : Cond.stringRef "WalledIn$Tape" 69 SW ∈ lw_tbl := List.mem_of_getElem? (i := 642) (by decide +kernel)
theorem tb_s2 : Cond.stringRef "WalledIn$Tape" 84 SG ∈ lw_tbl := List.mem_of_getElem? (i := 706) (by decide +kernel)
theorem K_start {s : State} {b : Nat} (hTw : ∀ w ∈ Tw, w.before #[Value.ref b] s = true) : ∃ (dq : va_G) (ac : Nat → ClassId), va_K dq vwCl [(ac 2, .int), (ac 3, .byte), (ac 4, .boolean), (ac 5, .long), (ac 6, .object RX10)] s := by
  have one : ∀ {ci : Nat} {C : String} {T : u_T} {N : Nat}, ClsK ci C T N → Cond.instantiable C N ∈ Tw → ∃ q : ClassId × (Nat → Nat), ∀ r : vw_C, vwCl[ci]? = some r → u_Kn s r.1 r.2.1 r.2.2 q.1 q.2 := fun {ci C T N} h1 h2 => by
    obtain ⟨cC, iS, h⟩ := u_known hTw h1.2.1 (hTw _ h2)
    exact ⟨(cC, iS), fun r hr => by rw [h1.1] at hr; cases hr; exact h⟩
  have hkn : ∀ k : Nat, ∃ q : ClassId × (Nat → Nat), ∀ r : vw_C, vwCl[k]? = some r → u_Kn s r.1 r.2.1 r.2.2 q.1 q.2 := by
    intro k
    match k with
    | 0 => exact one ck0 inst_X0
    | 1 => exact one ck1 inst_X1
    | 2 => exact one ck2 inst_X2
    | 3 => exact one ck3 inst_X3
    | 4 => exact one ck4 inst_X4
    | 5 => exact one ck5 inst_X5
    | 6 => exact one ck6 inst_X6
    | 7 => exact one ck7 inst_X7
    | 8 => exact one ck8 inst_X8
    | 9 => exact one ck9 inst_X9
    | 10 => exact one ck10 inst_X10
    | 11 => exact one ck11 inst_X11
    | 12 => exact one ck12 inst_X12
    | k + 13 =>
      refine ⟨(0, fun _ => 0), fun r hr => ?_⟩
      have h1 := (List.getElem?_eq_some_iff.mp hr).1
      have h2 : vwCl.length = 13 := rfl
      omega
  obtain ⟨dq, hdq⟩ := Classical.axiomOfChoice hkn
  have harr : ∀ ty : FieldType, Cond.arrayClass ty ∈ Tw → ∃ cA : ClassId, ArrOfT s cA ty ∧ s.vm.findClass ("[" ++ ty.toString) = some cA := fun ty h => by
    obtain ⟨c, k, comp, h1, h2, h3⟩ := Cond.arrayClass_spec (args := #[Value.ref b]) (first := s) (o := none) (s := s) (idx := []) (hTw _ h)
    exact ⟨c, fun n z => ⟨fun k h => (by cases h), k, h2, comp, h3⟩, h1⟩
  obtain ⟨a2, A2, F2⟩ := harr .int ar_int
  obtain ⟨a3, A3, F3⟩ := harr .byte ar_byte
  obtain ⟨a4, A4, F4⟩ := harr .boolean ar_boolean
  obtain ⟨a5, A5, F5⟩ := harr .long ar_long
  obtain ⟨comp, a6, k6, o1, -, o3, o4, o5⟩ := Cond.arrayOver_spec (args := #[Value.ref b]) (first := s) (o := none) (s := s) (idx := []) (hTw _ ar_over)
  refine ⟨(fun k => (dq k).1, fun k => (dq k).2), fun k => match k with | 2 => a2 | 3 => a3 | 4 => a4 | 5 => a5 | _ => a6, fun c q hq => hdq c q hq, fun k q hk => ?_⟩
  match k, hk with
  | 0, hk => cases hk; exact ⟨A2, F2⟩
  | 1, hk => cases hk; exact ⟨A3, F3⟩
  | 2, hk => cases hk; exact ⟨A4, F4⟩
  | 3, hk => cases hk; exact ⟨A5, F5⟩
  | 4, hk => cases hk; exact ⟨fun n z => ⟨fun k h => (by cases h), k6, o3, comp, o4⟩, k6, comp, o3, o4, o1, o5⟩
  | k + 5, hk => cases hk
theorem KF_start {s : State} {b : Nat} (hts : ∀ w ∈ lw_tbl, w.before #[Value.ref b] s = true) (hgv : gvN.before #[Value.ref b] s = true) : ∃ G : GT, G.1 = s.heap.size ∧ G.2.2.2.2 = s.heap ∧ G.2.1 7 = b ∧ KF G s := by
  have hTw : ∀ w ∈ Tw, w.before #[Value.ref b] s = true := fun w hw => hts w (List.mem_filter.mp hw).1
  have hs := flat_of_before _ hgv
  have hA : ∀ a : Nat, a < s.heap.size → ¬ (fun q : Nat => s.heap.size ≤ q) a := fun a h1 h2 => absurd h1 (Nat.not_lt.mpr h2)
  obtain ⟨t1, ht1, hT1⟩ := va_Tof (ty := .int) (N := 0) (f := fun _ => Value.null) (A := fun q : Nat => s.heap.size ≤ q) (by decide) (hs _ gv_nc.1) (va_eqt (hs _ gv_nc.2)) (fun j h => absurd h (Nat.not_lt_zero j)) hA
  have hZ1 := va_Zref (A := fun q : Nat => s.heap.size ≤ q) (hts _ tb_nc) (hTw _ ini_X11) ht1 hA
  have hZ2 := va_Zof (A := fun q : Nat => s.heap.size ≤ q) (hts _ tb_cs) (hTw _ ini_J0) (va_eqi (hs _ gv_cs.1)) hA
  obtain ⟨f6, h6⟩ : ∃ f6 : Nat, va_Z "jdk/internal/util/Preconditions" "SIOOBE_FORMATTER" "Ljava/util/function/BiFunction;" .null (fun q : Nat => s.heap.size ≤ q) s s.heap ∨ va_Z "jdk/internal/util/Preconditions" "SIOOBE_FORMATTER" "Ljava/util/function/BiFunction;" (.ref f6) (fun q : Nat => s.heap.size ≤ q) s s.heap := by
    rcases va_Zqof (A := fun q : Nat => s.heap.size ≤ q) (hts _ tb_sf) (hTw _ ini_J3) (hs _ gv_cs.2) hA with h | ⟨t, h⟩
    · exact ⟨0, Or.inl h⟩
    · exact ⟨t, Or.inr h⟩
  obtain ⟨adK, adV, hS, hev⟩ := vk_Sof (N := 2) (tm := stm) (len := sLn) (byt := sBt) (A := fun q : Nat => s.heap.size ≤ q) (by decide) (fun i hi => hs _ (gv_ex i hi)) (fun i hi => hs _ (gv_co i hi)) (fun i hi => hs _ (gv_ar i hi)) (fun i hi => hs _ (gv_le i hi)) (fun i hi j hj => hs _ (gv_el i hi j hj)) (fun i j hi hj hne => by
    rcases (show (i = 0 ∧ j = 1) ∨ (i = 1 ∧ j = 0) by omega) with ⟨rfl, rfl⟩ | ⟨rfl, rfl⟩
    · exact gv_ne.imp (fun q => hs _ q) (fun q => hs _ q)
    · exact gv_ne.symm.imp (fun q => hs _ q) (fun q => hs _ q)) hA
  obtain ⟨dq, ac, hKK⟩ := K_start hTw
  refine ⟨(s.heap.size, (fun a => match a with | 1 => t1 | 2 => adK 0 | 3 => adV 0 | 4 => adK 1 | 5 => adV 1 | 6 => f6 | 7 => b | _ => 0), ac, dq, s.heap), rfl, rfl, rfl, fun w hw hm => mvw_of hm (hts w hw), hKK, rfl, hZ1, hT1, vk_R.of (hts _ tb_s1) (hev 0 (by decide)), vk_R.of (hts _ tb_s2) (hev 1 (by decide)), ⟨fun i hi => ?_, fun i j hi hj e => ?_⟩, hZ2, h6⟩
  · rcases (show i = 0 ∨ i = 1 by omega) with rfl | rfl
    · exact hS.1 0 (by decide)
    · exact hS.1 1 (by decide)
  · rcases (show i = 0 ∨ i = 1 by omega) with rfl | rfl <;> rcases (show j = 0 ∨ j = 1 by omega) with rfl | rfl
    · rfl
    · exact hS.2 0 1 (by decide) (by decide) e
    · exact hS.2 1 0 (by decide) (by decide) e
    · rfl
