/-! the constructors: all ids are known ahead -/
def T1 (a : Nat) : Nat × Nat := E1.2.1.getD a (0, 0)
def C0L : List (Nat → Int) := [(fun _ => 0), (fun _ => 0), (fun _ => 0), (fun _ => 0), (fun _ => 0), (fun _ => 0), (fun _ => 0), (fun _ => 0), (fun _ => 0), (fun _ => 0), (fun _ => 0), (fun _ => 0), (fun _ => 0), (fun _ => 0), (fun _ => 0), (fun _ => 0), (up (up (up (up (up (up (up (up (up (up (fun _ => 0) 0 ((17 : Nat) : Int)) 1 ((36 : Nat) : Int)) 2 ((55 : Nat) : Int)) 3 ((60 : Nat) : Int)) 4 ((64 : Nat) : Int)) 5 ((67 : Nat) : Int)) 6 ((74 : Nat) : Int)) 7 (0)) 8 (0)) 9 (-1)), (up (up (up (up (up (up (up (up (up (up (fun _ => 0) 0 ((18 : Nat) : Int)) 1 ((24 : Nat) : Int)) 2 ((29 : Nat) : Int)) 3 ((32 : Nat) : Int)) 4 ((34 : Nat) : Int)) 5 ((35 : Nat) : Int)) 6 (0)) 7 (-1)) 8 (0)) 9 (0)), (up (up (up (up (up (up (fun _ => 0) 0 ((19 : Nat) : Int)) 1 ((20 : Nat) : Int)) 2 ((21 : Nat) : Int)) 3 ((22 : Nat) : Int)) 4 ((23 : Nat) : Int)) 5 (0)), (fun _ => 0), (fun _ => 0), (fun _ => 0), (fun _ => 0), (fun _ => 0), (up (up (up (up (up (fun _ => 0) 0 ((25 : Nat) : Int)) 1 ((26 : Nat) : Int)) 2 ((27 : Nat) : Int)) 3 ((28 : Nat) : Int)) 4 (0)), (fun _ => 0), (fun _ => 0), (fun _ => 0), (fun _ => 0), (up (up (up (fun _ => 0) 0 ((30 : Nat) : Int)) 1 ((31 : Nat) : Int)) 2 (0)), (fun _ => 0), (fun _ => 0), (up (up (up (fun _ => 0) 0 ((33 : Nat) : Int)) 1 (0)) 2 (0)), (fun _ => 0), (up (up (up (up (up (fun _ => 0) 0 ((1 : Nat) : Int)) 1 ((1 : Nat) : Int)) 2 ((1 : Nat) : Int)) 3 ((1 : Nat) : Int)) 4 (0)), (up (up (up (up (fun _ => 0) 0 ((34 : Nat) : Int)) 1 ((34 : Nat) : Int)) 2 ((34 : Nat) : Int)) 3 ((34 : Nat) : Int)), (up (up (up (up (up (up (up (up (up (up (fun _ => 0) 0 ((37 : Nat) : Int)) 1 ((43 : Nat) : Int)) 2 ((48 : Nat) : Int)) 3 ((51 : Nat) : Int)) 4 ((53 : Nat) : Int)) 5 ((54 : Nat) : Int)) 6 (0)) 7 (-1)) 8 (0)) 9 (0)), (up (up (up (up (up (up (fun _ => 0) 0 ((38 : Nat) : Int)) 1 ((39 : Nat) : Int)) 2 ((40 : Nat) : Int)) 3 ((41 : Nat) : Int)) 4 ((42 : Nat) : Int)) 5 (0)), (fun _ => 0), (fun _ => 0), (fun _ => 0), (fun _ => 0), (fun _ => 0), (up (up (up (up (up (fun _ => 0) 0 ((44 : Nat) : Int)) 1 ((45 : Nat) : Int)) 2 ((46 : Nat) : Int)) 3 ((47 : Nat) : Int)) 4 (0)), (fun _ => 0), (fun _ => 0), (fun _ => 0), (fun _ => 0), (up (up (up (fun _ => 0) 0 ((49 : Nat) : Int)) 1 ((50 : Nat) : Int)) 2 (0)), (fun _ => 0), (fun _ => 0), (up (up (up (fun _ => 0) 0 ((52 : Nat) : Int)) 1 (0)) 2 (0)), (fun _ => 0), (up (up (up (up (up (fun _ => 0) 0 ((1 : Nat) : Int)) 1 ((1 : Nat) : Int)) 2 ((1 : Nat) : Int)) 3 ((1 : Nat) : Int)) 4 (0)), (up (up (up (up (fun _ => 0) 0 ((53 : Nat) : Int)) 1 ((53 : Nat) : Int)) 2 ((53 : Nat) : Int)) 3 ((53 : Nat) : Int)), (up (up (up (up (up (up (up (up (fun _ => 0) 0 ((56 : Nat) : Int)) 1 ((57 : Nat) : Int)) 2 ((58 : Nat) : Int)) 3 ((59 : Nat) : Int)) 4 (0)) 5 (0)) 6 (0)) 7 (0)), (fun _ => 0), (fun _ => 0), (fun _ => 0), (fun _ => 0), (up (up (up (up (up (up (up (up (up (up (up (up (up (up (up (up (up (fun _ => 0) 0 ((61 : Nat) : Int)) 1 ((62 : Nat) : Int)) 2 ((63 : Nat) : Int)) 3 ((1 : Nat) : Int)) 4 ((1 : Nat) : Int)) 5 ((1 : Nat) : Int)) 6 (0)) 7 (0)) 8 (0)) 9 (0)) 10 (-1)) 11 (0)) 12 (0)) 13 (0)) 14 (1)) 15 (0)) 16 (0)), (fun _ => 0), (fun _ => 0), (fun _ => 0), (up (up (fun _ => 0) 0 ((65 : Nat) : Int)) 1 ((66 : Nat) : Int)), (fun _ => 0), (fun _ => 0), (up (up (up (up (up (up (up (up (up (up (up (fun _ => 0) 0 ((68 : Nat) : Int)) 1 ((69 : Nat) : Int)) 2 ((70 : Nat) : Int)) 3 ((71 : Nat) : Int)) 4 (0)) 5 (0)) 6 (0)) 7 (0)) 8 (0)) 9 (0)) 10 (0)), (fun _ => 0), (fun _ => 0), (fun _ => 0), (up (up (fun _ => 0) 0 ((72 : Nat) : Int)) 1 ((73 : Nat) : Int)), (fun _ => 0), (fun _ => 0), (up (up (fun _ => 0) 0 ((75 : Nat) : Int)) 1 ((76 : Nat) : Int)), (fun _ => 0), (fun _ => 0), (up (up (up (up (up (up (up (up (up (up (up (up (up (up (up (fun _ => 0) 0 ((78 : Nat) : Int)) 1 ((79 : Nat) : Int)) 2 ((80 : Nat) : Int)) 3 ((81 : Nat) : Int)) 5 (-1)) 6 (-1)) 16 ((82 : Nat) : Int)) 22 ((83 : Nat) : Int)) 23 ((84 : Nat) : Int)) 24 ((85 : Nat) : Int)) 25 ((86 : Nat) : Int)) 26 ((87 : Nat) : Int)) 28 ((88 : Nat) : Int)) 29 ((89 : Nat) : Int)) 30 ((90 : Nat) : Int)), (up (fun _ => 0) 5 (-1)), (fun j => if j < 780 then (up (fun _ => 0) 5 (-1) : Nat → Int) j else 0), (fun _ => 0), (fun _ => 0), (fun _ => 0), (fun _ => 0), (fun _ => 0), (fun _ => 0), (fun _ => 0), (fun _ => 0), (fun _ => 0), (fun _ => 0), (fun _ => 0)]
def C0 (a : Nat) : Nat → Int := C0L.getD a (fun _ => 0)
/-- the cells from b on to e are as made -/
def pt (M : MT) (b e : Nat) : MT := fun a => bif Nat.ble b a && Nat.blt a e then C0 a else M a
theorem pt_lt {M : MT} {b e a : Nat} (h : a < b) : pt M b e a = M a := by
  unfold pt
  rw [show (Nat.ble b a && Nat.blt a e) = false by rw [Bool.and_eq_false_iff]; left; exact Bool.eq_false_iff.mpr (fun q => by have := Nat.le_of_ble_eq_true q; omega)]
  rfl
theorem pt_out {M : MT} {b e a : Nat} (h : ¬ (b ≤ a ∧ a < e)) : pt M b e a = M a := by
  unfold pt
  have : (Nat.ble b a && Nat.blt a e) = false := by
    cases q : (Nat.ble b a && Nat.blt a e) with
    | false => rfl
    | true =>
      rw [Bool.and_eq_true] at q
      exact absurd ⟨Nat.le_of_ble_eq_true q.1, Nat.le_of_ble_eq_true q.2⟩ h
  rw [this]; rfl
theorem up_id {α : Type} {f : Nat → α} {n : Nat} {v : α} (h : f n = v) : up f n v = f := by
  funext a; unfold up; split
  · rename_i q; rw [q, h]
  · rfl
theorem li0 {S : ST} {a : Nat} (h : (Nat.ble 16 a && Nat.blt a S.2.1) = true) : live E0 S a := by
  rw [Bool.and_eq_true] at h
  exact ⟨Nat.le_of_ble_eq_true h.1, Or.inr (Nat.le_of_ble_eq_true h.2)⟩
def P0 (k : Nat) (F : MT) : Option Value → ST → MT → Prop := fun r S' M' => r = none ∧ S'.1 = T1 ∧ S'.2.1 = k ∧ M' = F
section ROWS
variable {X : XT} {y : MethodName} {cc : ByteArray} {nL : Nat} {ret : Option FieldType} {rm : Room} {P : Option Value → ST → MT → Prop} {S0 : ST}
variable {pc : Nat} {L st : List Value} {M : MT} {k k1 c l : Nat}
theorem wp_new0 (K : Ok E0 X y cc nL ret rm P S0) {idx n ci N : Nat} {C : String} {T : u_T} (hd : decode cc pc = .ok (.new idx, 3)) (hn : pc + 3 = n) (hC : ClsK ci C T N) (h1 : Cond.classLink y.cls idx C ∈ Tw) (h2 : Cond.instantiable C N ∈ Tw) (h3 : Cond.initialized C ∈ Tw) (hk : ∀ j, j < N → kd (tyC ci j) ≠ 3) (hT : T1 k = (1, ci)) (hk1 : k + 1 = k1) (hB : c + 1 ≤ S0.2.2.1 + rm.cells ∧ l + N ≤ S0.2.2.2 + rm.slots)
    (q : Wp E0 X n L (.ref k :: st) (T1, k1, c + 1, l + N) (up M k (fun _ => 0))) : Wp E0 X pc L st (T1, k, c, l) M := by
  subst hk1
  refine wp_new K hd hn hC h1 h2 h3 (by decide) hk hB ?_
  show Wp E0 X n L (.ref k :: st) (up T1 k (1, ci), k + 1, c + 1, l + N) (up M k (fun _ => 0))
  rw [up_id hT]; exact q
theorem wp_newa0 (K : Ok E0 X y cc nL ret rm P S0) {n kk m : Nat} {i : Int} {at0 : ArrayType} (hd : decode cc pc = .ok (.newarray at0, 2)) (hn : pc + 2 = n) (hk : kk < 4) (hty : newarray.typeOf at0 = ek (kk + 2)) (h1 : Cond.arrayClass (ek (kk + 2)) ∈ Tw) (h0 : 0 ≤ i ∧ i ≤ 60000000) (hm : i.toNat = m) (hT : T1 k = (kk + 2, m)) (hk1 : k + 1 = k1) (hB : c + 1 ≤ S0.2.2.1 + rm.cells ∧ l + m ≤ S0.2.2.2 + rm.slots)
    (q : Wp E0 X n L (.ref k :: st) (T1, k1, c + 1, l + m) (up M k (fun _ => 0))) : Wp E0 X pc L (.int (z i) :: st) (T1, k, c, l) M := by
  subst hk1; subst hm
  refine wp_newa (kk := kk) K hd hn hk hty h1 (by decide) h0 hB ?_
  show Wp E0 X n L (.ref k :: st) (up T1 k (kk + 2, i.toNat), k + 1, c + 1, l + i.toNat) (up M k (fun _ => 0))
  rw [up_id hT]; exact q
theorem wp_anew0 (K : Ok E0 X y cc nL ret rm P S0) {n idx m : Nat} {i : Int} (hd : decode cc pc = .ok (.anewarray idx, 3)) (hn : pc + 3 = n) (h1 : Cond.classLink y.cls idx RX10 ∈ Tw) (h2 : Cond.arrayOver (.object RX10) ∈ Tw) (h0 : 0 ≤ i ∧ i ≤ 60000000) (hm : i.toNat = m) (hT : T1 k = (6, m)) (hk1 : k + 1 = k1) (hB : c + 1 ≤ S0.2.2.1 + rm.cells ∧ l + m ≤ S0.2.2.2 + rm.slots)
    (q : Wp E0 X n L (.ref k :: st) (T1, k1, c + 1, l + m) (up M k (fun _ => 0))) : Wp E0 X pc L (.int (z i) :: st) (T1, k, c, l) M := by
  subst hk1; subst hm
  refine wp_anew K hd hn h1 h2 (by decide) h0 hB ?_
  show Wp E0 X n L (.ref k :: st) (up T1 k (6, i.toNat), k + 1, c + 1, l + i.toNat) (up M k (fun _ => 0))
  rw [up_id hT]; exact q
theorem wp_invI0 {stk A : List Value} {y' : MethodName} {cc' : ByteArray} {nL' : Nat} {rm' : Room} {F : MT} (K : Ok E0 X y cc nL ret rm P S0) {idx n np a : Nat} (hd : decode cc pc = .ok (.invokespecial idx, 3)) (hn : pc + 3 = n) (F' : CfI y.cls idx y' cc' nL' np) (h16 : a ≠ 0) (ct : Ct E0 y' cc' nL' none rm' (.ref a :: A) (T1, k, c, l) M (P0 k1 F)) (hA : stk = A.reverse ++ .ref a :: st) (hnp : A.length = np) (hR : Rms rm' rm nL') (hB : Bgt (T1, k, c, l) S0 rm' rm) (h8 : (st.map fun v => v.category).sum ≤ 8)
    (q : Wp E0 X n L st (T1, k1, c + rm'.cells, l + rm'.slots) F) : Wp E0 X pc L stk (T1, k, c, l) M := by
  refine wp_invI K hd hn F' h16 ct hA hnp hR hB h8 (fun r S' M' h hc hs => ?_)
  obtain ⟨rfl, h1, h2, rfl⟩ := h
  obtain ⟨s1, s2, s3, s4⟩ := S'
  have e1 : s1 = T1 := h1
  have e2 : s2 = k1 := h2
  have e3 : s3 = c + rm'.cells := hc
  have e4 : s4 = l + rm'.slots := hs
  subst e1; subst e2; subst e3; subst e4
  exact q
end ROWS

theorem m_copy0 (S : ST) (hS : S.1 = T1) (h91 : S.2.1 = 91) (M : MT) : Ct E0 yX12_copy cX12_copy 3 none rm_X12_copy [.ref 78, .ref 79] S M (Pn S (up M 79 (fun j => if j < 780 then M 78 j else M 79 j))) := by
  have s1 : shp E0 S 78 = (2, 780) := by show S.1 78 = _; rw [hS]; rfl
  have s2 : shp E0 S 79 = (2, 780) := by show S.1 79 = _; rw [hS]; rfl
  have l1 : live E0 S 78 := ⟨by omega, Or.inr (by omega)⟩
  have l2 : live E0 S 79 := ⟨by omega, Or.inr (by omega)⟩
  have n2 : ∀ i, fin E0 79 i = none := fun _ => rfl
  refine Ct.mk [.ref 78, .ref 79, mkV] (by decide) rfl (Nat.le_of_ble_eq_true rfl) (fun X K => ?_)
  refine wp_iconst (n := 1) K dX12_copy_0 rfl ?_
  refine wp_istore_n (n := 2) K dX12_copy_1 rfl (by decide) ?_
  have e0 : M = up M 79 (fun j => if j < 0 then M 78 j else M 79 j) := by
    funext a j; unfold up; split
    · rename_i h; subst h; simp
    · rfl
  rw [e0]
  refine dn 780 (Q := fun k => Wp E0 X 2 [.ref 78, .ref 79, .int (z (k : Int))] [] S (up M 79 (fun j => if j < k then M 78 j else M 79 j))) (fun k hk ih => ?_) 0 (by omega)
  refine wp_iload_n (n := 3) K dX12_copy_2 rfl rfl ?_
  refine wp_sipush (n := 6) K dX12_copy_3 rfl rfl ?_
  refine wp_icmp_ge (n := 9) K dX12_copy_6 rfl (tgt := 21) (by decide) ⟨by omega, by omega⟩ ⟨by omega, by omega⟩ (fun c6 => ?_) (fun c6 => ?_)
  · refine ret_n K dX12_copy_21 rfl ?_ ⟨Nat.le_refl _, Nat.le_refl _⟩
    rw [show k = 780 by omega]
  · refine wp_aload_n (n := 10) K dX12_copy_9 rfl rfl ?_
    refine wp_iload_n (n := 11) K dX12_copy_10 rfl rfl ?_
    refine wp_aload_n (n := 12) K dX12_copy_11 rfl rfl ?_
    refine wp_iload_n (n := 13) K dX12_copy_12 rfl rfl ?_
    refine wp_iald (n := 14) K dX12_copy_13 rfl s1 l1 ⟨by omega, by omega, by omega⟩ ?_
    refine wp_iast (n := 15) K dX12_copy_14 rfl s2 l2 n2 ⟨by omega, by omega, by omega⟩ ?_
    refine wp_iinc (n := 18) K dX12_copy_15 rfl rfl (by decide) ?_
    refine wp_goto K dX12_copy_18 (tgt := 2) (by decide) ?_
    have e1 : up (up M 79 (fun j => if j < k then M 78 j else M 79 j)) 79 (up (up M 79 (fun j => if j < k then M 78 j else M 79 j) 79) (k : Int).toNat (up M 79 (fun j => if j < k then M 78 j else M 79 j) 78 (k : Int).toNat)) = up M 79 (fun j => if j < k + 1 then M 78 j else M 79 j) := by
      rw [up_up, up_same, up_ne _ _ (by decide)]
      congr 1
      funext j
      unfold up
      rw [Int.toNat_natCast]
      by_cases h1 : j = k
      · subst h1; simp
      · by_cases h2 : j < k
        · simp [h1, h2, show j < k + 1 by omega]
        · simp [h1, h2, show ¬ j < k + 1 by omega]
    rw [e1]
    exact ih (by omega)
