/-! contracts that say just what comes back -/
def Pi (v : Int) (S1 : ST) (M1 : MT) : Option Value → ST → MT → Prop := fun r S' M' => r = some (.int (z v)) ∧ S' = S1 ∧ M' = M1
def Pl (v : Int) (S1 : ST) (M1 : MT) : Option Value → ST → MT → Prop := fun r S' M' => r = some (.long (zl v)) ∧ S' = S1 ∧ M' = M1
def Pr (a : Nat) (S1 : ST) (M1 : MT) : Option Value → ST → MT → Prop := fun r S' M' => r = some (.ref a) ∧ S' = S1 ∧ M' = M1
def Pn (S1 : ST) (M1 : MT) : Option Value → ST → MT → Prop := fun r S' M' => r = none ∧ S' = S1 ∧ M' = M1
def bI : Bool → Int
  | true => 1
  | false => 0
theorem bI_01 (b : Bool) : bI b = 0 ∨ bI b = 1 := by cases b; exact Or.inl rfl; exact Or.inr rfl
section FUN
variable {E : ET} {X : XT} {y : MethodName} {cc : ByteArray} {nL : Nat} {ret : Option FieldType} {rm : Room} {P : Option Value → ST → MT → Prop} {S0 : ST}
variable {pc : Nat} {L st stk : List Value} {S S1 : ST} {M M1 : MT}
variable {y' : MethodName} {cc' : ByteArray} {nL' : Nat} {ret' : Option FieldType} {rm' : Room} {A : List Value}
theorem wp_invS_i (K : Ok E X y cc nL ret rm P S0) {idx n np : Nat} {v : Int} (hd : decode cc pc = .ok (.invokestatic idx, 3)) (hn : pc + 3 = n) (F : CfS y.cls idx y' cc' nL' ret' np) (c : Ct E y' cc' nL' ret' rm' A S M (Pi v S1 M1)) (hA : stk = A.reverse ++ st) (hnp : A.length = np) (hR : Rms rm' rm nL') (hB : Bgt S S0 rm' rm) (h8 : (st.map fun v => v.category).sum ≤ 8)
    (k : Wp E X n L (.int (z v) :: st) S1 M1) : Wp E X pc L stk S M := wp_invS K hd hn F c hA hnp hR hB h8 (fun r S' M' hP _ _ => by obtain ⟨rfl, rfl, rfl⟩ := hP; exact k)
theorem wp_invS_l (K : Ok E X y cc nL ret rm P S0) {idx n np : Nat} {v : Int} (hd : decode cc pc = .ok (.invokestatic idx, 3)) (hn : pc + 3 = n) (F : CfS y.cls idx y' cc' nL' ret' np) (c : Ct E y' cc' nL' ret' rm' A S M (Pl v S1 M1)) (hA : stk = A.reverse ++ st) (hnp : A.length = np) (hR : Rms rm' rm nL') (hB : Bgt S S0 rm' rm) (h8 : (st.map fun v => v.category).sum ≤ 8)
    (k : Wp E X n L (.long (zl v) :: st) S1 M1) : Wp E X pc L stk S M := wp_invS K hd hn F c hA hnp hR hB h8 (fun r S' M' hP _ _ => by obtain ⟨rfl, rfl, rfl⟩ := hP; exact k)
theorem wp_invS_n (K : Ok E X y cc nL ret rm P S0) {idx n np : Nat} (hd : decode cc pc = .ok (.invokestatic idx, 3)) (hn : pc + 3 = n) (F : CfS y.cls idx y' cc' nL' ret' np) (c : Ct E y' cc' nL' ret' rm' A S M (Pn S1 M1)) (hA : stk = A.reverse ++ st) (hnp : A.length = np) (hR : Rms rm' rm nL') (hB : Bgt S S0 rm' rm) (h8 : (st.map fun v => v.category).sum ≤ 8)
    (k : Wp E X n L st S1 M1) : Wp E X pc L stk S M := wp_invS K hd hn F c hA hnp hR hB h8 (fun r S' M' hP _ _ => by obtain ⟨rfl, rfl, rfl⟩ := hP; exact k)
theorem wp_invS_r (K : Ok E X y cc nL ret rm P S0) {idx n np b : Nat} (hd : decode cc pc = .ok (.invokestatic idx, 3)) (hn : pc + 3 = n) (F : CfS y.cls idx y' cc' nL' ret' np) (c : Ct E y' cc' nL' ret' rm' A S M (Pr b S1 M1)) (hA : stk = A.reverse ++ st) (hnp : A.length = np) (hR : Rms rm' rm nL') (hB : Bgt S S0 rm' rm) (h8 : (st.map fun v => v.category).sum ≤ 8)
    (k : Wp E X n L (.ref b :: st) S1 M1) : Wp E X pc L stk S M := wp_invS K hd hn F c hA hnp hR hB h8 (fun r S' M' hP _ _ => by obtain ⟨rfl, rfl, rfl⟩ := hP; exact k)
theorem wp_invV_i (K : Ok E X y cc nL ret rm P S0) {idx n np a ci N : Nat} {T : u_T} {v : Int} (hd : decode cc pc = .ok (.invokevirtual idx, 3)) (hn : pc + 3 = n) (F : CfV y.cls idx y' cc' nL' ret' np) (c : Ct E y' cc' nL' ret' rm' (.ref a :: A) S M (Pi v S1 M1)) (hA : stk = A.reverse ++ .ref a :: st) (hnp : A.length = np) (hs : shp E S a = (1, ci)) (hl : live E S a) (hC : vwCl[ci]? = some (y'.cls, T, N)) (hR : Rms rm' rm nL') (hB : Bgt S S0 rm' rm) (h8 : (st.map fun v => v.category).sum ≤ 8)
    (k : Wp E X n L (.int (z v) :: st) S1 M1) : Wp E X pc L stk S M := wp_invV K hd hn F hs hl hC c hA hnp hR hB h8 (fun r S' M' hP _ _ => by obtain ⟨rfl, rfl, rfl⟩ := hP; exact k)
theorem wp_invV_l (K : Ok E X y cc nL ret rm P S0) {idx n np a ci N : Nat} {T : u_T} {v : Int} (hd : decode cc pc = .ok (.invokevirtual idx, 3)) (hn : pc + 3 = n) (F : CfV y.cls idx y' cc' nL' ret' np) (c : Ct E y' cc' nL' ret' rm' (.ref a :: A) S M (Pl v S1 M1)) (hA : stk = A.reverse ++ .ref a :: st) (hnp : A.length = np) (hs : shp E S a = (1, ci)) (hl : live E S a) (hC : vwCl[ci]? = some (y'.cls, T, N)) (hR : Rms rm' rm nL') (hB : Bgt S S0 rm' rm) (h8 : (st.map fun v => v.category).sum ≤ 8)
    (k : Wp E X n L (.long (zl v) :: st) S1 M1) : Wp E X pc L stk S M := wp_invV K hd hn F hs hl hC c hA hnp hR hB h8 (fun r S' M' hP _ _ => by obtain ⟨rfl, rfl, rfl⟩ := hP; exact k)
theorem wp_invV_n (K : Ok E X y cc nL ret rm P S0) {idx n np a ci N : Nat} {T : u_T} (hd : decode cc pc = .ok (.invokevirtual idx, 3)) (hn : pc + 3 = n) (F : CfV y.cls idx y' cc' nL' ret' np) (c : Ct E y' cc' nL' ret' rm' (.ref a :: A) S M (Pn S1 M1)) (hA : stk = A.reverse ++ .ref a :: st) (hnp : A.length = np) (hs : shp E S a = (1, ci)) (hl : live E S a) (hC : vwCl[ci]? = some (y'.cls, T, N)) (hR : Rms rm' rm nL') (hB : Bgt S S0 rm' rm) (h8 : (st.map fun v => v.category).sum ≤ 8)
    (k : Wp E X n L st S1 M1) : Wp E X pc L stk S M := wp_invV K hd hn F hs hl hC c hA hnp hR hB h8 (fun r S' M' hP _ _ => by obtain ⟨rfl, rfl, rfl⟩ := hP; exact k)
theorem wp_invV_r (K : Ok E X y cc nL ret rm P S0) {idx n np a ci N b : Nat} {T : u_T} (hd : decode cc pc = .ok (.invokevirtual idx, 3)) (hn : pc + 3 = n) (F : CfV y.cls idx y' cc' nL' ret' np) (c : Ct E y' cc' nL' ret' rm' (.ref a :: A) S M (Pr b S1 M1)) (hA : stk = A.reverse ++ .ref a :: st) (hnp : A.length = np) (hs : shp E S a = (1, ci)) (hl : live E S a) (hC : vwCl[ci]? = some (y'.cls, T, N)) (hR : Rms rm' rm nL') (hB : Bgt S S0 rm' rm) (h8 : (st.map fun v => v.category).sum ≤ 8)
    (k : Wp E X n L (.ref b :: st) S1 M1) : Wp E X pc L stk S M := wp_invV K hd hn F hs hl hC c hA hnp hR hB h8 (fun r S' M' hP _ _ => by obtain ⟨rfl, rfl, rfl⟩ := hP; exact k)
theorem wp_invI_n (K : Ok E X y cc nL ret rm P S0) {idx n np a : Nat} (hd : decode cc pc = .ok (.invokespecial idx, 3)) (hn : pc + 3 = n) (F : CfI y.cls idx y' cc' nL' np) (h16 : a ≠ 0) (c : Ct E y' cc' nL' none rm' (.ref a :: A) S M (Pn S1 M1)) (hA : stk = A.reverse ++ .ref a :: st) (hnp : A.length = np) (hR : Rms rm' rm nL') (hB : Bgt S S0 rm' rm) (h8 : (st.map fun v => v.category).sum ≤ 8)
    (k : Wp E X n L st S1 M1) : Wp E X pc L stk S M := wp_invI K hd hn F h16 c hA hnp hR hB h8 (fun r S' M' hP _ _ => by obtain ⟨rfl, rfl, rfl⟩ := hP; exact k)
abbrev Bw (S S0 : ST) (rm : Room) : Prop := S.2.2.1 ≤ S0.2.2.1 + rm.cells ∧ S.2.2.2 ≤ S0.2.2.2 + rm.slots
theorem ret_i {a v : Int} (K : Ok E X y cc nL (some .int) rm (Pi v S1 M1) S0) (hd : decode cc pc = .ok (.ireturn, 1)) (he : a = v) (hS : bud S S0 rm = S1) (hM : M = M1) (hw : Bw S S0 rm) : Wp E X pc L [.int (z a)] S M := wp_ireturn K hd ⟨by rw [he], hS, hM⟩ hw
theorem ret_z {a : Int} {b : Bool} (K : Ok E X y cc nL (some .boolean) rm (Pi (bI b) S1 M1) S0) (hd : decode cc pc = .ok (.ireturn, 1)) (he : a = bI b) (hS : bud S S0 rm = S1) (hM : M = M1) (hw : Bw S S0 rm) : Wp E X pc L [.int (z a)] S M := wp_zreturn K hd ⟨by rw [he], hS, hM⟩ (by rw [he]; exact (fits_bool (bI_01 b)).1) hw
theorem ret_l {a v : Int} (K : Ok E X y cc nL (some .long) rm (Pl v S1 M1) S0) (hd : decode cc pc = .ok (.lreturn, 1)) (he : a = v) (hS : bud S S0 rm = S1) (hM : M = M1) (hw : Bw S S0 rm) : Wp E X pc L [.long (zl a)] S M := wp_lreturn K hd ⟨by rw [he], hS, hM⟩ hw
theorem ret_n (K : Ok E X y cc nL none rm (Pn S1 M1) S0) (hd : decode cc pc = .ok (.return_, 1)) (hS : bud S S0 rm = S1) (hM : M = M1) (hw : Bw S S0 rm) : Wp E X pc L [] S M := wp_vreturn K hd ⟨rfl, hS, hM⟩ hw
theorem ret_r {a b : Nat} {ty : FieldType} (K : Ok E X y cc nL (some ty) rm (Pr b S1 M1) S0) (hd : decode cc pc = .ok (.areturn, 1)) (he : a = b) (h16 : a ≠ 0) (hty : (∃ n, ty = .object n) ∨ ∃ t, ty = .array t) (hS : bud S S0 rm = S1) (hM : M = M1) (hw : Bw S S0 rm) : Wp E X pc L [.ref a] S M := wp_areturn K hd ⟨by rw [he], hS, hM⟩ h16 hty hw
theorem wp_if_eq_b (K : Ok E X y cc nL ret rm P S0) {b : Bool} {off : Int} {n tgt : Nat} (hd : decode cc pc = .ok (.ifCond .eq off, 3)) (hn : pc + 3 = n) (ht : (pc : Int) + off = (tgt : Int)) (kt : b = false → Wp E X tgt L st S M) (kf : b = true → Wp E X n L st S M) : Wp E X pc L (.int (z (bI b)) :: st) S M := by
  refine wp_if_eq K hd hn ht (by rcases bI_01 b with h | h <;> rw [h] <;> decide) (fun c => kt ?_) (fun c => kf ?_)
  · cases b; rfl; cases c
  · cases b; exact absurd rfl c; rfl
theorem wp_if_ne_b (K : Ok E X y cc nL ret rm P S0) {b : Bool} {off : Int} {n tgt : Nat} (hd : decode cc pc = .ok (.ifCond .ne off, 3)) (hn : pc + 3 = n) (ht : (pc : Int) + off = (tgt : Int)) (kt : b = true → Wp E X tgt L st S M) (kf : b = false → Wp E X n L st S M) : Wp E X pc L (.int (z (bI b)) :: st) S M := by
  refine wp_if_ne K hd hn ht (by rcases bI_01 b with h | h <;> rw [h] <;> decide) (fun c => kt ?_) (fun c => kf ?_)
  · cases b; exact absurd rfl c; rfl
  · cases b; rfl; cases c
end FUN
