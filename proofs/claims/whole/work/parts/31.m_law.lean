/-! what comes back, where some cells (X) may hold anything -/
def Qi (v : Int) (X : List Nat) (S1 : ST) (M : MT) (F : MT → Prop) : Option Value → ST → MT → Prop := fun r S' M' => r = some (.int (z v)) ∧ S' = S1 ∧ (∀ a, a ∉ X → M' a = M a) ∧ F M'
def Ql (v : Int) (X : List Nat) (S1 : ST) (M : MT) (F : MT → Prop) : Option Value → ST → MT → Prop := fun r S' M' => r = some (.long (zl v)) ∧ S' = S1 ∧ (∀ a, a ∉ X → M' a = M a) ∧ F M'
def Qn (X : List Nat) (S1 : ST) (M : MT) (F : MT → Prop) : Option Value → ST → MT → Prop := fun r S' M' => r = none ∧ S' = S1 ∧ (∀ a, a ∉ X → M' a = M a) ∧ F M'
section QUI
variable {E : ET} {X : XT} {y : MethodName} {cc : ByteArray} {nL : Nat} {ret : Option FieldType} {rm : Room} {P : Option Value → ST → MT → Prop} {S0 : ST}
variable {pc : Nat} {L st stk : List Value} {S S1 : ST} {M M1 : MT} {Xs : List Nat} {F : MT → Prop}
variable {y' : MethodName} {cc' : ByteArray} {nL' : Nat} {ret' : Option FieldType} {rm' : Room} {A : List Value}
theorem wp_invV_qi (K : Ok E X y cc nL ret rm P S0) {idx n np a ci N : Nat} {T : u_T} {v : Int} (hd : decode cc pc = .ok (.invokevirtual idx, 3)) (hn : pc + 3 = n) (Fc : CfV y.cls idx y' cc' nL' ret' np) (c : Ct E y' cc' nL' ret' rm' (.ref a :: A) S M (Qi v Xs S1 M1 F)) (hA : stk = A.reverse ++ .ref a :: st) (hnp : A.length = np) (hs : shp E S a = (1, ci)) (hl : live E S a) (hC : vwCl[ci]? = some (y'.cls, T, N)) (hR : Rms rm' rm nL') (hB : Bgt S S0 rm' rm) (h8 : (st.map fun v => v.category).sum ≤ 8)
    (k : ∀ M', (∀ a, a ∉ Xs → M' a = M1 a) → F M' → Wp E X n L (.int (z v) :: st) S1 M') : Wp E X pc L stk S M := wp_invV K hd hn Fc hs hl hC c hA hnp hR hB h8 (fun r S' M' hP _ _ => by obtain ⟨rfl, rfl, h, h2⟩ := hP; exact k M' h h2)
theorem wp_invV_ql (K : Ok E X y cc nL ret rm P S0) {idx n np a ci N : Nat} {T : u_T} {v : Int} (hd : decode cc pc = .ok (.invokevirtual idx, 3)) (hn : pc + 3 = n) (Fc : CfV y.cls idx y' cc' nL' ret' np) (c : Ct E y' cc' nL' ret' rm' (.ref a :: A) S M (Ql v Xs S1 M1 F)) (hA : stk = A.reverse ++ .ref a :: st) (hnp : A.length = np) (hs : shp E S a = (1, ci)) (hl : live E S a) (hC : vwCl[ci]? = some (y'.cls, T, N)) (hR : Rms rm' rm nL') (hB : Bgt S S0 rm' rm) (h8 : (st.map fun v => v.category).sum ≤ 8)
    (k : ∀ M', (∀ a, a ∉ Xs → M' a = M1 a) → F M' → Wp E X n L (.long (zl v) :: st) S1 M') : Wp E X pc L stk S M := wp_invV K hd hn Fc hs hl hC c hA hnp hR hB h8 (fun r S' M' hP _ _ => by obtain ⟨rfl, rfl, h, h2⟩ := hP; exact k M' h h2)
theorem wp_invV_qn (K : Ok E X y cc nL ret rm P S0) {idx n np a ci N : Nat} {T : u_T} (hd : decode cc pc = .ok (.invokevirtual idx, 3)) (hn : pc + 3 = n) (Fc : CfV y.cls idx y' cc' nL' ret' np) (c : Ct E y' cc' nL' ret' rm' (.ref a :: A) S M (Qn Xs S1 M1 F)) (hA : stk = A.reverse ++ .ref a :: st) (hnp : A.length = np) (hs : shp E S a = (1, ci)) (hl : live E S a) (hC : vwCl[ci]? = some (y'.cls, T, N)) (hR : Rms rm' rm nL') (hB : Bgt S S0 rm' rm) (h8 : (st.map fun v => v.category).sum ≤ 8)
    (k : ∀ M', (∀ a, a ∉ Xs → M' a = M1 a) → F M' → Wp E X n L st S1 M') : Wp E X pc L stk S M := wp_invV K hd hn Fc hs hl hC c hA hnp hR hB h8 (fun r S' M' hP _ _ => by obtain ⟨rfl, rfl, h, h2⟩ := hP; exact k M' h h2)
theorem ret_qi {a v : Int} (K : Ok E X y cc nL (some .int) rm (Qi v Xs S1 M1 F) S0) (hd : decode cc pc = .ok (.ireturn, 1)) (he : a = v) (hS : bud S S0 rm = S1) (hM : ∀ a, a ∉ Xs → M a = M1 a) (hF : F M) (hw : Bw S S0 rm) : Wp E X pc L [.int (z a)] S M := wp_ireturn K hd ⟨by rw [he], hS, hM, hF⟩ hw
theorem ret_qz {a : Int} {b : Bool} (K : Ok E X y cc nL (some .boolean) rm (Qi (bI b) Xs S1 M1 F) S0) (hd : decode cc pc = .ok (.ireturn, 1)) (he : a = bI b) (hS : bud S S0 rm = S1) (hM : ∀ a, a ∉ Xs → M a = M1 a) (hF : F M) (hw : Bw S S0 rm) : Wp E X pc L [.int (z a)] S M := wp_zreturn K hd ⟨by rw [he], hS, hM, hF⟩ (by rw [he]; exact (fits_bool (bI_01 b)).1) hw
theorem ret_ql {a v : Int} (K : Ok E X y cc nL (some .long) rm (Ql v Xs S1 M1 F) S0) (hd : decode cc pc = .ok (.lreturn, 1)) (he : a = v) (hS : bud S S0 rm = S1) (hM : ∀ a, a ∉ Xs → M a = M1 a) (hF : F M) (hw : Bw S S0 rm) : Wp E X pc L [.long (zl a)] S M := wp_lreturn K hd ⟨by rw [he], hS, hM, hF⟩ hw
theorem ret_qn (K : Ok E X y cc nL none rm (Qn Xs S1 M1 F) S0) (hd : decode cc pc = .ok (.return_, 1)) (hS : bud S S0 rm = S1) (hM : ∀ a, a ∉ Xs → M a = M1 a) (hF : F M) (hw : Bw S S0 rm) : Wp E X pc L [] S M := wp_vreturn K hd ⟨rfl, hS, hM, hF⟩ hw
end QUI
/-! the law's code, by numbers -/
def clipF (v : Int) : Int := if 1000000 < v then 1000000 else if v < -1000000 then -1000000 else v
def twoF (o x y : Int) : Int := if o = 3 then clipF (x + y) else if o = 4 then clipF (x - y) else if o = 5 then clipF (x * y) else if y = 0 then 0 else clipF (Int.tdiv x y)
def askF (o x y : Int) : Bool := if o = 10 then decide (x < y) else if o = 11 then decide (x ≤ y) else if o = 12 then decide (y < x) else if o = 13 then decide (y ≤ x) else if o = 14 then decide (x = y) else decide (x ≠ y)
abbrev EvS : Type := (Nat → Int) × Nat × (Nat → Int) × Nat
def evStep (nm : Nat → Int) (o v : Int) (s : EvS) : EvS :=
  let V := s.1
  let n := s.2.1
  let T := s.2.2.1
  let m := s.2.2.2
  if o ≤ 1 then (up V n (if o = 0 then v else nm v.toNat), n + 1, T, m)
  else if o = 2 then (up V (n - 1) (-V (n - 1)), n, T, m)
  else if o < 10 then (up V (n - 2) (twoF o (V (n - 2)) (V (n - 1))), n - 1, T, m)
  else if o < 20 then (V, n - 2, up T m (bI (askF o (V (n - 2)) (V (n - 1)))), m + 1)
  else if o = 20 then (V, n, up T (m - 1) (1 - T (m - 1)), m)
  else if o = 21 then (V, n, up T (m - 2) (if T (m - 2) ≠ 0 ∧ T (m - 1) ≠ 0 then 1 else 0), m - 1)
  else (V, n, up T (m - 2) (if T (m - 2) ≠ 0 ∨ T (m - 1) ≠ 0 then 1 else 0), m - 1)
def evRun (nm : Nat → Int) (c : Nat → Int × Int) : Nat → EvS
  | 0 => (fun _ => 0, 0, fun _ => 0, 0)
  | i + 1 => evStep nm (c i).1 (c i).2 (evRun nm c i)
/-- depths alone -/
def dpStep (o : Int) (d : Nat × Nat) : Nat × Nat := if o ≤ 1 then (d.1 + 1, d.2) else if o = 2 then d else if o < 10 then (d.1 - 1, d.2) else if o < 20 then (d.1 - 2, d.2 + 1) else if o = 20 then d else (d.1, d.2 - 1)
def dpRun (c : Nat → Int × Int) : Nat → Nat × Nat
  | 0 => (0, 0)
  | i + 1 => dpStep (c i).1 (dpRun c i)
def okOp (o v : Int) (d : Nat × Nat) : Prop := (o = 0 ∧ 0 ≤ v ∧ v ≤ 9999) ∨ (o = 1 ∧ 0 ≤ v ∧ v < 8) ∨ (o = 2 ∧ 1 ≤ d.1) ∨ (3 ≤ o ∧ o ≤ 6 ∧ 2 ≤ d.1) ∨ (10 ≤ o ∧ o ≤ 15 ∧ 2 ≤ d.1) ∨ (o = 20 ∧ 1 ≤ d.2) ∨ (21 ≤ o ∧ o ≤ 22 ∧ 2 ≤ d.2)
def okCode (c : Nat → Int × Int) (len : Nat) : Prop := len ≤ 302 ∧ ∀ i, i < len → okOp (c i).1 (c i).2 (dpRun c i)
theorem dpRun_le (c : Nat → Int × Int) : ∀ i, (dpRun c i).1 + (dpRun c i).2 ≤ i := by
  intro i
  induction i with
  | zero => exact Nat.le_refl _
  | succ i ih => show (dpStep _ _).1 + (dpStep _ _).2 ≤ i + 1; unfold dpStep; split <;> (try split) <;> (try split) <;> (try split) <;> (try split) <;> (try dsimp only) <;> omega
theorem evRun_dp (nm : Nat → Int) (c : Nat → Int × Int) {len : Nat} (hok : okCode c len) : ∀ i, i ≤ len → ((evRun nm c i).2.1, (evRun nm c i).2.2.2) = dpRun c i := by
  intro i
  induction i with
  | zero => intro _; rfl
  | succ i ih =>
    intro hi
    have ih := ih (by omega)
    have ho := hok.2 i (by omega)
    rw [← ih] at ho
    show ((evStep nm _ _ _).2.1, (evStep nm _ _ _).2.2.2) = dpStep _ (dpRun c i)
    rw [← ih]
    unfold evStep dpStep
    unfold okOp at ho
    dsimp only at ho ⊢
    split
    · rfl
    · split
      · rfl
      · split
        · rfl
        · split
          · rfl
          · split
            · rfl
            · split <;> rfl
theorem clipF_r (v : Int) : -1000000 ≤ clipF v ∧ clipF v ≤ 1000000 := by unfold clipF; split <;> (try split) <;> omega
theorem twoF_r (o x y : Int) : -1000000 ≤ twoF o x y ∧ twoF o x y ≤ 1000000 := by
  unfold twoF
  have h1 := clipF_r (x + y); have h2 := clipF_r (x - y); have h3 := clipF_r (x * y); have h4 := clipF_r (Int.tdiv x y)
  split
  · exact h1
  · split
    · exact h2
    · split
      · exact h3
      · split
        · omega
        · exact h4
/-- values stay small, truths are 0 or 1 -/
def evOk (s : EvS) : Prop := (∀ j, j < s.2.1 → -1000000 ≤ s.1 j ∧ s.1 j ≤ 1000000) ∧ ∀ j, j < s.2.2.2 → s.2.2.1 j = 0 ∨ s.2.2.1 j = 1
theorem evStep_ok {nm : Nat → Int} (hnm : ∀ j, j < 8 → -1000000 ≤ nm j ∧ nm j ≤ 1000000) {o v : Int} {s : EvS} (ho : okOp o v (s.2.1, s.2.2.2)) (hs : evOk s) : evOk (evStep nm o v s) := by
  obtain ⟨V, n, T, m⟩ := s
  obtain ⟨hv, ht⟩ := hs
  dsimp only at hv ht ho
  unfold okOp at ho
  dsimp only at ho
  unfold evStep
  dsimp only
  have upV : ∀ (k : Nat) (x : Int) (n2 : Nat), n2 ≤ n + 1 → (∀ j, j < n2 → j ≠ k → j < n) → (-1000000 ≤ x ∧ x ≤ 1000000) → ∀ j, j < n2 → -1000000 ≤ up V k x j ∧ up V k x j ≤ 1000000 := by
    intro k x n2 _ h2 h3 j hj
    by_cases he : j = k
    · subst he; rw [up_same]; exact h3
    · rw [up_ne _ _ he]; exact hv j (h2 j hj he)
  have upT : ∀ (k : Nat) (x : Int) (n2 : Nat), (∀ j, j < n2 → j ≠ k → j < m) → (x = 0 ∨ x = 1) → ∀ j, j < n2 → up T k x j = 0 ∨ up T k x j = 1 := by
    intro k x n2 h2 h3 j hj
    by_cases he : j = k
    · subst he; rw [up_same]; exact h3
    · rw [up_ne _ _ he]; exact ht j (h2 j hj he)
  split
  · refine ⟨upV n _ (n + 1) (by omega) (fun j h1 h2 => by omega) ?_, ht⟩
    split
    · omega
    · exact hnm _ (by omega)
  · split
    · exact ⟨upV (n - 1) _ n (by omega) (fun j h1 _ => h1) (by have := hv (n - 1) (by omega); omega), ht⟩
    · split
      · exact ⟨upV (n - 2) _ (n - 1) (by omega) (fun j h1 _ => by omega) (twoF_r _ _ _), ht⟩
      · split
        · exact ⟨fun j hj => hv j (by dsimp only at hj; omega), upT m _ (m + 1) (fun j h1 h2 => by omega) (bI_01 _)⟩
        · split
          · exact ⟨hv, upT (m - 1) _ m (fun j h1 _ => h1) (by have := ht (m - 1) (by omega); omega)⟩
          · split
            · exact ⟨hv, upT (m - 2) _ (m - 1) (fun j h1 _ => by omega) (by split <;> simp)⟩
            · exact ⟨hv, upT (m - 2) _ (m - 1) (fun j h1 _ => by omega) (by split <;> simp)⟩
theorem evRun_ok {nm : Nat → Int} (hnm : ∀ j, j < 8 → -1000000 ≤ nm j ∧ nm j ≤ 1000000) {c : Nat → Int × Int} {len : Nat} (hok : okCode c len) : ∀ i, i ≤ len → evOk (evRun nm c i) := by
  intro i
  induction i with
  | zero => intro _; exact ⟨fun j hj => by show -1000000 ≤ (0 : Int) ∧ (0 : Int) ≤ 1000000; omega, fun j hj => Or.inl rfl⟩
  | succ i ih =>
    intro hi
    exact evStep_ok hnm (by rw [evRun_dp nm c hok i (by omega)]; exact hok.2 i (by omega)) (ih (by omega))
