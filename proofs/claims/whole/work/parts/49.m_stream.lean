/-! the stream of TOKENS; what comes back with a number not told -/
def Qe (X : List Nat) (S1 : ST) (M : MT) (F : Int → MT → Prop) : Option Value → ST → MT → Prop := fun r S' M' => ∃ v : Int, r = some (.int (z v)) ∧ S' = S1 ∧ (∀ a, a ∉ X → M' a = M a) ∧ F v M'
section QUE
variable {E : ET} {X : XT} {y : MethodName} {cc : ByteArray} {nL : Nat} {ret : Option FieldType} {rm : Room} {P : Option Value → ST → MT → Prop} {S0 : ST}
variable {pc : Nat} {L st stk : List Value} {S S1 : ST} {M M1 : MT} {Xs : List Nat} {F : Int → MT → Prop}
variable {y' : MethodName} {cc' : ByteArray} {nL' : Nat} {ret' : Option FieldType} {rm' : Room} {A : List Value}
theorem wp_invV_qe (K : Ok E X y cc nL ret rm P S0) {idx n np a ci N : Nat} {T : u_T} (hd : decode cc pc = .ok (.invokevirtual idx, 3)) (hn : pc + 3 = n) (Fc : CfV y.cls idx y' cc' nL' ret' np) (c : Ct E y' cc' nL' ret' rm' (.ref a :: A) S M (Qe Xs S1 M1 F)) (hA : stk = A.reverse ++ .ref a :: st) (hnp : A.length = np) (hs : shp E S a = (1, ci)) (hl : live E S a) (hC : vwCl[ci]? = some (y'.cls, T, N)) (hR : Rms rm' rm nL') (hB : Bgt S S0 rm' rm) (h8 : (st.map fun v => v.category).sum ≤ 8)
    (k : ∀ v M', (∀ a, a ∉ Xs → M' a = M1 a) → F v M' → Wp E X n L (.int (z v) :: st) S1 M') : Wp E X pc L stk S M := wp_invV K hd hn Fc hs hl hC c hA hnp hR hB h8 (fun r S' M' hP _ _ => by obtain ⟨v, rfl, rfl, h, h2⟩ := hP; exact k v M' h h2)
theorem ret_ei {a : Int} (K : Ok E X y cc nL (some .int) rm (Qe Xs S1 M1 F) S0) (hd : decode cc pc = .ok (.ireturn, 1)) (hS : bud S S0 rm = S1) (hM : ∀ a, a ∉ Xs → M a = M1 a) (hF : F a M) (hw : Bw S S0 rm) : Wp E X pc L [.int (z a)] S M := wp_ireturn K hd ⟨a, rfl, hS, hM, hF⟩ hw
end QUE
def PT (b : Nat → Int) (n : Nat) : Nat → Nat
  | 0 => 0
  | t + 1 => (tokAt b n (PT b n t)).2.2
def KT (b : Nat → Int) (n t : Nat) : Nat := (tokAt b n (PT b n t)).1
def VT (b : Nat → Int) (n t : Nat) : Int := (tokAt b n (PT b n t)).2.1
def BT (b : Nat → Int) (n t : Nat) : Nat := spn isBl b n (PT b n t)
theorem tokK_r {b : Nat → Int} {n s : Nat} (hs : s ≤ n) : s ≤ (tokK b n s).2.2 ∧ (tokK b n s).2.2 ≤ n ∧ ((tokK b n s).1 ≠ 41 → s < (tokK b n s).2.2) := by
  have hdg : isDig (-1) = false := by decide
  have hlt : isLet (-1) = false := by decide
  unfold tokK
  dsimp only
  split
  · exact ⟨Nat.le_refl _, hs, fun h => absurd rfl h⟩
  · rename_i h0
    have hsn := (bA_lt (b := b) (n := n) (p := s) (by omega)).1
    split
    · rename_i h1
      have h2 := spn_step hdg h1
      have h3 := spn_r b (q := isDig) (n := n) (p := s + 1) hdg hsn
      rw [← h2.1] at h3
      exact ⟨by show s ≤ spn isDig b n s; omega, h3.2, fun _ => by show s < spn isDig b n s; omega⟩
    · split
      · rename_i h1
        have h2 := spn_step hlt h1
        have h3 := spn_r b (q := isLet) (n := n) (p := s + 1) hlt hsn
        rw [← h2.1] at h3
        exact ⟨by show s ≤ spn isLet b n s; omega, h3.2, fun _ => by show s < spn isLet b n s; omega⟩
      · split
        · rename_i h1
          have := (bA_lt (b := b) (n := n) (p := s + 1) (by omega)).1
          exact ⟨by show s ≤ s + 2; omega, by show s + 2 ≤ n; omega, fun _ => by show s < s + 2; omega⟩
        · exact ⟨by show s ≤ s + 1; omega, by show s + 1 ≤ n; omega, fun _ => by show s < s + 1; omega⟩
theorem PT_le (b : Nat → Int) (n : Nat) : ∀ t, PT b n t ≤ n := by
  have hbl : isBl (-1) = false := by decide
  intro t
  induction t with
  | zero => exact Nat.zero_le _
  | succ t ih => exact (tokK_r (spn_r b (q := isBl) hbl ih).2).2.1
/-- no end before t -/
def Rd (b : Nat → Int) (n t : Nat) : Prop := ∀ j, j < t → KT b n j ≠ 41
theorem Rd.le {b : Nat → Int} {n : Nat} : ∀ {t}, Rd b n t → t ≤ PT b n t := by
  have hbl : isBl (-1) = false := by decide
  intro t
  induction t with
  | zero => intro _; exact Nat.zero_le _
  | succ t ih =>
    intro h
    have h1 := ih (fun j hj => h j (by omega))
    have h2 := spn_r b (q := isBl) (n := n) (p := PT b n t) hbl (PT_le b n t)
    have h3 := (tokK_r (b := b) h2.2).2.2 (h t (by omega))
    show t + 1 ≤ (tokK b n (spn isBl b n (PT b n t))).2.2
    omega
theorem Rd.ln {b : Nat → Int} {n t : Nat} (h : Rd b n t) : t ≤ n := Nat.le_trans h.le (PT_le b n t)
theorem Rd.nx {b : Nat → Int} {n t : Nat} (h : Rd b n t) (hk : KT b n t ≠ 41) : Rd b n (t + 1) := fun j hj => by
  rcases Nat.lt_or_ge j t with q | q
  · exact h j q
  · rw [show j = t by omega]; exact hk
/-- the reference stands at the t-th TOKEN -/
def AT (b : Nat → Int) (n : Nat) (M : MT) (t : Nat) : Prop := M 81 = b ∧ M 77 4 = n ∧ M 77 7 = (PT b n (t + 1) : Int) ∧ M 77 8 = (BT b n t : Int) ∧ TK M (KT b n t) (VT b n t)
def OtN (M M1 : MT) : Prop := ∀ j, j ≠ 7 → j ≠ 8 → j ≠ 9 → j ≠ 10 → j ≠ 11 → M1 77 j = M 77 j
def okTp (b : Nat → Int) (n : Nat) : Prop := n ≤ 300 ∧ ∀ j, j < n → 0 ≤ b j ∧ b j ≤ 255

theorem NT.at {b : Nat → Int} {n p : Nat} {M M1 : MT} (hb : M1 81 = M 81) (e : M 81 = b) (h4 : M 77 4 = n) (t : Nat) (hp : PT b n t = p) (h : NT M n p M1) : AT b n M1 t ∧ OtN M M1 := by
  obtain ⟨h1, h2, h3, h5⟩ := h
  rw [e] at h2 h3 h5
  subst hp
  refine ⟨⟨by rw [hb, e], ?_, h3, h2, h5⟩, h1⟩
  rw [h1 4 (by decide) (by decide) (by decide) (by decide) (by decide)]; exact h4
theorem m_next {b : Nat → Int} {n t : Nat} (hok : okTp b n) (S : ST) (M : MT) (h : AT b n M t) : Ct E1 yX12_nextToken cX12_nextToken 3 none rm_X12_nextToken [.ref 77] S M (Qn [77] S M (NT M n (PT b n (t + 1)))) :=
  m_nextToken n (PT b n (t + 1)) hok.1 (PT_le b n _) S M h.2.1 h.2.2.1 (by rw [h.1]; exact hok.2)
theorem AT.nx {b : Nat → Int} {n t : Nat} {M M1 : MT} (h : AT b n M t) (hb : ∀ a, a ∉ [77] → M1 a = M a) (g : NT M n (PT b n (t + 1)) M1) : AT b n M1 (t + 1) ∧ OtN M M1 :=
  NT.at (hb 81 (by decide)) h.1 h.2.1 (t + 1) rfl g
theorem AT.of {b : Nat → Int} {n t : Nat} {M M1 : MT} (h : AT b n M t) (h1 : M1 81 = M 81) (h2 : ∀ j, 4 ≤ j → j < 12 → M1 77 j = M 77 j) : AT b n M1 t := by
  obtain ⟨q1, q2, q3, q4, q5⟩ := h
  refine ⟨h1.trans q1, (h2 4 (by decide) (by decide)).trans q2, (h2 7 (by decide) (by decide)).trans q3, (h2 8 (by decide) (by decide)).trans q4, ?_⟩
  unfold TK at *
  rw [h2 9 (by decide) (by decide), h2 10 (by decide) (by decide), h2 11 (by decide) (by decide)]
  exact q5
theorem PS.of {M M1 : MT} {t0 : Nat} {pl : List Int} {c : List (Int × Int)} (h : PS M t0 pl c) (h1 : M1 80 = M 80) (h2 : M1 82 = M 82) (h3 : M1 77 12 = M 77 12) (h4 : M1 77 14 = M 77 14) (h5 : M1 77 17 = M 77 17) : PS M1 t0 pl c := by
  obtain ⟨q1, q2, q3, q4, q5⟩ := h
  exact ⟨h3.trans q1, h4.trans q2, by unfold cs; rw [h1]; exact q3, h5.trans q4, by rw [h2]; exact q5⟩
