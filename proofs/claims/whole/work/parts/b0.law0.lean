/-! the law's script: rows of it; what the law may have made so far -/
def SX (X : XT) (N : Nat) (xs : Nat → Int) : Prop := match X with
  | (_, _, _, _, s, _, _, _, _, _, _, G, _, _) => va_X (G.2.1 7) N (fun j => z (xs j)) s G.2.2.2.2 ∧ G.2.1 7 < G.1
def LL (i : Nat) : List Value := [.ref 7, .ref 16, .ref 77, .int (z (6 * (i : Int)))]
def Bd (i : Nat) (S S0 : ST) : Prop := S.2.2.1 ≤ S0.2.2.1 + 75 + 27 * i ∧ S.2.2.2 ≤ S0.2.2.2 + 31473 + 7805 * i
theorem Bd.one {i : Nat} {S S0 : ST} {r1 : Room} (h : Bd i S S0) (hi : i ≤ 511) (h1 : r1.cells ≤ 27 ∧ r1.slots ≤ 7805) : Bgt S S0 r1 room_1 := by
  obtain ⟨a, b⟩ := h
  exact ⟨by show _ ≤ _ + 600000; omega, by show _ ≤ _ + 7302250; omega⟩
theorem Bd.two {i : Nat} {S S1 S0 : ST} {r1 r2 : Room} (h : Bd i S S0) (hi : i ≤ 511) (h1 : r1.cells + r2.cells ≤ 27 ∧ r1.slots + r2.slots ≤ 7805) (e1 : S1.2.2.1 = S.2.2.1 + r1.cells) (e2 : S1.2.2.2 = S.2.2.2 + r1.slots) : Bgt S1 S0 r2 room_1 := by
  obtain ⟨a, b⟩ := h
  exact ⟨by show _ ≤ _ + 600000; omega, by show _ ≤ _ + 7302250; omega⟩
theorem Bd.nx {i : Nat} {S S1 S2 S0 : ST} {r1 r2 : Room} (h : Bd i S S0) (h1 : r1.cells + r2.cells ≤ 27 ∧ r1.slots + r2.slots ≤ 7805) (e1 : S1.2.2.1 = S.2.2.1 + r1.cells) (e2 : S1.2.2.2 = S.2.2.2 + r1.slots) (e3 : S2.2.2.1 = S1.2.2.1 + r2.cells) (e4 : S2.2.2.2 = S1.2.2.2 + r2.slots) : Bd (i + 1) S2 S0 := by
  obtain ⟨a, b⟩ := h
  exact ⟨by omega, by omega⟩
section ROWS
variable {E : ET} {X : XT} {y : MethodName} {cc : ByteArray} {nL : Nat} {ret : Option FieldType} {rm : Room} {P : Option Value → ST → MT → Prop} {S0 : ST}
variable {pc : Nat} {L st : List Value} {S : ST} {M : MT} {N : Nat} {xs : Nat → Int}
theorem wp_slen (K : Ok E X y cc nL ret rm P S0) (hX : SX X N xs) {n : Nat} (hd : decode cc pc = .ok (.arraylength, 1)) (hn : pc + 1 = n)
    (k : Wp E X n L (.int (z (N : Int)) :: st) S M) : Wp E X pc L (.ref 7 :: st) S M := by
  obtain ⟨p, l, e, R, s, m, args, below, meth, c, Q, G, z0, l0⟩ := X
  obtain ⟨hx, hb, hml, hown, hts, hK, hRm, hr, hlo, hnm, hQ, hz0, hl0⟩ := K
  subst hn
  intro ls H locs hL hR hlc hz
  obtain ⟨⟨scr, t1, t2, t3, t4, t5⟩, h7⟩ := hX
  rw [List.map_cons, tr_ref G (by decide)]
  have e1 : ad G 7 = G.2.1 7 := rfl
  rw [e1]
  exact W.alen (n := z (N : Int)) (cell := scr) hx hb ((hR.2.2.2.2.1 _ h7).trans t1) t2 (by rw [t4]; exact (Int32.ofInt_eq_ofNat).symm) rfl rfl hd (k ls H locs hL hR hlc hz)
theorem wp_sld (K : Ok E X y cc nL ret rm P S0) (hX : SX X N xs) {n : Nat} {j : Int} (hd : decode cc pc = .ok (.iaload, 1)) (hn : pc + 1 = n) (h0 : 0 ≤ j ∧ j < (N : Int) ∧ j < 2147483648)
    (k : Wp E X n L (.int (z (xs j.toNat)) :: st) S M) : Wp E X pc L (.int (z j) :: .ref 7 :: st) S M := by
  obtain ⟨p, l, e, R, s, m, args, below, meth, c, Q, G, z0, l0⟩ := X
  obtain ⟨hx, hb, hml, hown, hts, hK, hRm, hr, hlo, hnm, hQ, hz0, hl0⟩ := K
  subst hn
  intro ls H locs hL hR hlc hz
  obtain ⟨⟨scr, t1, t2, t3, t4, t5⟩, h7⟩ := hX
  rw [List.map_cons, List.map_cons, tr_ref G (by decide)]
  have e1 : ad G 7 = G.2.1 7 := rfl
  rw [e1]
  obtain ⟨i1, i2⟩ := ix_in (n := scr.slots.size) h0.1 (by omega) h0.2.2
  refine W.iald (v := .int (z (xs j.toNat))) hx hb ((hR.2.2.2.2.1 _ h7).trans t1) t2 t3 i1 ?_ rfl rfl hd (k ls H locs hL hR hlc hz)
  rw [i2]
  exact t5 _ (by omega)
/-- script[i + j] -/
theorem wp_arg (K : Ok E X y cc nL ret rm P S0) (hX : SX X N xs) {i : Nat} (hi : 6 * i + 6 ≤ N) (hN : N ≤ 3072) {j n : Nat} {a : Int} (hj : a = (j : Int)) (hj6 : j < 6) (d0 : decode cc pc = .ok (.aload_n 0, 1)) (d1 : decode cc (pc + 1) = .ok (.iload_n 3, 1)) (d2 : decode cc (pc + 2) = .ok (.iconst a, 1)) (d3 : decode cc (pc + 3) = .ok (.iadd, 1)) (d4 : decode cc (pc + 4) = .ok (.iaload, 1)) (hn : pc + 5 = n)
    (k : Wp E X n (LL i) (.int (z (xs (6 * i + j))) :: st) S M) : Wp E X pc (LL i) st S M := by
  subst hj
  refine wp_aload_n (n := pc + 1) K d0 rfl rfl ?_
  refine wp_iload_n (n := pc + 2) K d1 rfl rfl ?_
  refine wp_iconst (n := pc + 3) K d2 rfl ?_
  refine wp_iadd (n := pc + 4) K d3 rfl ?_
  refine wp_sld (n := n) K hX d4 hn ⟨by omega, by omega, by omega⟩ ?_
  rw [show (6 * (i : Int) + (j : Int)).toNat = 6 * i + j by omega]
  exact k
theorem wp_icmp_same (K : Ok E X y cc nL ret rm P S0) {x off : Int} {tgt : Nat} (hd : decode cc pc = .ok (.if_icmp .eq off, 3)) (ht : (pc : Int) + off = (tgt : Int)) (k : Wp E X tgt L st S M) : Wp E X pc L (.int (z x) :: .int (z x) :: st) S M := by
  have hw : InR (w32 x) := ⟨by unfold w32; omega, by unfold w32; omega⟩
  rw [← z_w x]
  exact wp_icmp_eq (n := pc + 3) K hd rfl ht hw hw (fun _ => k) (fun q => absurd rfl q)
theorem wp_lcmp_same (K : Ok E X y cc nL ret rm P S0) {x off : Int} {tgt : Nat} (hd : decode cc pc = .ok (.lcmp, 1)) (hd2 : decode cc (pc + 1) = .ok (.ifCond .eq off, 3)) (ht : ((pc + 1 : Nat) : Int) + off = (tgt : Int)) (k : Wp E X tgt L st S M) : Wp E X pc L (.long (zl x) :: .long (zl x) :: st) S M := by
  refine wp_lcmp (n := pc + 1) K hd rfl ?_
  have e : lg_cmp (zl x) (zl x) = 0 := by simp [lg_cmp]
  rw [e]
  exact wp_if_eq (n := pc + 1 + 3) (a := 0) K hd2 rfl ht ⟨by decide, by decide⟩ (fun _ => k) (fun q => absurd rfl q)
end ROWS
/-- behind a call: the next one -/
theorem lw_next {X : XT} {P : Option Value → ST → MT → Prop} {S0 S : ST} {M : MT} (K : Ok E1 X yL_law cL_law 4 (some .boolean) room_1 P S0) (i : Nat) (k : Wp E1 X 18 (LL (i + 1)) [] S M) : Wp E1 X 949 (LL i) [] S M := by
  refine wp_iinc (n := 952) (a := 6 * (i : Int)) K dL_law_949 rfl rfl (by decide) ?_
  refine wp_goto K dL_law_952 (tgt := 18) (by decide) ?_
  have e : st1 (LL i) 3 (.int (z (6 * (i : Int) + 6))) = LL (i + 1) := by
    show ([.ref 7, .ref 16, .ref 77, .int (z (6 * (i : Int) + 6))] : List Value) = ([.ref 7, .ref 16, .ref 77, .int (z (6 * ((i + 1 : Nat) : Int)))] : List Value)
    rw [show 6 * ((i + 1 : Nat) : Int) = 6 * (i : Int) + 6 by omega]
  rw [e]
  exact k
