theorem lent_args (G : GT) (A : List Value) (ls : Array Slot) : ∀ (o : Nat), (∀ q ∈ lv_args o (A.map (tr G)), ls[q.1]? = some (.val q.2)) → ∀ (i : Nat) (v : Value), (lent A)[i]? = some v → v ≠ mkV → ls[o + i]? = some (.val (tr G v)) := by
  induction A with
  | nil => intro o h i v hi; simp [lent] at hi
  | cons w A ih =>
    intro o h i v hi hv
    rw [List.map_cons, lv_args] at h
    have h0 := h (o, tr G w) List.mem_cons_self
    have h1 : ∀ q ∈ lv_args (if (tr G w).category = 2 then o + 2 else o + 1) (A.map (tr G)), ls[q.1]? = some (.val q.2) := fun q hq => h q (List.mem_cons_of_mem _ hq)
    rw [tr_cat] at h1
    by_cases hc : w.category = 2
    · rw [if_pos hc] at h1
      have hb : (w.category == 2) = true := by simp [hc]
      rw [lent, hb] at hi
      match i, hi with
      | 0, hi => simp at hi; subst hi; exact h0
      | 1, hi => simp at hi; exact absurd hi.symm hv
      | i + 2, hi =>
        have := ih _ h1 i v (by simpa using hi) hv
        rw [show o + (i + 2) = o + 2 + i by omega]; exact this
    · rw [if_neg hc] at h1
      have hb : (w.category == 2) = false := by simp [hc]
      rw [lent, hb] at hi
      match i, hi with
      | 0, hi => simp at hi; subst hi; exact h0
      | i + 1, hi =>
        have := ih _ h1 i v (by simpa using hi) hv
        rw [show o + (i + 1) = o + 1 + i by omega]; exact this
theorem sl_len (G : GT) (A : List Value) : (lg_sl (A.map (tr G))).length = (lent A).length := by
  induction A with
  | nil => rfl
  | cons v A ih =>
    have e : lg_sl ((v :: A).map (tr G)) = (if (tr G v).category = 2 then [.val (tr G v), .second] else [.val (tr G v)]) ++ lg_sl (A.map (tr G)) := by simp [lg_sl]
    rw [e, List.length_append, ih, tr_cat, lent]
    by_cases hc : v.category = 2
    · have hb : (v.category == 2) = true := by simp [hc]
      rw [hb, if_pos hc]; simp; omega
    · have hb : (v.category == 2) = false := by simp [hc]
      rw [hb, if_neg hc]; simp; omega
/-- a contract out of a walk -/
theorem Ct.mk {E : ET} {y : MethodName} {cc : ByteArray} {nL : Nat} {ret : Option FieldType} {rm : Room} {A : List Value} {S : ST} {M : MT} {P : Option Value → ST → MT → Prop} (L0 : List Value)
    (hy : plainName y.cls = true) (hL : lent A ++ List.replicate (nL - (lent A).length) mkV = L0) (hn : (lent A).length ≤ nL)
    (k : ∀ X : XT, Ok E X y cc nL ret rm P S → Wp E X 0 L0 [] S M) : Ct E y cc nL ret rm A S M P := by
  intro l G
  refine Met.ofW (cc := cc) (maxL := nL) (ret := ret) hy rfl ?_
  intro p e s m args below meth c s₁ B hml hv
  obtain ⟨rfl, hR, hK⟩ := hv
  have hts := atoms_spec (ws := Cond.code y cc nL ret :: Gw) B.pre
  have hown : s.vm.findClass y.cls = some m.cls := findClass_of_methodNamed B.named
  have hnm : meth.name = y.name := (name_of_methodNamed B.named B.method).1
  have h1 := k (p, l, e, rm, s, m, (A.map (tr G)).toArray, below, meth, c, MQ below (Qp E G P S rm) (A.map (tr G)).toArray s rm.cells rm.slots (fun q => G.1 ≤ q), G, S.2.2.1, S.2.2.2) ⟨B.exec, B.bytes, hml, hown, Tw_of (fun w hw => hts w (List.mem_cons_of_mem _ hw)) hK, hK, rfl, B.returns, B.notSynchronized, hnm, rfl, rfl, rfl⟩
  have hl := lv_entry (A.map (tr G)) (n := nL) (by rw [sl_len]; exact hn)
  rw [lg_entry_eq]
  generalize (lg_sl (A.map (tr G)) ++ List.replicate (nL - (lg_sl (A.map (tr G))).length) Slot.unset).toArray = ls at hl ⊢
  have h2 := h1 ls s.heap [] ⟨by rw [hml]; exact hl.1, hl.2.1, fun i v hi hv => by
    subst hL
    rcases Nat.lt_or_ge i (lent A).length with h | h
    · rw [List.getElem?_append_left h] at hi
      have := lent_args G A ls 0 hl.2.2 i v hi hv
      rwa [Nat.zero_add] at this
    · rw [List.getElem?_append_right h, List.getElem?_replicate] at hi
      split at hi
      · exact absurd (Option.some.inj hi).symm hv
      · cases hi⟩ hR (fun q h => by cases h) ⟨Nat.le_refl _, Nat.le_refl _⟩
  rw [Nat.sub_self, Nat.sub_self] at h2
  exact h2
/-- what a walk knows may be weakened -/
theorem Ct.imp {E : ET} {y : MethodName} {cc : ByteArray} {nL : Nat} {ret : Option FieldType} {rm : Room} {A : List Value} {S : ST} {M : MT} {P P' : Option Value → ST → MT → Prop} (h : Ct E y cc nL ret rm A S M P) (hp : ∀ r S' M', P r S' M' → P' r S' M') : Ct E y cc nL ret rm A S M P' := by
  intro l G p e a1 a2 a3 s m args below a4 a5 a6 a7
  obtain ⟨n, o, b1, b2, b3, ⟨r, S', M', c1, c2, c3⟩, c4⟩ := h l G p e a1 a2 a3 s m args below a4 a5 a6 a7
  exact ⟨n, o, b1, b2, b3, ⟨r, S', M', c1, hp _ _ _ c2, c3⟩, c4⟩
section ROWS
variable {E : ET} {X : XT} {y : MethodName} {cc : ByteArray} {nL : Nat} {ret : Option FieldType} {rm : Room} {P : Option Value → ST → MT → Prop} {S0 : ST}
variable {pc : Nat} {L st : List Value} {S : ST} {M : MT}
/-- the same cells by another name -/
theorem celA.congr {G : GT} {sh : Nat × Nat} {f g : Nat → Int} {H : Heap} {q : Nat} (h : celA G sh f H q) (hfg : ∀ j, f j = g j) : celA G sh g H q := by
  have : f = g := funext hfg
  rwa [← this]
theorem celA.kept {G : GT} {sh : Nat × Nat} {f : Nat → Int} {H H1 : Heap} {q : Nat} (h : celA G sh f H q) (hq : H1[q]? = H[q]?) : celA G sh f H1 q := by
  unfold celA at *
  split
  · rename_i h0; rw [h0] at h; exact h
  · rename_i h0; rw [h0] at h; obtain ⟨r, h1, h2⟩ := h; exact ⟨r, h1, h2.kept hq⟩
  · rename_i k h0; rw [h0] at h; exact hq.trans h
theorem celA.lt {G : GT} {sh : Nat × Nat} {f : Nat → Int} {H : Heap} {q : Nat} (h : celA G sh f H q) : q < H.size := by
  unfold celA at h
  split at h
  · exact h.elim
  · obtain ⟨r, h1, cell, h2, -⟩ := h; exact (Array.getElem?_eq_some_iff.mp h2).1
  · exact (Array.getElem?_eq_some_iff.mp h).1
theorem ad_ge (G : GT) {a : Nat} (h : 16 ≤ a) : ad G a = G.1 + (a - 16) := by
  unfold ad
  have : Nat.blt a 16 = false := by
    cases hb : Nat.blt a 16 with
    | false => rfl
    | true => have := Nat.blt_eq.mp hb; omega
  rw [this]; rfl
theorem ad_inj (G : GT) {a b : Nat} (ha : 16 ≤ a) (hb : 16 ≤ b) (h : ad G a = ad G b) : a = b := by rw [ad_ge G ha, ad_ge G hb] at h; omega
theorem tr_ref (G : GT) {a : Nat} (h : a ≠ 0) : tr G (.ref a) = .ref (ad G a) := by
  unfold tr
  have : Nat.beq a 0 = false := by
    cases hb : Nat.beq a 0 with
    | false => rfl
    | true => have := Nat.eq_of_beq_eq_true hb; omega
  show (bif Nat.beq a 0 then Value.null else Value.ref (ad G a)) = _
  rw [this]; rfl
/-- one cell is written -/
theorem Rel.put {G : GT} {H H1 : Heap} (h : Rel E G S M H) {a : Nat} {f : Nat → Int} (ha : 16 ≤ a) (hl : a < S.2.1) (hsz : H1.size = H.size) (ho : ∀ q : Nat, q ≠ ad G a → H1[q]? = H[q]?) (hc : celA G (shp E S a) f H1 (ad G a)) (hf : ∀ j b, fin E a j = some b → f j = (b : Int)) : Rel E G S (up M a f) H1 := by
  obtain ⟨h1, h2, h3, h4, h5, h6⟩ := h
  refine ⟨h1, h2, by rw [hsz]; exact h3, fun b hb1 hb2 => ?_, fun q hq => ?_, fun b j i hb => ?_⟩
  · by_cases he : b = a
    · subst he; rw [up_same]; exact hc
    · rw [up_ne _ _ he]; exact (h4 b hb1 hb2).kept (ho _ (fun e => he (ad_inj G hb1 ha e)))
  · rw [ho q (by rw [ad_ge G ha]; omega)]; exact h5 q hq
  · by_cases he : b = a
    · subst he; rw [up_same]; exact hf j i hb
    · rw [up_ne _ _ he]; exact h6 b j i hb
end ROWS
