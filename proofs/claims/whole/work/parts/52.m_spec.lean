/-! READING a TEXT, one TOKEN a step.
md: 0 top, 1 an ASK begins, 2 a ONE is wanted, 3 behind a ONE, 4 a SUM ended, 5 an ASK ended, 6 ';' is wanted, 7 a deed's number, 10 'to', 11 its second number, 8 FAULT, 9 done -/
abbrev Cf : Type := Nat × Nat × Nat × Nat × List Int × List (Int × Int) × Int × Nat × Bool × Bool × Nat × (Nat → Int) × Nat × Nat
def cf (md t f so : Nat) (pl : List Int) (c : List (Int × Int)) (cm : Int) (no : Nat) (an od : Bool) (fr : Nat) (cR : Nat → Int) (nc on : Nat) : Cf := (md, t, f, so, pl, c, cm, no, an, od, fr, cR, nc, on)
/-- so many NOTs -/
def nts : Nat → List (Int × Int) → List (Int × Int)
  | 0, c => c
  | k + 1, c => nts k ((20, 0) :: c)
def sp (K : Nat → Nat) (V : Nat → Int) (md t f so : Nat) (pl : List Int) (c : List (Int × Int)) (cm : Int) (no : Nat) (an od : Bool) (fr : Nat) (cR : Nat → Int) (nc on : Nat) : Cf :=
  if md = 0 then
    if K t = 41 then cf 9 t 0 0 [] c 0 0 false false 0 cR nc on
    else if ¬ (8 ≤ K t ∧ K t ≤ 13) then cf 8 t 1 0 [] [] 0 0 false false 0 (fun _ => 0) 0 0
    else if K t ≤ 10 ∧ on / 2 ^ (K t - 8) % 2 = 1 then cf 8 t 4 0 [] [] 0 0 false false 0 (fun _ => 0) 0 0
    else if nc = 24 then cf 8 t 6 0 [] [] 0 0 false false 0 (fun _ => 0) 0 0
    else cf (if K t = 8 then 2 else if K t ≤ 10 then 1 else 7) (t + 1) 0 (K t - 8) [] c 0 0 false false c.length (up cR (3 * nc) ((K t : Int) - 8)) nc (if K t ≤ 10 then on + 2 ^ (K t - 8) else on)
  else if md = 1 then
    if K t = 17 then
      if no = 8 then cf 8 t 3 0 [] [] 0 0 false false 0 (fun _ => 0) 0 0
      else cf 1 (t + 1) f so pl c cm (no + 1) an od fr cR nc on
    else cf 2 t f so pl c cm no an od fr cR nc on
  else if md = 2 then
    if oneF so (K t) (V t) (no + opn pl) = 0 then cf (if oneW (K t) = 1 then 3 else 2) (t + 1) f so (oneP (K t) (V t) pl c).1 (oneP (K t) (V t) pl c).2 cm no an od fr cR nc on
    else cf 8 t (oneF so (K t) (V t) (no + opn pl)) 0 [] [] 0 0 false false 0 (fun _ => 0) 0 0
  else if md = 3 then
    if goF (K t) pl = true then cf (if behW (K t) = 1 then 3 else 2) (t + 1) f so (behP (K t) pl c).1 (behP (K t) pl c).2 cm no an od fr cR nc on
    else if (stl 3 pl c).1 = [] then cf 4 t f so [] (stl 3 pl c).2 cm no an od fr cR nc on
    else cf 8 t 1 0 [] [] 0 0 false false 0 (fun _ => 0) 0 0
  else if md = 4 then
    if so = 0 then cf 6 t f so [] c cm no an od fr cR nc on
    else if cm = 0 then
      if cmpF (K t) < 0 then cf 8 t 1 0 [] [] 0 0 false false 0 (fun _ => 0) 0 0
      else cf 2 (t + 1) f so [] c (cmpF (K t)) no an od fr cR nc on
    else cf 5 t f so [] (nts no ((cm, 0) :: c)) 0 0 an od fr cR nc on
  else if md = 5 then
    if K t = 16 then cf 1 (t + 1) f so [] (if an = true then (21, 0) :: c else c) 0 0 true od fr cR nc on
    else if K t = 15 then cf 1 (t + 1) f so [] (if od = true then (22, 0) :: (if an = true then (21, 0) :: c else c) else (if an = true then (21, 0) :: c else c)) 0 0 false true fr cR nc on
    else cf 6 t f so [] (if od = true then (22, 0) :: (if an = true then (21, 0) :: c else c) else (if an = true then (21, 0) :: c else c)) 0 0 false false fr cR nc on
  else if md = 6 then
    if K t = 30 then cf 0 (t + 1) 0 0 [] c 0 0 false false 0 (if so < 3 then up (up cR (3 * nc + 1) (fr : Int)) (3 * nc + 2) (c.length : Int) else cR) (nc + 1) on
    else cf 8 t 1 0 [] [] 0 0 false false 0 (fun _ => 0) 0 0
  else if md = 7 then
    if K t = 40 then
      if (if so = 5 then (9 : Int) else 11) < V t then cf 8 t 2 0 [] [] 0 0 false false 0 (fun _ => 0) 0 0
      else cf (if so = 5 then 10 else 6) (t + 1) f so [] c cm no an od fr (up cR (3 * nc + 1) (V t)) nc on
    else cf 8 t 1 0 [] [] 0 0 false false 0 (fun _ => 0) 0 0
  else if md = 10 then
    if K t = 14 then cf 11 (t + 1) f so [] c cm no an od fr cR nc on
    else cf 8 t 1 0 [] [] 0 0 false false 0 (fun _ => 0) 0 0
  else if md = 11 then
    if K t = 40 then
      if 9 < V t then cf 8 t 2 0 [] [] 0 0 false false 0 (fun _ => 0) 0 0
      else cf 6 (t + 1) f so [] c cm no an od fr (up cR (3 * nc + 2) (V t)) nc on
    else cf 8 t 1 0 [] [] 0 0 false false 0 (fun _ => 0) 0 0
  else cf md t f so pl c cm no an od fr cR nc on
def stp (K : Nat → Nat) (V : Nat → Int) (x : Cf) : Cf := sp K V x.1 x.2.1 x.2.2.1 x.2.2.2.1 x.2.2.2.2.1 x.2.2.2.2.2.1 x.2.2.2.2.2.2.1 x.2.2.2.2.2.2.2.1 x.2.2.2.2.2.2.2.2.1 x.2.2.2.2.2.2.2.2.2.1 x.2.2.2.2.2.2.2.2.2.2.1 x.2.2.2.2.2.2.2.2.2.2.2.1 x.2.2.2.2.2.2.2.2.2.2.2.2.1 x.2.2.2.2.2.2.2.2.2.2.2.2.2
def itr (g : Cf → Cf) : Nat → Cf → Cf
  | 0, x => x
  | k + 1, x => itr g k (g x)
def Rch (K : Nat → Nat) (V : Nat → Int) (x y : Cf) : Prop := ∃ k, itr (stp K V) k x = y
theorem itr_add (g : Cf → Cf) : ∀ j k x, itr g (j + k) x = itr g k (itr g j x) := by
  intro j
  induction j with
  | zero => intro k x; rw [Nat.zero_add]; rfl
  | succ j ih => intro k x; rw [Nat.succ_add]; exact ih k (g x)
theorem Rch.refl {K : Nat → Nat} {V : Nat → Int} (x : Cf) : Rch K V x x := ⟨0, rfl⟩
theorem Rch.trans {K : Nat → Nat} {V : Nat → Int} {x y w : Cf} (h : Rch K V x y) (h' : Rch K V y w) : Rch K V x w := by
  obtain ⟨j, e⟩ := h
  obtain ⟨k, e'⟩ := h'
  exact ⟨j + k, by rw [itr_add, e, e']⟩
theorem Rch.one {K : Nat → Nat} {V : Nat → Int} {x y : Cf} (h : stp K V x = y) : Rch K V x y := ⟨1, h⟩
theorem itr_fix {g : Cf → Cf} {x : Cf} (h : g x = x) : ∀ k, itr g k x = x := by
  intro k
  induction k with
  | zero => rfl
  | succ k ih => show itr g k (g x) = x; rw [h]; exact ih
/-- there is one end only -/
theorem Rch.uni {K : Nat → Nat} {V : Nat → Int} {x y w : Cf} (h : Rch K V x y) (h' : Rch K V x w) (hy : stp K V y = y) (hw : stp K V w = w) : y = w := by
  obtain ⟨j, e⟩ := h
  obtain ⟨k, e'⟩ := h'
  have e1 := itr_add (stp K V) j k x
  have e2 := itr_add (stp K V) k j x
  rw [e, itr_fix hy] at e1
  rw [e', itr_fix hw] at e2
  rw [← e1, ← e2, Nat.add_comm]
/-- the FAULT f at t (what else stood there is past) -/
def flt (t f : Nat) (_ : Nat → Int) (_ _ : Nat) : Cf := cf 8 t f 0 [] [] 0 0 false false 0 (fun _ => 0) 0 0
section ST
variable {K : Nat → Nat} {V : Nat → Int} {t f so : Nat} {pl : List Int} {c : List (Int × Int)} {cm : Int} {no : Nat} {an od : Bool} {fr : Nat} {cR : Nat → Int} {nc on : Nat}
theorem s2_n (h : oneF so (K t) (V t) (no + opn pl) ≠ 0) : stp K V (cf 2 t f so pl c cm no an od fr cR nc on) = flt t (oneF so (K t) (V t) (no + opn pl)) cR nc on := by
  show (if oneF so (K t) (V t) (no + opn pl) = 0 then _ else _) = _
  rw [if_neg h]; rfl
theorem s2_y (h : oneF so (K t) (V t) (no + opn pl) = 0) : stp K V (cf 2 t f so pl c cm no an od fr cR nc on) = cf (if oneW (K t) = 1 then 3 else 2) (t + 1) f so (oneP (K t) (V t) pl c).1 (oneP (K t) (V t) pl c).2 cm no an od fr cR nc on := by
  show (if oneF so (K t) (V t) (no + opn pl) = 0 then _ else _) = _
  rw [if_pos h]; rfl
theorem s3_g (h : goF (K t) pl = true) : stp K V (cf 3 t f so pl c cm no an od fr cR nc on) = cf (if behW (K t) = 1 then 3 else 2) (t + 1) f so (behP (K t) pl c).1 (behP (K t) pl c).2 cm no an od fr cR nc on := by
  show (if goF (K t) pl = true then _ else _) = _
  rw [if_pos h]; rfl
theorem s3_y (h : goF (K t) pl = false) (h2 : (stl 3 pl c).1 = []) : stp K V (cf 3 t f so pl c cm no an od fr cR nc on) = cf 4 t f so [] (stl 3 pl c).2 cm no an od fr cR nc on := by
  show (if goF (K t) pl = true then _ else if (stl 3 pl c).1 = [] then _ else _) = _
  rw [if_neg (by rw [h]; decide), if_pos h2]; rfl
theorem s3_n (h : goF (K t) pl = false) (h2 : (stl 3 pl c).1 ≠ []) : stp K V (cf 3 t f so pl c cm no an od fr cR nc on) = flt t 1 cR nc on := by
  show (if goF (K t) pl = true then _ else if (stl 3 pl c).1 = [] then _ else _) = _
  rw [if_neg (by rw [h]; decide), if_neg h2]; rfl
end ST
theorem oneP_r {so k : Nat} {v : Int} {pl : List Int} {c : List (Int × Int)} {o : Nat} (h : okP pl) (hf : oneF so k v (o + opn pl) = 0) (ho : o + opn pl ≤ 8) : okP (oneP k v pl c).1 ∧ o + opn (oneP k v pl c).1 ≤ 8 ∧ (oneP k v pl c).1.length + (oneP k v pl c).2.length = pl.length + c.length + 1 ∧ (oneW k = 1 → (oneP k v pl c).1.head? ≠ some 2) ∧ k ≠ 41 ∧ (oneW k = 1 ∨ oneW k = 0) := by
  unfold oneF at hf
  unfold oneP oneW
  by_cases k1 : k = 40
  · rw [if_pos k1, if_pos (Or.inl k1)]
    obtain ⟨h1, h2, h3, h4⟩ := whl_r pl ((0, v) :: c) h
    have : ((0, v) :: c).length = c.length + 1 := rfl
    exact ⟨h1, by omega, by omega, fun _ => h4, by omega, Or.inl rfl⟩
  rw [if_neg k1] at hf ⊢
  by_cases k2 : k < 8
  · rw [if_pos k2, if_pos (Or.inr k2)]
    obtain ⟨h1, h2, h3, h4⟩ := whl_r pl ((1, (k : Int)) :: c) h
    have : ((1, (k : Int)) :: c).length = c.length + 1 := rfl
    exact ⟨h1, by omega, by omega, fun _ => h4, by omega, Or.inl rfl⟩
  rw [if_neg k2] at hf ⊢
  rw [if_neg (by omega : ¬ (k = 40 ∨ k < 8))]
  by_cases k3 : k = 28 ∨ k = 25
  · rw [if_pos k3] at hf
    have h8 : o + opn pl ≠ 8 := fun q => by rw [if_pos q] at hf; cases hf
    by_cases k4 : k = 28
    · rw [if_pos k4]
      refine ⟨⟨h, Or.inr (Or.inl rfl)⟩, ?_, ?_, fun q => (by cases q), by omega, Or.inr rfl⟩
      · have : opn (40 :: pl) = opn pl + 1 := rfl
        show o + opn (40 :: pl) ≤ 8
        omega
      · show pl.length + 1 + c.length = _; omega
    · rw [if_neg k4]
      refine ⟨⟨h, Or.inl rfl⟩, ?_, ?_, fun q => (by cases q), by omega, Or.inr rfl⟩
      · have : opn (2 :: pl) = opn pl + 1 := rfl
        show o + opn (2 :: pl) ≤ 8
        omega
      · show pl.length + 1 + c.length = _; omega
  · rw [if_neg k3] at hf; cases hf
