/-! the class's waiting and code beside the automaton's -/
def eW (x : Int) : Int := if x = 40 then 28 else encK x
def b1' (b : Bool) : Nat := if b = true then 1 else 0
def cmL (cm : Int) : List Int := if cm = 0 then [] else [encK cm]
def boL (b : Bool) (k : Int) : List Int := if b = true then [k] else []
def tlW (cm : Int) (no : Nat) (an od : Bool) : List Int := cmL cm ++ (List.replicate no 17 ++ (boL an 16 ++ boL od 15))
def cE (c : List (Int × Int)) (fr : Nat) : List Int := (c.take (c.length - fr)).map encF
theorem cE_cons (x : Int × Int) (c : List (Int × Int)) {fr : Nat} (h : fr ≤ c.length) : cE (x :: c) fr = encF x :: cE c fr := by
  unfold cE
  rw [show (x :: c).length - fr = (c.length - fr) + 1 by simp; omega, List.take_succ_cons, List.map_cons]
theorem cE_len (c : List (Int × Int)) {fr : Nat} (h : fr ≤ c.length) : (cE c fr).length = c.length - fr := by
  unfold cE; simp
def okX (x : Int) : Prop := x = 2 ∨ x = 3 ∨ x = 4 ∨ x = 5 ∨ x = 6 ∨ x = 40
theorem okP.x : ∀ {l : List Int}, okP l → ∀ x ∈ l, okX x := by
  intro l
  induction l with
  | nil => intro _ x hx; cases hx
  | cons y l ih =>
    intro h x hx
    rcases List.mem_cons.mp hx with rfl | hx
    · unfold okX; rcases h.2 with q | q | q | q <;> omega
    · exact ih h.1 x hx
theorem eW_r {x : Int} (h : okX x) : 24 ≤ eW x ∧ eW x ≤ 33 ∧ isO (eW x) = (if x = 40 ∨ x = 2 then 1 else 0) ∧ clo (eW x) = (if x = 40 then 0 else if x = 2 then 7 else if x = 3 ∨ x = 4 then 5 else 6) ∧ (x ≠ 40 → 10000 + eW x = encF (x, 0)) := by
  rcases h with rfl | rfl | rfl | rfl | rfl | rfl <;> decide
theorem opW_app (a b : List Int) : opW (a ++ b) = opW a + opW b := by
  induction a with
  | nil => simp [opW]
  | cons x a ih => show opW (a ++ b) + isO x = opW a + isO x + opW b; omega
theorem opW_map : ∀ {pl : List Int}, okP pl → opW (pl.map eW) = opn pl := by
  intro pl
  induction pl with
  | nil => intro _; rfl
  | cons x pl ih =>
    intro h
    have hx := eW_r (okP.x h x List.mem_cons_self)
    show opW (pl.map eW) + isO (eW x) = opn pl + _
    rw [ih h.1, hx.2.2.1]
theorem opW_rep33 (j : Nat) : opW (List.replicate j 33) = j := by
  induction j with
  | zero => rfl
  | succ j ih => show opW (List.replicate j 33) + isO 33 = j + 1; rw [ih]; rfl
theorem opW_rep17 (j : Nat) : opW (List.replicate j 17) = j := by
  induction j with
  | zero => rfl
  | succ j ih => show opW (List.replicate j 17) + isO 17 = j + 1; rw [ih]; rfl
theorem cm_r {cm : Int} (h : 10 ≤ cm ∧ cm ≤ 15) : 20 ≤ encK cm ∧ encK cm ≤ 32 ∧ isO (encK cm) = 0 ∧ clo (encK cm) = 4 ∧ 10000 + encK cm = encF (cm, 0) := by
  rcases (show cm = 10 ∨ cm = 11 ∨ cm = 12 ∨ cm = 13 ∨ cm = 14 ∨ cm = 15 by omega) with rfl | rfl | rfl | rfl | rfl | rfl <;> decide
theorem opW_tl {cm : Int} (no : Nat) (an od : Bool) (h : cm = 0 ∨ (10 ≤ cm ∧ cm ≤ 15)) : opW (tlW cm no an od) = no := by
  unfold tlW
  rw [opW_app, opW_app, opW_app, opW_rep17]
  have h1 : opW (cmL cm) = 0 := by
    unfold cmL
    split
    · rfl
    · rename_i q
      have := cm_r (show 10 ≤ cm ∧ cm ≤ 15 by omega)
      show 0 + isO (encK cm) = 0
      omega
  have h2 : opW (boL an 16) = 0 := by cases an <;> rfl
  have h3 : opW (boL od 15) = 0 := by cases od <;> rfl
  omega
/-- NEGATEs that wait are done first -/
theorem stC_neg (least : Int) (hl : least ≤ 7) (j : Nat) (w cc : List Int) (op : Nat) (ho : j ≤ op) : stC least (List.replicate j 33 ++ w) cc op = stC least w (List.replicate j 10033 ++ cc) (op - j) := by
  induction j generalizing cc op with
  | zero => rfl
  | succ j ih =>
    show stC least (33 :: (List.replicate j 33 ++ w)) cc op = _
    have hc : clo 33 = 7 := by decide
    have hi : isO 33 = 1 := by decide
    rw [stC, if_pos (by rw [hc]; exact hl), hi, ih _ _ (by omega), show op - 1 - j = op - (j + 1) by omega]
    congr 1
    rw [show List.replicate j (10033 : Int) ++ ((10000 + 33) :: cc) = List.replicate j 10033 ++ ([10033] ++ cc) from rfl, ← List.append_assoc, ← List.replicate_succ']
/-- the arithmetic that waits, down to a bracket -/
theorem stC_pl (least sl : Int) (hq : (1 ≤ least ∧ least ≤ 5 ∧ sl = 3) ∨ (least = 6 ∧ sl = 5)) : ∀ (pl : List Int) (c : List (Int × Int)) (tl : List Int) (op fr : Nat), okP pl → pl.head? ≠ some 2 → fr ≤ c.length → stC least (pl.map eW ++ tl) (cE c fr) op = (if (stl sl pl c).1 = [] then stC least tl (cE (stl sl pl c).2 fr) op else ((stl sl pl c).1.map eW ++ tl, cE (stl sl pl c).2 fr, op)) ∧ fr ≤ (stl sl pl c).2.length := by
  intro pl
  induction pl with
  | nil =>
    intro c tl op fr _ _ hfr
    exact ⟨rfl, hfr⟩
  | cons x pl ih =>
    intro c tl op fr hok hh hfr
    have hx := eW_r (okP.x hok x List.mem_cons_self)
    have hx2 : x ≠ 2 := fun e => hh (by rw [e]; rfl)
    show stC least (eW x :: (pl.map eW ++ tl)) (cE c fr) op = _ ∧ _
    rw [stC, hx.2.2.2.1]
    have hh2 : pl.head? ≠ some 2 ∨ x = 40 := by
      rcases hok.2 with q | q | ⟨q, u⟩ | ⟨q, u⟩
      · exact absurd q hx2
      · exact Or.inr q
      · left; rcases u with u | u
        · rw [u]; decide
        · rw [u]; decide
      · left; rcases u with u | u | u | u
        · rw [u]; decide
        · rw [u]; decide
        · rw [u]; decide
        · rw [u]; decide
    by_cases hp : x < 40 ∧ sl ≤ x
    · have hx40 : x ≠ 40 := by omega
      rw [if_pos (by
        rw [if_neg hx40, if_neg hx2]
        rcases hok.2 with q | q | ⟨q, -⟩ | ⟨q, -⟩
        · exact absurd q hx2
        · exact absurd q hx40
        · rw [if_pos q]; omega
        · rw [if_neg (by omega)]; omega)]
      rw [hx.2.2.2.2 hx40, hx.2.2.1, if_neg (by omega), Nat.sub_zero, ← cE_cons _ _ hfr]
      have e : stl sl (x :: pl) c = stl sl pl ((x, 0) :: c) := by rw [stl, if_pos hp]
      rw [e]
      exact ih ((x, 0) :: c) tl op fr hok.1 (by rcases hh2 with q | q; exact q; exact absurd q hx40) (by simp; omega)
    · have e : stl sl (x :: pl) c = (x :: pl, c) := by rw [stl, if_neg hp]
      rw [e, if_neg (by
        rcases hok.2 with q | q | ⟨q, -⟩ | ⟨q, -⟩
        · exact absurd q hx2
        · rw [if_pos q]; omega
        · rw [if_neg (by omega), if_neg hx2, if_pos q]; omega
        · rw [if_neg (by omega), if_neg hx2, if_neg (by omega)]; omega), if_neg (by simp)]
      exact ⟨rfl, hfr⟩
theorem nts_ln (k : Nat) : ∀ c : List (Int × Int), (nts k c).length = c.length + k := by
  induction k with
  | zero => intro c; rfl
  | succ k ih => intro c; show (nts k ((20, 0) :: c)).length = _; rw [ih]; simp; omega
theorem stC_nots (least : Int) (hl : least ≤ 3) (no : Nat) : ∀ (c : List (Int × Int)) (tl : List Int) (op fr : Nat), fr ≤ c.length → no ≤ op → stC least (List.replicate no 17 ++ tl) (cE c fr) op = stC least tl (cE (nts no c) fr) (op - no) := by
  induction no with
  | zero => intro c tl op fr _ _; rfl
  | succ no ih =>
    intro c tl op fr hfr ho
    show stC least (17 :: (List.replicate no 17 ++ tl)) (cE c fr) op = _
    have hc : clo 17 = 3 := by decide
    have hi : isO 17 = 1 := by decide
    have he : (10000 : Int) + 17 = encF (20, 0) := by decide
    rw [stC, if_pos (by rw [hc]; exact hl), hi, he, ← cE_cons _ _ hfr, ih _ _ _ _ (by simp; omega) (by omega), show op - 1 - no = op - (no + 1) by omega]
    rfl
/-- behind an ASK -/
def askE (cm : Int) (no : Nat) (an : Bool) (c : List (Int × Int)) : List (Int × Int) := if an = true then (21, 0) :: nts no ((cm, 0) :: c) else nts no ((cm, 0) :: c)
def askO (cm : Int) (no : Nat) (an od : Bool) (c : List (Int × Int)) : List (Int × Int) := if od = true then (22, 0) :: askE cm no an c else askE cm no an c
theorem stC_tl (least : Int) (hl : 1 ≤ least ∧ least ≤ 2) (cm : Int) (hcm : 10 ≤ cm ∧ cm ≤ 15) (no : Nat) (an od : Bool) (c : List (Int × Int)) (op fr : Nat) (hfr : fr ≤ c.length) (ho : no ≤ op) : stC least (tlW cm no an od) (cE c fr) op = stC least (boL od 15) (cE (askE cm no an c) fr) (op - no) := by
  have hc := cm_r hcm
  have e0 : cmL cm = [encK cm] := by unfold cmL; rw [if_neg (by omega)]
  unfold tlW
  rw [e0]
  show stC least (encK cm :: (List.replicate no 17 ++ (boL an 16 ++ boL od 15))) (cE c fr) op = _
  rw [stC, if_pos (by rw [hc.2.2.2.1]; omega), hc.2.2.1, hc.2.2.2.2, Nat.sub_zero, ← cE_cons _ _ hfr, stC_nots least (by omega) no _ _ _ _ (by simp; omega) ho]
  have hfn : fr ≤ (nts no ((cm, 0) :: c)).length := by rw [nts_ln]; simp; omega
  unfold askE
  cases an with
  | false => rfl
  | true =>
    have h16 : clo 16 = 2 := by decide
    have hi : isO 16 = 0 := by decide
    have he : (10000 : Int) + 16 = encF (21, 0) := by decide
    show stC least (16 :: boL od 15) _ _ = _
    rw [stC, if_pos (by rw [h16]; exact hl.2), hi, he, Nat.sub_zero, ← cE_cons _ _ hfn, if_pos rfl]
theorem stC_od2 (od : Bool) (cc : List Int) (op : Nat) : stC 2 (boL od 15) cc op = (boL od 15, cc, op) := by
  cases od with
  | false => rfl
  | true =>
    have h15 : clo 15 = 1 := by decide
    show stC 2 [15] cc op = _
    rw [stC, if_neg (by rw [h15]; decide)]; rfl
theorem stC_od1 (cm : Int) (no : Nat) (an od : Bool) (c : List (Int × Int)) (op fr : Nat) (hfr : fr ≤ c.length) : stC 1 (boL od 15) (cE (askE cm no an c) fr) op = ([], cE (askO cm no an od c) fr, op) := by
  have hfe : fr ≤ (askE cm no an c).length := by
    unfold askE
    split
    · simp [nts_ln]; omega
    · simp [nts_ln]; omega
  unfold askO
  cases od with
  | false => rfl
  | true =>
    have h15 : clo 15 = 1 := by decide
    have hi : isO 15 = 0 := by decide
    have he : (10000 : Int) + 15 = encF (22, 0) := by decide
    show stC 1 [15] _ _ = _
    rw [stC, if_pos (by rw [h15]; decide), hi, he, Nat.sub_zero, ← cE_cons _ _ hfe, if_pos rfl]; rfl
theorem stC_tl4 (cm : Int) (no : Nat) (an od : Bool) (hcm : cm = 0) (cc : List Int) (op : Nat) : stC 4 (tlW cm no an od) cc op = (tlW cm no an od, cc, op) := by
  subst hcm
  have h : ∀ w : List Int, (∀ x ∈ w.head?, clo x < 4) → stC 4 w cc op = (w, cc, op) := fun w hw => by
    cases w with
    | nil => rfl
    | cons x w => rw [stC, if_neg (by have := hw x rfl; omega)]
  refine h _ (fun x hx => ?_)
  have e : tlW 0 no an od = List.replicate no 17 ++ (boL an 16 ++ boL od 15) := rfl
  rw [e] at hx
  cases no with
  | succ no => cases hx; decide
  | zero => cases an <;> cases od <;> cases hx <;> decide
theorem stC_tl5 (least : Int) (hl : 5 ≤ least) (cm : Int) (no : Nat) (an od : Bool) (hcm : cm = 0 ∨ (10 ≤ cm ∧ cm ≤ 15)) (cc : List Int) (op : Nat) : stC least (tlW cm no an od) cc op = (tlW cm no an od, cc, op) := by
  have h : ∀ w : List Int, (∀ x ∈ w.head?, clo x < 5) → stC least w cc op = (w, cc, op) := fun w hw => by
    cases w with
    | nil => rfl
    | cons x w => rw [stC, if_neg (by have := hw x rfl; omega)]
  refine h _ (fun x hx => ?_)
  rcases hcm with rfl | hcm
  · have e : tlW 0 no an od = List.replicate no 17 ++ (boL an 16 ++ boL od 15) := rfl
    rw [e] at hx
    cases no with
    | succ no => cases hx; decide
    | zero => cases an <;> cases od <;> cases hx <;> decide
  · have e0 : cmL cm = [encK cm] := by unfold cmL; rw [if_neg (by omega)]
    unfold tlW at hx
    rw [e0] at hx
    cases hx
    have := (cm_r hcm).2.2.2.1
    omega
