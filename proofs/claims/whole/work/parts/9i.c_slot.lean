/-! a TEXT that was read, in the reference's rows -/
theorem CR_at {r : Nat → Int} : ∀ {c : List (Int × Int)}, CR r c → ∀ {i : Nat}, i < c.length → cAt c i = (r (2 * i), r (2 * i + 1)) := by
  intro c
  induction c with
  | nil => intro _ i hi; cases hi
  | cons x c ih =>
    intro h i hi
    obtain ⟨h1, h2, h3⟩ := h
    have hl : (x :: c).length = c.length + 1 := rfl
    rcases Nat.lt_or_ge i c.length with q | q
    · rw [cAt_lt x c q]; exact ih h3 q
    · rw [show i = c.length by omega, cAt_eq, h1, h2]
theorem code_gS {τ : Nat → Int} {x : Nat} {c : List (Int × Int)} (h : CR (fun j => τ (680 * x + 75 + j)) c) {fN i : Nat} (hi : fN + i < c.length) : codeF τ (680 * x) fN i = gS c fN i := by
  unfold codeF gS
  rw [CR_at h hi]
  refine Prod.ext ?_ ?_
  · rfl
  · show τ _ = τ _; congr 1; omega
theorem evRun_cg {nm : Nat → Int} {g g' : Nat → Int × Int} : ∀ len, (∀ i, i < len → g i = g' i) → evRun nm g len = evRun nm g' len := by
  intro len
  induction len with
  | zero => intro _; rfl
  | succ n ih => intro h; show evStep nm (g n).1 (g n).2 (evRun nm g n) = evStep nm (g' n).1 (g' n).2 (evRun nm g' n); rw [ih (fun i hi => h i (by omega)), h n (by omega)]
theorem clT_no {τ : Nat → Int} {b : Nat} {s : Int} : ∀ n, (∀ k, k < n → τ (b + 1 + 3 * k) ≠ s) → clT τ b s n = -1 := by
  intro n
  induction n with
  | zero => intro _; rfl
  | succ n ih =>
    intro h
    unfold clT
    rw [ih (fun k hk => h k (by omega)), if_neg (by decide), if_neg (h n (by omega))]
theorem clT_ex {τ : Nat → Int} {b : Nat} {s : Int} : ∀ n k, k < n → τ (b + 1 + 3 * k) = s → 0 ≤ clT τ b s n := by
  intro n
  induction n with
  | zero => intro k hk; omega
  | succ n ih =>
    intro k hk e
    unfold clT
    by_cases q : 0 ≤ clT τ b s n
    · rw [if_pos q]; exact q
    · rw [if_neg q]
      rcases Nat.lt_or_ge k n with u | u
      · exact absurd (ih k u e) q
      · rw [show n = k by omega, if_pos e]; omega
theorem clT_uni {τ : Nat → Int} {b : Nat} {s : Int} {n k : Nat} (hk : k < n) (e : τ (b + 1 + 3 * k) = s) (hu : ∀ k', k' < n → τ (b + 1 + 3 * k') = s → k' = k) : clT τ b s n = (k : Int) := by
  have h0 := clT_ex n k hk e
  rcases clT_r τ b s n with q | ⟨q1, q2, q3⟩
  · omega
  · have := hu _ (by omega) q3
    omega
/-- the rows of the text x -/
def RWS (τ : Nat → Int) (x : Nat) (c : List (Int × Int)) (cR : Nat → Int) (nc : Nat) : Prop := CR (fun j => τ (680 * x + 75 + j)) c ∧ τ (680 * x) = (nc : Int) ∧ CW τ (680 * x) cR nc ∧ nc ≤ 24 ∧ CLS c cR nc
theorem RWS.wt {τ : Nat → Int} {x : Nat} {c : List (Int × Int)} {cR : Nat → Int} {nc : Nat} (h : RWS τ x c cR nc) : WT τ x := by
  obtain ⟨h1, h2, h3, h4, h5⟩ := h
  refine ⟨by omega, fun k hk => ?_⟩
  rw [h2] at hk
  have hk' : k < nc := by omega
  obtain ⟨w1, w2, w3⟩ := h3 k hk'
  obtain ⟨o1, o2, o3, o4⟩ := h5 k hk'
  rw [show 680 * x + 2 + 3 * k = 680 * x + 1 + 3 * k + 1 by omega, show 680 * x + 3 + 3 * k = 680 * x + 1 + 3 * k + 2 by omega, w1, w2]
  refine ⟨o1, fun hs => ?_, fun hs => o3 hs, fun hs => ?_⟩
  · obtain ⟨sN, fN, eN, e1, e2, e3, e4, ⟨a1, a2, a3, a4, a5⟩, e6⟩ := o2 hs
    rw [w3 (by omega) (by omega), e1, e2, e3, Int.toNat_natCast, Int.toNat_natCast]
    have hg : ∀ i, i < eN - fN → codeF τ (680 * x) fN i = gS c fN i := fun i hi => code_gS h1 (by omega)
    have hd : ∀ i, i ≤ eN - fN → dpRun (codeF τ (680 * x) fN) i = dpRun (gS c fN) i := fun i hi => dpRun_cg i (fun j hj => hg j (by omega))
    refine ⟨⟨by omega, by omega, by omega⟩, ⟨by omega, fun i hi => ?_⟩, ?_, fun i hi h1' => ?_⟩
    · rw [hg i hi, hd i (by omega)]; exact (a3 i hi).op
    · rw [hd _ (Nat.le_refl _), e6]
      by_cases q : sN = 0
      · rw [if_pos q, if_pos (by omega)]
      · rw [if_neg q, if_neg (by omega)]
    · rw [hg i hi] at h1' ⊢
      have := a5 i hi h1'
      rw [show decide ((sN : Int) = 2) = decide (sN = 2) by by_cases q : sN = 2 <;> simp [q] <;> omega]
      exact this
  · rw [w3 (by omega) (by omega)]; exact o4 hs
/-- a law's row in the cell v -/
def LV (S : ST) (M : MT) (c : List (Int × Int)) (cR : Nat → Int) (nc s : Nat) (v : Int) : Prop := (v = 1 ∧ ∀ k, k < nc → cR (3 * k) ≠ (s : Int)) ∨ (∃ k fN eN a : Nat, k < nc ∧ cR (3 * k) = (s : Int) ∧ cR (3 * k + 1) = (fN : Int) ∧ cR (3 * k + 2) = (eN : Int) ∧ (∀ k', k' < nc → cR (3 * k') = (s : Int) → k' = k) ∧ v = (a : Int) ∧ 91 ≤ a ∧ shp E1 S a = (2, eN - fN) ∧ live E1 S a ∧ fN < eN ∧ eN ≤ c.length ∧ eN ≤ 299 ∧ ∀ i, i < eN - fN → M a i = encF (gS c fN i))
theorem LQ.lv {S : ST} {M : MT} {c : List (Int × Int)} {cR : Nat → Int} {nc on s : Nat} (h : LQ S M c cR nc on s) : LV S M c cR nc s (M 60 (3 + s)) := by
  rcases h with ⟨_, q2, q3⟩ | ⟨_, k, fN, eN, a, q⟩
  · exact Or.inl ⟨q2, q3⟩
  · exact Or.inr ⟨k, fN, eN, a, q⟩
theorem LV.mem {S S' : ST} {M M' : MT} {c : List (Int × Int)} {cR : Nat → Int} {nc s : Nat} {v : Int} (h : LV S M c cR nc s v) (h91 : 91 ≤ S.2.1) (h1 : S.2.1 ≤ S'.2.1) (h2 : ∀ a, a < S.2.1 → S'.1 a = S.1 a) (hM : ∀ a, 91 ≤ a → a < S.2.1 → M' a = M a) : LV S' M' c cR nc s v := by
  rcases h with q | ⟨k, fN, eN, a, q2, q3, q4, q5, q6, q7, q8, q9, q10, q11, q12, q13, q14⟩
  · exact Or.inl q
  · have ha := q10.lt h91
    refine Or.inr ⟨k, fN, eN, a, q2, q3, q4, q5, q6, q7, q8, ?_, q10.mono h1, q11, q12, q13, fun i hi => by rw [hM a q8 ha]; exact q14 i hi⟩
    rw [shp_out (show E1.1 ≤ a from q8), h2 a ha, ← shp_out (S := S) (show E1.1 ≤ a from q8)]; exact q9
theorem LV.nat {S : ST} {M : MT} {c : List (Int × Int)} {cR : Nat → Int} {nc s : Nat} {v : Int} (h : LV S M c cR nc s v) : ∃ a : Nat, v = (a : Int) := by
  rcases h with ⟨q, _⟩ | ⟨k, fN, eN, a, q2, q3, q4, q5, q6, q7, _⟩
  · exact ⟨1, q⟩
  · exact ⟨a, q7⟩
theorem RWS.rq {τ : Nat → Int} {x : Nat} {c : List (Int × Int)} {cR : Nat → Int} {nc : Nat} (h : RWS τ x c cR nc) {S : ST} {M : MT} {b q : Nat} (hq : q < 3) (hv : LV S M c cR nc q (M b q)) : RQ S M (fun _ => (x : Int)) τ b q := by
  obtain ⟨h1, h2, h3, h4, h5⟩ := h
  have hcl : clauseF (fun _ => (x : Int)) τ (q : Int) = clT τ (680 * x) (q : Int) nc := by
    show (if (x : Int) < 0 then (-1 : Int) else clT τ (680 * (x : Int).toNat) (q : Int) (τ (680 * (x : Int).toNat)).toNat) = _
    rw [if_neg (by omega), Int.toNat_natCast, h2, Int.toNat_natCast]
  rcases hv with ⟨q1, q2⟩ | ⟨k, fN, eN, a, q2, q3, q4, q5, q6, q7, q8, q9, q10, q11, q12, q13, q14⟩
  · refine Or.inl ⟨?_, q1⟩
    rw [hcl, clT_no nc (fun k hk => by rw [(h3 k hk).1]; exact q2 k hk)]
    decide
  · have hk : clauseF (fun _ => (x : Int)) τ (q : Int) = (k : Int) := by
      rw [hcl]
      exact clT_uni q2 (by rw [(h3 k q2).1]; exact q3) (fun k' hk' e => q6 k' hk' (by rw [← (h3 k' hk').1]; exact e))
    obtain ⟨o1, o2, o3, o4⟩ := h5 k q2
    rw [q3, q4, q5] at o2
    obtain ⟨sN, fN', eN', e1, e2, e3, e4, ⟨a1, a2, a3, a4, a5⟩, e6⟩ := o2 (by omega)
    have u1 : sN = q := by omega
    have u2 : fN' = fN := by omega
    have u3 : eN' = eN := by omega
    subst u1; subst u2; subst u3
    obtain ⟨w1, w2, w3⟩ := h3 k q2
    have hfr : cFr τ x (k : Int) = fN' := by
      unfold cFr
      rw [Int.toNat_natCast, show 680 * x + 2 + 3 * k = 680 * x + 1 + 3 * k + 1 by omega, w2, q4, Int.toNat_natCast]
    have hto : cTo τ x (k : Int) = eN' := by
      unfold cTo
      rw [Int.toNat_natCast, show 680 * x + 3 + 3 * k = 680 * x + 1 + 3 * k + 2 by omega, w3 (by omega) (by omega), q5, Int.toNat_natCast]
    refine Or.inr ⟨a, eN' - fN', gS c fN', by rw [hk]; omega, q7, q8, q9, q10, by omega, ⟨by omega, a3, a4⟩, q14, fun nm => ?_, e6, a5⟩
    rw [hk]
    unfold evC
    rw [Int.toNat_natCast, hfr, hto]
    exact evRun_cg _ (fun i hi => code_gS h1 (by omega))
