/-! what the plan knows hangs on the stones, the hour and the text that rules -/
def Ag (σ τ σ' τ' : Nat → Int) : Prop := σ' 0 = σ 0 ∧ σ' 2 = σ 2 ∧ σ' 5 = σ 5 ∧ (∀ j, 10 ≤ j → j < 70 → σ' j = σ j) ∧ (0 ≤ σ 5 → ∀ j, j < 680 → τ' (680 * (σ 5).toNat + j) = τ (680 * (σ 5).toNat + j))
theorem clT_cg {τ τ' : Nat → Int} {b : Nat} {s : Int} : ∀ n, (∀ k, k < n → τ' (b + 1 + 3 * k) = τ (b + 1 + 3 * k)) → clT τ' b s n = clT τ b s n := by
  intro n
  induction n with
  | zero => intro _; rfl
  | succ n ih => intro h; unfold clT; rw [ih (fun k hk => h k (by omega)), h n (by omega)]
theorem cl_cg {σ τ σ' τ' : Nat → Int} (h5 : σ' 5 = σ 5) (ht : 0 ≤ σ 5 → ∀ j, j < 680 → τ' (680 * (σ 5).toNat + j) = τ (680 * (σ 5).toNat + j)) (hWT : 0 ≤ σ 5 → WT τ (σ 5).toNat) (s : Int) : clauseF σ' τ' s = clauseF σ τ s := by
  unfold clauseF
  rw [h5]
  by_cases q : σ 5 < 0
  · rw [if_pos q, if_pos q]
  · rw [if_neg q, if_neg q]
    have hW := hWT (by omega)
    have e0 := ht (by omega) 0 (by omega)
    rw [Nat.add_zero] at e0
    rw [e0]
    have := hW.1
    exact clT_cg _ (fun k hk => by rw [Nat.add_assoc]; exact ht (by omega) _ (by omega))
theorem ev_cg {σ τ σ' τ' : Nat → Int} (h5 : σ' 5 = σ 5) (ht : 0 ≤ σ 5 → ∀ j, j < 680 → τ' (680 * (σ 5).toNat + j) = τ (680 * (σ 5).toNat + j)) (hWT : 0 ≤ σ 5 → WT τ (σ 5).toNat) (nm : Nat → Int) {s : Int} (hs : 0 ≤ s ∧ s ≤ 2) (hc : ¬ clauseF σ τ s < 0) : evC σ' τ' nm (clauseF σ τ s) = evC σ τ nm (clauseF σ τ s) := by
  have q5 : ¬ σ 5 < 0 := fun q => by unfold clauseF at hc; rw [if_pos q] at hc; omega
  have hW := hWT (by omega)
  have hk : clauseF σ τ s = clT τ (680 * (σ 5).toNat) s (τ (680 * (σ 5).toNat)).toNat := by unfold clauseF; rw [if_neg q5]
  rcases clT_r τ (680 * (σ 5).toNat) s (τ (680 * (σ 5).toNat)).toNat with u | ⟨u1, u2, u3⟩
  · omega
  rw [← hk] at u1 u2 u3
  obtain ⟨k, ek⟩ : ∃ k : Nat, clauseF σ τ s = (k : Int) := ⟨(clauseF σ τ s).toNat, by omega⟩
  rw [ek] at u2 u3 ⊢
  rw [Int.toNat_natCast] at u3
  have hw0 := hW.1
  obtain ⟨w1, w2, -⟩ := hW.2 k (by omega)
  obtain ⟨⟨w3, w4, w5⟩, -⟩ := w2 (by omega)
  unfold evC cFr cTo
  rw [h5, Int.toNat_natCast]
  have e2 : τ' (680 * (σ 5).toNat + 2 + 3 * k) = τ (680 * (σ 5).toNat + 2 + 3 * k) := by rw [Nat.add_assoc]; exact ht (by omega) _ (by omega)
  have e3 : τ' (680 * (σ 5).toNat + 3 + 3 * k) = τ (680 * (σ 5).toNat + 3 + 3 * k) := by rw [Nat.add_assoc]; exact ht (by omega) _ (by omega)
  rw [e2, e3]
  refine evRun_cg _ (fun i hi => ?_)
  unfold codeF
  rw [show 680 * (σ 5).toNat + 75 + 2 * ((τ (680 * (σ 5).toNat + 2 + 3 * k)).toNat + i) = 680 * (σ 5).toNat + (75 + 2 * ((τ (680 * (σ 5).toNat + 2 + 3 * k)).toNat + i)) by omega, show 680 * (σ 5).toNat + 76 + 2 * ((τ (680 * (σ 5).toNat + 2 + 3 * k)).toNat + i) = 680 * (σ 5).toNat + (76 + 2 * ((τ (680 * (σ 5).toNat + 2 + 3 * k)).toNat + i)) by omega, ht (by omega) _ (by omega), ht (by omega) _ (by omega)]
theorem Ag.cl {σ τ σ' τ' : Nat → Int} (h : Ag σ τ σ' τ') (hL : LW σ τ) (s : Int) : clauseF σ' τ' s = clauseF σ τ s := cl_cg h.2.2.1 h.2.2.2.2 hL.2.2.2 s
theorem Ag.ev {σ τ σ' τ' : Nat → Int} (h : Ag σ τ σ' τ') (hL : LW σ τ) (nm : Nat → Int) {s : Int} (hs : 0 ≤ s ∧ s ≤ 2) (hc : ¬ clauseF σ τ s < 0) : evC σ' τ' nm (clauseF σ τ s) = evC σ τ nm (clauseF σ τ s) := ev_cg h.2.2.1 h.2.2.2.2 hL.2.2.2 nm hs hc
theorem Ag.nm {σ τ σ' τ' : Nat → Int} (h : Ag σ τ σ' τ') {s : Nat} (hs : s < 12) (laid : Nat) (top : Int) : nmL σ' s laid top = nmL σ s laid top := by
  obtain ⟨h0, h2, h5, hj, ht⟩ := h
  funext j
  by_cases q : j < 4
  · have e1 : ∀ ρ : Nat → Int, nmL ρ s laid top j = nameA (fun _ => 0) ρ s 3 j := fun ρ => by unfold nmL; rw [if_pos q]
    rw [e1, e1]
    unfold nameA
    by_cases q0 : j = 0
    · rw [if_pos q0, if_pos q0]
    · rw [if_neg q0, if_neg q0, if_pos (by omega), if_pos (by omega), hj _ (by omega) (by omega)]
  · unfold nmL
    rw [h2, if_neg q, if_neg q]
theorem Ag.ll1 {σ τ σ' τ' : Nat → Int} (h : Ag σ τ σ' τ') (hL : LW σ τ) {s : Nat} (hs : s < 12) (laid : Nat) (top : Int) : liftL σ' τ' s laid top = liftL σ τ s laid top := by
  unfold liftL
  rw [h.cl hL, h.nm hs, h.2.2.2.1 (10 + 5 * s) (by omega) (by omega), h.2.2.2.1 (11 + 5 * s) (by omega) (by omega)]
  by_cases q : clauseF σ τ 0 < 0
  · rw [if_pos q, if_pos q]
  · rw [if_neg q, if_neg q, h.ev hL _ (by decide) q]
theorem Ag.lt1 {σ τ σ' τ' : Nat → Int} (h : Ag σ τ σ' τ') (hL : LW σ τ) {s : Nat} (hs : s < 12) (laid : Nat) (top : Int) : letL σ' τ' s laid top = letL σ τ s laid top := by
  unfold letL
  rw [h.cl hL, h.nm hs]
  by_cases q : clauseF σ τ 1 < 0
  · rw [decide_eq_true q]; rfl
  · rw [h.ev hL _ (by decide) q]
theorem Ag.lv {σ τ σ' τ' : Nat → Int} (h : Ag σ τ σ' τ') (hL : LW σ τ) {s : Nat} (hs : s < 12) (laid : Nat) (top : Int) : lvF σ' τ' s laid top = lvF σ τ s laid top := by
  unfold lvF
  rw [h.lt1 hL hs, h.ll1 hL hs]
theorem Ag.tp1 {σ τ σ' τ' : Nat → Int} (h : Ag σ τ σ' τ') (set : Nat) : ∀ k, k ≤ 12 → topT σ' set k = topT σ set k := by
  intro k
  induction k with
  | zero => intro _; rfl
  | succ k ih => intro hk; unfold topT; rw [ih (by omega), h.2.2.2.1 (11 + 5 * k) (by omega) (by omega)]
theorem Ag.lf1 {σ τ σ' τ' : Nat → Int} (h : Ag σ τ σ' τ') (hL : LW σ τ) {s : Nat} (hs : s < 12) (set : Nat) : liftF σ' τ' s set = liftF σ τ s set := by
  have h0 := hL.1.1
  rw [liftF_L, liftF_L, h.1, h.tp1 set _ (by omega), h.ll1 hL hs]
theorem Ag.my1 {σ τ σ' τ' : Nat → Int} (h : Ag σ τ σ' τ') (hL : LW σ τ) {s : Nat} (hs : s < 12) (set : Nat) : mayF σ' τ' s set = mayF σ τ s set := by
  have h0 := hL.1.1
  rw [mayF_L, mayF_L, h.1, h.tp1 set _ (by omega), h.lt1 hL hs]
  unfold borneB brN
  rw [h.2.2.2.1 (14 + 5 * s) (by omega) (by omega), h.2.2.2.1 (13 + 5 * s) (by omega) (by omega)]
theorem cmK_cg {σ τ σ' τ' : Nat → Int} (hm : ∀ s, s < 12 → ∀ set, mayF σ' τ' s set = mayF σ τ s set) (set : Nat) (C : Nat → Int) : ∀ s, s ≤ 12 → cmK σ' τ' set C s = cmK σ τ set C s := by
  intro s
  induction s with
  | zero => intro _; rfl
  | succ s ih => intro hs; unfold cmK; rw [ih (by omega), hm s (by omega)]
theorem cmT_cg {σ τ σ' τ' : Nat → Int} (hm : ∀ s, s < 12 → ∀ set, mayF σ' τ' s set = mayF σ τ s set) {n : Nat} (hn : n ≤ 12) (C : Nat → Int) : ∀ k, cmT σ' τ' n C k = cmT σ τ n C k := by
  intro k
  induction k with
  | zero => rfl
  | succ k ih => unfold cmT; rw [ih, cmK_cg hm _ _ n hn]
theorem soT_cg {σ τ σ' τ' : Nat → Int} (hm : ∀ s, s < 12 → ∀ set, mayF σ' τ' s set = mayF σ τ s set) {n : Nat} (hn : n ≤ 12) (C : Nat → Int) : ∀ k, soT σ' τ' n C k = soT σ τ n C k := by
  intro k
  induction k with
  | zero => rfl
  | succ k ih => unfold soT; rw [ih, cmT_cg hm hn]
theorem lvK_cg {σ τ σ' τ' : Nat → Int} (hm : ∀ s, s < 12 → ∀ set, mayF σ' τ' s set = mayF σ τ s set) (hl : ∀ s, s < 12 → ∀ set, liftF σ' τ' s set = liftF σ τ s set) (so : Nat) (C Lf : Nat → Int) (set : Nat) : ∀ s, s ≤ 12 → lvK σ' τ' so C Lf set s = lvK σ τ so C Lf set s := by
  intro s
  induction s with
  | zero => intro _; rfl
  | succ s ih => intro hs; unfold lvK; rw [ih (by omega), hm s (by omega), hl s (by omega)]
theorem lfD_cg {σ τ σ' τ' : Nat → Int} (hm : ∀ s, s < 12 → ∀ set, mayF σ' τ' s set = mayF σ τ s set) (hl : ∀ s, s < 12 → ∀ set, liftF σ' τ' s set = liftF σ τ s set) {n : Nat} (hn : n ≤ 12) (so : Nat) (C Lf : Nat → Int) : ∀ d, lfD σ' τ' n so C Lf d = lfD σ τ n so C Lf d := by
  intro d
  induction d with
  | zero => rfl
  | succ d ih => unfold lfD; rw [ih]; unfold lvV; rw [lvK_cg hm hl _ _ _ _ n hn, lvK_cg hm hl _ _ _ _ 0 (by omega)]
theorem nsF_cg {σ τ σ' τ' : Nat → Int} (hm : ∀ s, s < 12 → ∀ set, mayF σ' τ' s set = mayF σ τ s set) (hl : ∀ s, s < 12 → ∀ set, liftF σ' τ' s set = liftF σ τ s set) (so : Nat) (Lf : Nat → Int) (set : Nat) : ∀ d s, d + s ≤ 12 → nsF σ' τ' so Lf set d s = nsF σ τ so Lf set d s := by
  intro d
  induction d with
  | zero => intro s _; rfl
  | succ d ih => intro s hs; unfold nsF; rw [ih (s + 1) (by omega), hm s (by omega), hl s (by omega)]
theorem ptS_cg {σ τ σ' τ' : Nat → Int} (hm : ∀ s, s < 12 → ∀ set, mayF σ' τ' s set = mayF σ τ s set) (hl : ∀ s, s < 12 → ∀ set, liftF σ' τ' s set = liftF σ τ s set) (so : Nat) (Lf : Nat → Int) : ∀ k, ptS σ' τ' so Lf k = ptS σ τ so Lf k := by
  intro k
  induction k with
  | zero => rfl
  | succ k ih => unfold ptS; rw [ih, nsF_cg hm hl _ _ _ 12 0 (by omega)]
theorem wyK_cg {ok ok' : Nat → Nat → Bool} (ho : ∀ s, s < 12 → ∀ set, ok' s set = ok s set) (set : Nat) (W : Nat → Int) : ∀ s, s ≤ 12 → wyK ok' set W s = wyK ok set W s := by
  intro s
  induction s with
  | zero => intro _; rfl
  | succ s ih => intro hs; unfold wyK; rw [ih (by omega), ho s (by omega)]
theorem wyT_cg {ok ok' : Nat → Nat → Bool} (ho : ∀ s, s < 12 → ∀ set, ok' s set = ok s set) {n : Nat} (hn : n ≤ 12) (most : Nat) (W : Nat → Int) : ∀ k, wyT ok' n most W k = wyT ok n most W k := by
  intro k
  induction k with
  | zero => rfl
  | succ k ih => unfold wyT; rw [ih, wyK_cg ho _ _ n hn]
theorem PKV.cg {M : MT} {σ τ σ' τ' : Nat → Int} (h : PKV M σ τ) (hA : Ag σ τ σ' τ') (hL : LW σ τ) : PKV M σ' τ' := by
  obtain ⟨h1, h2⟩ := h
  refine ⟨h1, h2.imp id (fun ⟨a, b, c⟩ => ⟨a, fun s ld tp hs hld htp => ?_, ?_⟩)⟩
  · rw [hA.lv hL hs]; exact b s ld tp hs hld htp
  · have h0 := hL.1.1
    have hN : (σ 0).toNat ≤ 12 := by omega
    have hm : ∀ s, s < 12 → ∀ set, mayF σ' τ' s set = mayF σ τ s set := fun s hs set => hA.my1 hL hs set
    have hl : ∀ s, s < 12 → ∀ set, liftF σ' τ' s set = liftF σ τ s set := fun s hs set => hA.lf1 hL hs set
    rw [hA.1]
    have eso : so0 σ' τ' (σ 0).toNat = so0 σ τ (σ 0).toNat := by unfold so0; exact soT_cg hm hN _ _
    have ecm : cm00 σ' τ' (σ 0).toNat = cm00 σ τ (σ 0).toNat := by unfold cm00; exact cmT_cg hm hN _ _
    have elf : Lf0 σ' τ' (σ 0).toNat = Lf0 σ τ (σ 0).toNat := by unfold Lf0; rw [eso, ecm]; exact lfD_cg hm hl hN _ _ _ _
    have eor : ordF σ' τ' (σ 0).toNat (fun _ => 0) = ordF σ τ (σ 0).toNat (fun _ => 0) := by
      unfold ordF
      rw [wyT_cg (ok' := okW σ' τ' false) (ok := okW σ τ false) (fun s hs set => by unfold okW; rw [hm s hs]; rfl) hN]
    unfold PV at c ⊢
    rw [eso, elf, eor]
    obtain ⟨c1, c2, c3, c4⟩ := c
    exact ⟨c1, c2, c3, fun k hk => by rw [ptS_cg hm hl, nsF_cg hm hl _ _ _ 12 0 (by omega)]; exact c4 k hk⟩
theorem PKV.mem {M M' : MT} {σ τ : Nat → Int} (h : PKV M σ τ) (h67 : ∀ j, 4 ≤ j → M' 67 j = M 67 j) (h68 : M' 68 = M 68) (h70 : M' 70 = M 70) (h72 : M' 72 = M 72) : PKV M' σ τ := by
  unfold PKV VB LC PV at *
  rw [h67 4 (by omega), h67 5 (by omega), h67 6 (by omega), h67 7 (by omega), h68, h70, h72]
  exact h
theorem PKV.no {M M' : MT} {σ τ σ' τ' : Nat → Int} (h : PKV M σ τ) (h67 : M' 67 4 = 0) (h72 : M' 72 = M 72) : PKV M' σ' τ' := ⟨by unfold VB at *; rw [h72]; exact h.1, Or.inl h67⟩
