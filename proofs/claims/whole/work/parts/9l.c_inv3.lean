/-! what a row of the reference bears from call to call -/
def SRb (B : Int) (σ : Nat → Int) : Prop := ∀ i : Nat, i < 30 → (∃ L : Nat, σ (120 + 22 * i) = (L : Int) ∧ L < 2 ^ (σ 0).toNat) ∧ (0 ≤ σ (121 + 22 * i) ∧ σ (121 + 22 * i) ≤ 10) ∧ ∀ h : Nat, h < 10 → (-B ≤ σ (122 + 22 * i + 2 * h) ∧ σ (122 + 22 * i + 2 * h) ≤ B) ∧ (-B ≤ σ (123 + 22 * i + 2 * h) ∧ σ (123 + 22 * i + 2 * h) ≤ B)
def FA (B : Int) (σ : Nat → Int) : Prop := WS σ ∧ WHb B σ ∧ WN σ ∧ (0 ≤ σ 2 ∧ σ 2 < 24) ∧ (-1 ≤ σ 5 ∧ σ 5 < σ 4) ∧ (0 ≤ σ 4 ∧ σ 4 ≤ 4) ∧ (0 ≤ σ 6 ∧ σ 6 ≤ 30) ∧ (∃ L : Nat, σ 1 = (L : Int) ∧ L < 2 ^ (σ 0).toNat) ∧ (0 ≤ σ 7 ∧ σ 7 ≤ 8) ∧ (∀ j, 100 ≤ j → j < 120 → InR (σ j)) ∧ SRb B σ
theorem SRb.mono {B C : Int} {σ : Nat → Int} (h : SRb B σ) (hB : B ≤ C) : SRb C σ := fun i hi => ⟨(h i hi).1, (h i hi).2.1, fun k hk => by have := (h i hi).2.2 k hk; omega⟩
theorem FA.mono {B C : Int} {σ : Nat → Int} (h : FA B σ) (hB : B ≤ C) : FA C σ := by
  obtain ⟨h1, h2, h3, h4, h5, h6, h7, h8, h9, h10, h11⟩ := h
  exact ⟨h1, h2.mono hB, h3, h4, h5, h6, h7, h8, h9, h10, h11.mono hB⟩
theorem WS.cg {σ σ' : Nat → Int} (h : WS σ) (e0 : σ' 0 = σ 0) (e : ∀ j, 10 ≤ j → j < 70 → σ' j = σ j) : WS σ' := ⟨by rw [e0]; exact h.1, fun s hs => by rw [e _ (by omega) (by omega), e _ (by omega) (by omega), e _ (by omega) (by omega), e _ (by omega) (by omega), e _ (by omega) (by omega)]; exact h.2 s hs⟩
theorem WHb.cg {B : Int} {σ σ' : Nat → Int} (h : WHb B σ) (e3 : σ' 3 = σ 3) (e : ∀ j, 70 ≤ j → j < 100 → σ' j = σ j) : WHb B σ' := ⟨by rw [e3]; exact h.1, fun k hk => by rw [e _ (by omega) (by omega), e _ (by omega) (by omega), e _ (by omega) (by omega)]; exact h.2 k hk⟩
theorem WN.cg {σ σ' : Nat → Int} (h : WN σ) (e3 : σ' 3 = σ 3) (e : ∀ k, k < 10 → σ' (72 + 3 * k) = σ (72 + 3 * k)) : WN σ' := fun k hk => by rw [e k hk, e3]; exact h k hk
theorem SRb.cg {B : Int} {σ σ' : Nat → Int} (h : SRb B σ) (e0 : σ' 0 = σ 0) (e : ∀ j, 120 ≤ j → j < 780 → σ' j = σ j) : SRb B σ' := fun i hi => by
  rw [e0, e (120 + 22 * i) (by omega) (by omega), e (121 + 22 * i) (by omega) (by omega)]
  exact ⟨(h i hi).1, (h i hi).2.1, fun k hk => by rw [e _ (by omega) (by omega), e _ (by omega) (by omega)]; exact (h i hi).2.2 k hk⟩
theorem FA.cg {B : Int} {σ σ' : Nat → Int} (h : FA B σ) (e : ∀ j, j < 780 → σ' j = σ j) : FA B σ' := by
  obtain ⟨h1, h2, h3, h4, h5, h6, h7, h8, h9, h10, h11⟩ := h
  refine ⟨h1.cg (e 0 (by omega)) (fun j _ _ => e j (by omega)), h2.cg (e 3 (by omega)) (fun j _ _ => e j (by omega)), h3.cg (e 3 (by omega)) (fun j _ => e _ (by omega)), by rw [e 2 (by omega)]; exact h4, by rw [e 5 (by omega), e 4 (by omega)]; exact h5, by rw [e 4 (by omega)]; exact h6, by rw [e 6 (by omega)]; exact h7, by rw [e 1 (by omega), e 0 (by omega)]; exact h8, by rw [e 7 (by omega)]; exact h9, fun j a b => by rw [e j (by omega)]; exact h10 j a b, h11.cg (e 0 (by omega)) (fun j _ b => e j b)⟩
theorem stoneA_o (σ : Nat → Int) (w h v b nd : Int) (h0 : 0 ≤ σ 0 ∧ σ 0 < 12) {j : Nat} (hj : j ≠ 0) (hj2 : j < 10 ∨ 70 ≤ j) : stoneA σ w h v b nd j = σ j := by
  unfold stoneA
  rw [up_ne _ _ hj, up_ne _ _ (by omega), up_ne _ _ (by omega), up_ne _ _ (by omega), up_ne _ _ (by omega), up_ne _ _ (by omega)]
theorem FA.stone {B : Int} {σ : Nat → Int} (H : FA B σ) {w h v b nd : Int} (ho : okStone σ w h v b nd) : FA B (stoneA σ w h v b nd) := by
  obtain ⟨h1, h2, h3, h4, h5, h6, h7, ⟨L, h8, h8'⟩, h9, h10, h11⟩ := H
  obtain ⟨o1, o2, o3, o4, o5, o6, o7⟩ := ho
  have h0 := h1.1
  have hc := cnt_le 12 b.toNat
  have e : ∀ j, j ≠ 0 → (j < 10 ∨ 70 ≤ j) → stoneA σ w h v b nd j = σ j := fun j a c => stoneA_o σ w h v b nd (by omega) a c
  have e0 : stoneA σ w h v b nd 0 = σ 0 + 1 := by unfold stoneA; rw [up_same]
  have hp : 2 ^ (σ 0).toNat ≤ 2 ^ (σ 0 + 1).toNat := Nat.pow_le_pow_right (by decide) (by omega)
  have hp4 : (2 : Nat) ^ (σ 0).toNat ≤ 2048 := Nat.pow_le_pow_right (n := 2) (j := 11) (by decide) (by omega)
  rw [p2_c] at o5
  refine ⟨⟨by omega, fun s hs => ?_⟩, h2.cg (e 3 (by omega) (by omega)) (fun j a c => e j (by omega) (by omega)), h3.cg (e 3 (by omega) (by omega)) (fun j _ => e _ (by omega) (by omega)), by rw [e 2 (by omega) (by omega)]; exact h4, by rw [e 5 (by omega) (by omega), e 4 (by omega) (by omega)]; exact h5, by rw [e 4 (by omega) (by omega)]; exact h6, by rw [e 6 (by omega) (by omega)]; exact h7, ⟨L, by rw [e 1 (by omega) (by omega)]; exact h8, by rw [e0]; omega⟩, by rw [e 7 (by omega) (by omega)]; exact h9, fun j a c => by rw [e j (by omega) (by omega)]; exact h10 j a c, fun i hi => ?_⟩
  · by_cases q : s = (σ 0).toNat
    · have hp2 : (2 : Int) ^ s = ((2 ^ (σ 0).toNat : Nat) : Int) := by rw [q, p2_c]
      rw [hp2]
      have f1 : stoneA σ w h v b nd (10 + 5 * s) = w := by unfold stoneA; rw [q, up_ne _ _ (by omega), up_ne _ _ (by omega), up_ne _ _ (by omega), up_ne _ _ (by omega), up_ne _ _ (by omega), up_same]
      have f2 : stoneA σ w h v b nd (11 + 5 * s) = h := by unfold stoneA; rw [q, up_ne _ _ (by omega), up_ne _ _ (by omega), up_ne _ _ (by omega), up_ne _ _ (by omega), up_same]
      have f3 : stoneA σ w h v b nd (12 + 5 * s) = v := by unfold stoneA; rw [q, up_ne _ _ (by omega), up_ne _ _ (by omega), up_ne _ _ (by omega), up_same]
      have f4 : stoneA σ w h v b nd (13 + 5 * s) = b := by unfold stoneA; rw [q, up_ne _ _ (by omega), up_ne _ _ (by omega), up_same]
      have f5 : stoneA σ w h v b nd (14 + 5 * s) = nd := by unfold stoneA; rw [q, up_ne _ _ (by omega), up_same]
      rw [f1, f2, f3, f4, f5]
      omega
    · have f : ∀ j, 10 + 5 * s ≤ j → j < 15 + 5 * s → stoneA σ w h v b nd j = σ j := fun j a c => by
        unfold stoneA
        rw [up_ne _ _ (by omega), up_ne _ _ (by omega), up_ne _ _ (by omega), up_ne _ _ (by omega), up_ne _ _ (by omega), up_ne _ _ (by omega)]
      rw [f _ (by omega) (by omega), f _ (by omega) (by omega), f _ (by omega) (by omega), f _ (by omega) (by omega), f _ (by omega) (by omega)]
      exact h1.2 s hs
  · obtain ⟨⟨L', u1, u2⟩, u3, u4⟩ := h11 i hi
    refine ⟨⟨L', by rw [e _ (by omega) (by omega)]; exact u1, by rw [e0]; omega⟩, by rw [e _ (by omega) (by omega)]; exact u3, fun k hk => by rw [e _ (by omega) (by omega), e _ (by omega) (by omega)]; exact u4 k hk⟩
/-- one cell of the head is set -/
theorem FA.hd {B : Int} {σ : Nat → Int} (H : FA B σ) (c : Nat) (v : Int) (hc : c = 2 ∧ (0 ≤ v ∧ v < 24) ∨ c = 5 ∧ (-1 ≤ v ∧ v < σ 4) ∨ c = 4 ∧ (σ 5 < v ∧ 0 ≤ v ∧ v ≤ 4) ∨ c = 7 ∧ v = 0 ∨ c = 1 ∧ ∃ L : Nat, v = (L : Int) ∧ L < 2 ^ (σ 0).toNat) : FA B (up σ c v) := by
  obtain ⟨h1, h2, h3, h4, h5, h6, h7, h8, h9, h10, h11⟩ := H
  have e : ∀ j, j ≠ c → up σ c v j = σ j := fun j hj => up_ne _ _ hj
  have hc7 : c = 2 ∨ c = 5 ∨ c = 4 ∨ c = 7 ∨ c = 1 := by rcases hc with q | q | q | q | q <;> omega
  have e0 : up σ c v 0 = σ 0 := e 0 (by omega)
  refine ⟨h1.cg e0 (fun j _ _ => e j (by omega)), h2.cg (e 3 (by omega)) (fun j _ _ => e j (by omega)), h3.cg (e 3 (by omega)) (fun j _ => e _ (by omega)), ?_, ?_, ?_, by rw [e 6 (by omega)]; exact h7, ?_, ?_, fun j a b => by rw [e j (by omega)]; exact h10 j a b, h11.cg e0 (fun j _ _ => e j (by omega))⟩
  · rcases hc with ⟨rfl, q⟩ | ⟨rfl, q⟩ | ⟨rfl, q⟩ | ⟨rfl, q⟩ | ⟨rfl, q⟩ <;> simp [up] <;> omega
  · rcases hc with ⟨rfl, q⟩ | ⟨rfl, q⟩ | ⟨rfl, q⟩ | ⟨rfl, q⟩ | ⟨rfl, q⟩ <;> simp [up] <;> omega
  · rcases hc with ⟨rfl, q⟩ | ⟨rfl, q⟩ | ⟨rfl, q⟩ | ⟨rfl, q⟩ | ⟨rfl, q⟩ <;> simp [up] <;> omega
  · rw [e0]
    rcases hc with ⟨rfl, q⟩ | ⟨rfl, q⟩ | ⟨rfl, q⟩ | ⟨rfl, q⟩ | ⟨rfl, q⟩
    · rw [e 1 (by omega)]; exact h8
    · rw [e 1 (by omega)]; exact h8
    · rw [e 1 (by omega)]; exact h8
    · rw [e 1 (by omega)]; exact h8
    · rw [up_same]; exact q
  · rcases hc with ⟨rfl, q⟩ | ⟨rfl, q⟩ | ⟨rfl, q⟩ | ⟨rfl, q⟩ | ⟨rfl, q⟩ <;> simp [up] <;> omega
theorem FA.house {B : Int} {σ : Nat → Int} (H : FA B σ) (hB : 99 ≤ B) {sp : Int} (hs : 0 ≤ sp ∧ sp ≤ 99) (h10' : σ 3 ≠ 10) : FA B (houseA σ sp) := by
  obtain ⟨h1, h2, h3, h4, h5, h6, h7, h8, h9, h10, h11⟩ := H
  have hh := h2.1
  have e3 : houseA σ sp 3 = σ 3 + 1 := by unfold houseA; rw [up_same]
  have e : ∀ j, j ≠ 3 → (j < 70 + 3 * (σ 3).toNat ∨ 73 + 3 * (σ 3).toNat ≤ j) → houseA σ sp j = σ j := fun j a c => by
    unfold houseA
    rw [up_ne _ _ a, up_ne _ _ (by omega), up_ne _ _ (by omega), up_ne _ _ (by omega)]
  have hp : 2 ^ (σ 3).toNat ≤ 2 ^ (σ 3 + 1).toNat := Nat.pow_le_pow_right (by decide) (by omega)
  have f1 : houseA σ sp (70 + 3 * (σ 3).toNat) = sp := by unfold houseA; rw [up_ne _ _ (by omega), up_ne _ _ (by omega), up_ne _ _ (by omega), up_same]
  have f2 : houseA σ sp (71 + 3 * (σ 3).toNat) = 0 := by unfold houseA; rw [up_ne _ _ (by omega), up_ne _ _ (by omega), up_same]
  have f3 : houseA σ sp (72 + 3 * (σ 3).toNat) = 0 := by unfold houseA; rw [up_ne _ _ (by omega), up_same]
  refine ⟨h1.cg (e 0 (by omega) (by omega)) (fun j _ _ => e j (by omega) (by omega)), ⟨by omega, fun k hk => ?_⟩, fun k hk => ?_, by rw [e 2 (by omega) (by omega)]; exact h4, by rw [e 5 (by omega) (by omega), e 4 (by omega) (by omega)]; exact h5, by rw [e 4 (by omega) (by omega)]; exact h6, by rw [e 6 (by omega) (by omega)]; exact h7, by rw [e 1 (by omega) (by omega), e 0 (by omega) (by omega)]; exact h8, by rw [e 7 (by omega) (by omega)]; exact h9, fun j a b => by rw [e j (by omega) (by omega)]; exact h10 j a b, h11.cg (e 0 (by omega) (by omega)) (fun j _ _ => e j (by omega) (by omega))⟩
  · by_cases q : k = (σ 3).toNat
    · rw [q, f1, f2, f3]; omega
    · rw [e _ (by omega) (by omega), e _ (by omega) (by omega), e _ (by omega) (by omega)]
      exact h2.2 k hk
  · rw [e3, p2_c]
    have hk3 := h3 k hk
    rw [p2_c] at hk3
    by_cases q : k = (σ 3).toNat
    · rw [q, f3]
      have := Nat.two_pow_pos (σ 3 + 1).toNat
      omega
    · rw [e _ (by omega) (by omega)]
      omega
theorem FA.touch {B : Int} {σ : Nat → Int} (H : FA B σ) {o t : Nat} (is : Bool) (ho : (o : Int) < σ 3) (ht : (t : Int) < σ 3) : FA B (touchA σ o t is) := by
  obtain ⟨h1, h2, h3, h4, h5, h6, h7, h8, h9, h10, h11⟩ := H
  have hh := h2.1
  have e : ∀ j, j ≠ 72 + 3 * o → touchA σ o t is j = σ j := fun j a => by unfold touchA; rw [up_ne _ _ a]
  have n1 := (h2.2 o (by omega)).2.2
  have n2 := h3 o (by omega)
  rw [p2_c] at n2
  have hlt : nrN σ o < 2 ^ (σ 3).toNat := by unfold nrN; omega
  have hv : (if is then nrN σ o ||| 2 ^ t else wo (nrN σ o) (2 ^ t)) < 2 ^ (σ 3).toNat := by
    cases is
    · exact Nat.lt_of_le_of_lt (wo_le _ _) hlt
    · exact Nat.or_lt_two_pow hlt (Nat.pow_lt_pow_right (by decide) (by omega))
  have hp : 2 ^ (σ 3).toNat ≤ 1024 := Nat.pow_le_pow_right (n := 2) (j := 10) (by decide) (by omega)
  have ev : touchA σ o t is (72 + 3 * o) = (((if is then nrN σ o ||| 2 ^ t else wo (nrN σ o) (2 ^ t)) : Nat) : Int) := by unfold touchA; rw [up_same]
  refine ⟨h1.cg (e 0 (by omega)) (fun j _ _ => e j (by omega)), ⟨by rw [e 3 (by omega)]; exact h2.1, fun k hk => ?_⟩, fun k hk => ?_, by rw [e 2 (by omega)]; exact h4, by rw [e 5 (by omega), e 4 (by omega)]; exact h5, by rw [e 4 (by omega)]; exact h6, by rw [e 6 (by omega)]; exact h7, by rw [e 1 (by omega), e 0 (by omega)]; exact h8, by rw [e 7 (by omega)]; exact h9, fun j a b => by rw [e j (by omega)]; exact h10 j a b, h11.cg (e 0 (by omega)) (fun j _ _ => e j (by omega))⟩
  · rw [e (70 + 3 * k) (by omega), e (71 + 3 * k) (by omega)]
    by_cases q : k = o
    · rw [q, ev]
      have := h2.2 o (by omega)
      exact ⟨this.1, this.2.1, by omega, by omega⟩
    · rw [e _ (by omega)]; exact h2.2 k hk
  · rw [e 3 (by omega)]
    by_cases q : k = o
    · rw [q, ev, p2_c]; omega
    · rw [e _ (by omega)]; exact h3 k hk
theorem stepR_b {B : Int} {σ : Nat → Int} (H : FA B σ) {ρ : Nat → Int} {x : Nat} (h0 : ρ 0 = σ 0) (hx : ∀ i, i < 22 → ρ (x + i) = stepR σ i) : (∃ L : Nat, ρ x = (L : Int) ∧ L < 2 ^ (ρ 0).toNat) ∧ (0 ≤ ρ (x + 1) ∧ ρ (x + 1) ≤ 10) ∧ ∀ h : Nat, h < 10 → (-B ≤ ρ (x + 2 + 2 * h) ∧ ρ (x + 2 + 2 * h) ≤ B) ∧ (-B ≤ ρ (x + 3 + 2 * h) ∧ ρ (x + 3 + 2 * h) ≤ B) := by
  obtain ⟨h1, h2, h3, h4, h5, h6, h7, h8, h9, h10, h11⟩ := H
  have e0 := hx 0 (by omega)
  have e1 := hx 1 (by omega)
  rw [Nat.add_zero] at e0
  refine ⟨by rw [e0, h0]; exact h8, by rw [e1]; exact h2.1, fun h hh => ?_⟩
  have a := h2.2 h hh
  have e2 := hx (2 + 2 * h) (by omega)
  have e3 := hx (3 + 2 * h) (by omega)
  rw [← Nat.add_assoc] at e2 e3
  have s2 : stepR σ (2 + 2 * h) = σ (70 + 3 * h) := by
    unfold stepR
    rw [if_neg (by omega), if_neg (by omega), if_pos (by omega)]
    congr 2; omega
  have s3 : stepR σ (3 + 2 * h) = σ (71 + 3 * h) := by
    unfold stepR
    rw [if_neg (by omega), if_neg (by omega), if_neg (by omega)]
    congr 2; omega
  rw [e2, e3, s2, s3]
  exact ⟨a.1, a.2.1⟩
theorem FA.keep {B : Int} {σ : Nat → Int} (H : FA B σ) : FA B (keepA σ) := by
  obtain ⟨h1, h2, h3, h4, h5, h6, h7, h8, h9, h10, h11⟩ := id H
  have e : ∀ j, j ≠ 6 → j < 120 → keepA σ j = σ j := fun j a b => keepA_h σ h7 j a b
  have k6 := keepA_6 σ h7
  refine ⟨h1.cg (e 0 (by omega) (by omega)) (fun j _ _ => e j (by omega) (by omega)), h2.cg (e 3 (by omega) (by omega)) (fun j _ _ => e j (by omega) (by omega)), h3.cg (e 3 (by omega) (by omega)) (fun j _ => e _ (by omega) (by omega)), by rw [e 2 (by omega) (by omega)]; exact h4, by rw [e 5 (by omega) (by omega), e 4 (by omega) (by omega)]; exact h5, by rw [e 4 (by omega) (by omega)]; exact h6, by omega, by rw [e 1 (by omega) (by omega), e 0 (by omega) (by omega)]; exact h8, by rw [e 7 (by omega) (by omega)]; exact h9, fun j a b => by rw [e j (by omega) (by omega)]; exact h10 j a b, fun i hi => ?_⟩
  by_cases q : σ 6 = 30
  · have hk1 : keep1 σ = up (shiftA σ 638) 6 29 := by unfold keep1; rw [if_pos q]
    by_cases qi : i = 29
    · subst qi
      refine stepR_b (x := 120 + 22 * 29) H (e 0 (by omega) (by omega)) (fun k hk => ?_)
      unfold keepA
      rw [hk1, up_ne _ _ (by omega), up_same]
      unfold rowT
      rw [if_pos (by omega), show 120 + 22 * 29 + k - (120 + 22 * (29 : Int).toNat) = k by omega]
      have g : ∀ j, j < 120 → j ≠ 6 → up (shiftA σ 638) 6 29 j = σ j := fun j a b => by rw [up_ne _ _ b, shiftA_lo _ _ _ (by omega)]
      unfold stepR
      split
      · exact g 1 (by omega) (by omega)
      split
      · exact g 3 (by omega) (by omega)
      split
      · exact g _ (by omega) (by omega)
      · exact g _ (by omega) (by omega)
    · have g : ∀ j, 120 + 22 * i ≤ j → j < 142 + 22 * i → keepA σ j = σ (j + 22) := fun j a b => by
        unfold keepA
        rw [hk1, up_ne _ _ (by omega), up_same]
        unfold rowT
        rw [if_neg (by omega), up_ne _ _ (by omega)]
        unfold shiftA
        rw [if_pos (by omega)]
      have hr := h11 (i + 1) (by omega)
      rw [e 0 (by omega) (by omega), g (120 + 22 * i) (by omega) (by omega), g (121 + 22 * i) (by omega) (by omega), show 120 + 22 * i + 22 = 120 + 22 * (i + 1) by omega, show 121 + 22 * i + 22 = 121 + 22 * (i + 1) by omega]
      refine ⟨hr.1, hr.2.1, fun k hk => ?_⟩
      rw [g (122 + 22 * i + 2 * k) (by omega) (by omega), g (123 + 22 * i + 2 * k) (by omega) (by omega), show 122 + 22 * i + 2 * k + 22 = 122 + 22 * (i + 1) + 2 * k by omega, show 123 + 22 * i + 2 * k + 22 = 123 + 22 * (i + 1) + 2 * k by omega]
      exact hr.2.2 k hk
  · have hk1 : keep1 σ = σ := by unfold keep1; rw [if_neg q]
    by_cases qi : i = (σ 6).toNat
    · have := stepR_b (ρ := keepA σ) (x := 120 + 22 * i) H (e 0 (by omega) (by omega)) (fun k hk => by
        unfold keepA
        rw [hk1, up_ne _ _ (by omega)]
        unfold rowT
        rw [if_pos (by omega), show 120 + 22 * i + k - (120 + 22 * (σ 6).toNat) = k by omega])
      rw [show 121 + 22 * i = 120 + 22 * i + 1 by omega]
      refine ⟨this.1, this.2.1, fun k hk => ?_⟩
      rw [show 122 + 22 * i + 2 * k = 120 + 22 * i + 2 + 2 * k by omega, show 123 + 22 * i + 2 * k = 120 + 22 * i + 3 + 2 * k by omega]
      exact this.2.2 k hk
    · have g : ∀ j, 120 + 22 * i ≤ j → j < 142 + 22 * i → keepA σ j = σ j := fun j a b => by
        unfold keepA
        rw [hk1, up_ne _ _ (by omega)]
        unfold rowT
        rw [if_neg (by omega)]
      have hr := h11 i hi
      rw [e 0 (by omega) (by omega), g (120 + 22 * i) (by omega) (by omega), g (121 + 22 * i) (by omega) (by omega)]
      exact ⟨hr.1, hr.2.1, fun k hk => by rw [g (122 + 22 * i + 2 * k) (by omega) (by omega), g (123 + 22 * i + 2 * k) (by omega) (by omega)]; exact hr.2.2 k hk⟩
theorem FA.lends {B : Int} {σ : Nat → Int} (H : FA B σ) {a b : Nat} (ha : a < 10) (hb : b < 10) : FA (B + 1) (lendsA σ a b) := by
  obtain ⟨h1, h2, h3, h4, h5, h6, h7, h8, h9, h10, h11⟩ := H
  have e : ∀ j, (j < 70 ∨ 100 ≤ j) → lendsA σ a b j = σ j := fun j hj => lendsA_o σ a b j (fun k _ => by omega) (fun k _ => by omega) ha hb
  exact ⟨h1.cg (e 0 (by omega)) (fun j _ _ => e j (by omega)), h2.lends ha hb, h3.cg (e 3 (by omega)) (fun j hj => lendsA_o σ a b _ (fun k _ => by omega) (fun k _ => by omega) ha hb), by rw [e 2 (by omega)]; exact h4, by rw [e 5 (by omega), e 4 (by omega)]; exact h5, by rw [e 4 (by omega)]; exact h6, by rw [e 6 (by omega)]; exact h7, by rw [e 1 (by omega), e 0 (by omega)]; exact h8, by rw [e 7 (by omega)]; exact h9, fun j a b => by rw [e j (by omega)]; exact h10 j a b, (h11.cg (e 0 (by omega)) (fun j _ _ => e j (by omega))).mono (by omega)⟩
theorem FA.town {B : Int} {σ : Nat → Int} (H : FA B σ) (hB : B ≤ 900000) (h30 : σ 3 ≠ 0) (x : Nat) (hx : x < 100000) (k : Nat) (hk : k ≤ 99) : FA (B + k) (townT σ x k).1 := by
  obtain ⟨h1, h2, h3, h4, h5, h6, h7, h8, h9, h10, h11⟩ := H
  have hh := h2.1
  have hw := townT_w h2 (by omega) x hx k
  have e : ∀ j, (j < 70 ∨ 100 ≤ j) → (townT σ x k).1 j = σ j := fun j hj => townT_o σ (by omega) (h2.mono hB) x hx j hj k hk
  exact ⟨h1.cg (e 0 (by omega)) (fun j _ _ => e j (by omega)), hw.1, h3.cg hw.2.1 (fun j hj => hw.2.2.2.2 j hj), by rw [e 2 (by omega)]; exact h4, by rw [e 5 (by omega), e 4 (by omega)]; exact h5, by rw [e 4 (by omega)]; exact h6, by rw [e 6 (by omega)]; exact h7, by rw [e 1 (by omega), e 0 (by omega)]; exact h8, by rw [e 7 (by omega)]; exact h9, fun j a b => by rw [e j (by omega)]; exact h10 j a b, (h11.cg (e 0 (by omega)) (fun j _ _ => e j (by omega))).mono (by omega)⟩
theorem FA.sound {B : Int} {σ : Nat → Int} (H : FA B σ) {lo hi : Int} (hl : 0 ≤ lo ∧ lo ≤ 20) (hh : 0 ≤ hi ∧ hi ≤ 20) (h8' : σ 7 ≠ 8) : FA B (soundA σ lo hi) := by
  obtain ⟨h1, h2, h3, h4, h5, h6, h7, h8, h9, h10, h11⟩ := H
  have e : ∀ j, j ≠ 7 → (j < 100 ∨ 116 ≤ j) → soundA σ lo hi j = σ j := fun j a b => by unfold soundA; rw [up_ne _ _ a, up_ne _ _ (by omega), up_ne _ _ (by omega)]
  refine ⟨h1.cg (e 0 (by omega) (by omega)) (fun j _ _ => e j (by omega) (by omega)), h2.cg (e 3 (by omega) (by omega)) (fun j _ _ => e j (by omega) (by omega)), h3.cg (e 3 (by omega) (by omega)) (fun j _ => e _ (by omega) (by omega)), by rw [e 2 (by omega) (by omega)]; exact h4, by rw [e 5 (by omega) (by omega), e 4 (by omega) (by omega)]; exact h5, by rw [e 4 (by omega) (by omega)]; exact h6, by rw [e 6 (by omega) (by omega)]; exact h7, by rw [e 1 (by omega) (by omega), e 0 (by omega) (by omega)]; exact h8, by unfold soundA; rw [up_same]; omega, fun j a b => ?_, h11.cg (e 0 (by omega) (by omega)) (fun j _ _ => e j (by omega) (by omega))⟩
  unfold soundA
  rw [up_ne _ _ (by omega)]
  by_cases q : j = 101 + 2 * (σ 7).toNat
  · rw [q, up_same]; exact ⟨by omega, by omega⟩
  · rw [up_ne _ _ q]
    by_cases q2 : j = 100 + 2 * (σ 7).toNat
    · rw [q2, up_same]; exact ⟨by omega, by omega⟩
    · rw [up_ne _ _ q2]; exact h10 j a b
theorem undoA_o {σ : Nat → Int} (h6 : 0 ≤ σ 6 ∧ σ 6 ≤ 30) (hr : ∀ i : Nat, i < 30 → 0 ≤ σ (121 + 22 * i) ∧ σ (121 + 22 * i) ≤ 10) (h0 : σ 6 ≠ 0) {j : Nat} (hj : j < 70 ∨ 100 ≤ j) (h1 : j ≠ 1) (h2 : j ≠ 6) : undoA σ j = σ j := by
  have := hr (σ 6 - 1).toNat (by omega)
  unfold undoA
  rw [undoT_lo _ _ _ _ (by omega)]
  unfold undo1
  rw [up_ne _ _ h1, up_ne _ _ h2]
theorem FA.undo {B : Int} {σ : Nat → Int} (H : FA B σ) (h0 : σ 6 ≠ 0) : FA B (undoA σ) := by
  obtain ⟨h1, h2, h3, h4, h5, h6, h7, h8, h9, h10, h11⟩ := H
  have e : ∀ j, (j < 70 ∨ 100 ≤ j) → j ≠ 1 → j ≠ 6 → undoA σ j = σ j := fun j a b c => undoA_o h7 (fun i hi => (h11 i hi).2.1) h0 a b c
  have hrow := h11 (σ 6 - 1).toNat (by omega)
  have e72 : ∀ k, k < 10 → undoA σ (72 + 3 * k) = σ (72 + 3 * k) := fun k hk => by
    unfold undoA undoT
    rw [if_neg (by omega)]
    unfold undo1
    rw [up_ne _ _ (by omega), up_ne _ _ (by omega)]
  have hu : ∀ j, 7 ≤ j → undo1 σ j = σ j := fun j hj => by unfold undo1; rw [up_ne _ _ (by omega), up_ne _ _ (by omega)]
  refine ⟨h1.cg (e 0 (by omega) (by omega) (by omega)) (fun j _ _ => e j (by omega) (by omega) (by omega)), ⟨by rw [e 3 (by omega) (by omega) (by omega)]; exact h2.1, fun k hk => ?_⟩, h3.cg (e 3 (by omega) (by omega) (by omega)) e72, by rw [e 2 (by omega) (by omega) (by omega)]; exact h4, by rw [e 5 (by omega) (by omega) (by omega), e 4 (by omega) (by omega) (by omega)]; exact h5, by rw [e 4 (by omega) (by omega) (by omega)]; exact h6, ?_, ?_, by rw [e 7 (by omega) (by omega) (by omega)]; exact h9, fun j a b => by rw [e j (by omega) (by omega) (by omega)]; exact h10 j a b, h11.cg (e 0 (by omega) (by omega) (by omega)) (fun j _ _ => e j (by omega) (by omega) (by omega))⟩
  · have h2k := h2.2 k hk
    have hrk := hrow.2.2 k hk
    rw [e72 k hk]
    have g0 : undoA σ (70 + 3 * k) = σ (122 + 22 * (σ 6 - 1).toNat + 2 * k) ∨ undoA σ (70 + 3 * k) = σ (70 + 3 * k) := by
      unfold undoA undoT
      split
      · left
        rw [if_pos (by omega), hu _ (by omega)]
        congr 1; omega
      · right; exact hu _ (by omega)
    have g1 : undoA σ (71 + 3 * k) = σ (123 + 22 * (σ 6 - 1).toNat + 2 * k) ∨ undoA σ (71 + 3 * k) = σ (71 + 3 * k) := by
      unfold undoA undoT
      split
      · left
        rw [if_neg (by omega), hu _ (by omega)]
        congr 1; omega
      · right; exact hu _ (by omega)
    refine ⟨?_, ?_, h2k.2.2⟩
    · rcases g0 with q | q <;> rw [q]
      · exact hrk.1
      · exact h2k.1
    · rcases g1 with q | q <;> rw [q]
      · exact hrk.2
      · exact h2k.2.1
  · have : undoA σ 6 = σ 6 - 1 := by
      unfold undoA
      rw [undoT_lo _ _ _ _ (by omega)]
      unfold undo1
      rw [up_ne _ _ (by omega), up_same]
    omega
  · rw [e 0 (by omega) (by omega) (by omega)]
    have : undoA σ 1 = σ (120 + 22 * (σ 6 - 1).toNat) := by
      unfold undoA
      rw [undoT_lo _ _ _ _ (by omega)]
      unfold undo1
      rw [up_same]
    rw [this]; exact hrow.1
theorem FA.lay {B : Int} {σ : Nat → Int} (H : FA B σ) {s : Nat} (hs : (s : Int) < σ 0) : FA B (layA σ s) := by
  obtain ⟨L, h8, h8'⟩ := H.2.2.2.2.2.2.2.1
  have e0 : keepA σ 0 = σ 0 := keepA_h σ H.2.2.2.2.2.2.1 0 (by omega) (by omega)
  refine H.keep.hd 1 _ (Or.inr (Or.inr (Or.inr (Or.inr ⟨rfl, _, rfl, ?_⟩))))
  rw [e0, h8, Int.toNat_natCast]
  exact or_lt h8' (by omega)
theorem FA.out {B : Int} {σ : Nat → Int} (H : FA B σ) {L : Nat} (hL : σ 1 = (L : Int)) (w : Nat) : FA B (up (keepA σ) 1 ((wo L w : Nat) : Int)) := by
  obtain ⟨L', h8, h8'⟩ := H.2.2.2.2.2.2.2.1
  have e0 : keepA σ 0 = σ 0 := keepA_h σ H.2.2.2.2.2.2.1 0 (by omega) (by omega)
  refine H.keep.hd 1 _ (Or.inr (Or.inr (Or.inr (Or.inr ⟨rfl, _, rfl, ?_⟩))))
  rw [e0]
  exact wo_ltn (by omega)
theorem FA.play {B : Int} {σ τ : Nat → Int} (h : FA B σ) {x : Nat} (ho : plOk σ τ x) : FA (B + 1) (plA σ τ x) := by
  have h2 := h.2.1.1
  unfold plOk at ho
  unfold plA
  by_cases h3 : τ x = 3
  · rw [if_pos h3] at ho ⊢
    exact (h.lay (by have := ho.1; omega)).mono (by omega)
  · rw [if_neg h3] at ho ⊢
    by_cases h4 : τ x = 4
    · rw [if_pos h4] at ho ⊢
      obtain ⟨L, h8, _⟩ := h.2.2.2.2.2.2.2.1
      exact (h.out (L := (σ 1).toNat) (by omega) _).mono (by omega)
    · rw [if_neg h4] at ho ⊢
      by_cases h5 : τ x = 5
      · rw [if_pos h5] at ho ⊢
        exact h.keep.lends (by have := ho.1; omega) (by have := ho.2.1; omega)
      · rw [if_neg h5]; exact h.mono (by omega)
theorem FA.pls {B : Int} {σ τ : Nat → Int} (h : FA B σ) (t : Nat) : ∀ k : Nat, FA (B + k) (plT σ τ t k).1 := by
  intro k
  induction k with
  | zero => exact h.mono (by omega)
  | succ k ih =>
    unfold plT
    split
    · exact ih.mono (by omega)
    split
    · rename_i q
      have := ih.play (pB_iff.mp q)
      exact this.mono (by omega)
    · exact ih.mono (by omega)
