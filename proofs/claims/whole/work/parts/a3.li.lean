/-! what holds between two calls of the law -/
def TXI (S : ST) (M : MT) (τ : Nat → Int) (ra : Nat) (n : Int) : Prop := ∀ x : Nat, (x : Int) < n → WT τ x ∧ ∃ b : Nat, M ra x = (b : Int) ∧ TXS S M τ x b ∧ ∀ q, q < 3 → RQ S M (fun _ => (x : Int)) τ b q
def CK (M : MT) (κ : Nat → Int) : Prop := SR 37 38 39 40 41 42 M κ ∧ HR 43 44 45 46 M κ ∧ NR 48 49 50 M κ ∧ GR 51 52 M κ ∧ FD 36 M κ
def FT (M : MT) : Prop := (M 16 7 = 0 ∧ M 77 5 = -1 ∧ M 77 6 = -1) ∨ (M 16 7 = 1 ∧ M 16 8 = M 77 5 ∧ M 16 9 = M 77 6)
def Bi (i : Nat) : Int := 99 + 100 * (i : Int)
def LI (i : Nat) (S : ST) (M : MT) : Prop := 91 ≤ S.2.1 ∧ CN M (M 78) ∧ CK M (M 79) ∧ FA (Bi i) (M 78) ∧ FA (Bi i) (M 79) ∧ M 79 4 ≤ M 78 4 ∧ TXI S M (M 80) 35 (M 78 4) ∧ TXI S M (M 80) 54 (M 79 4) ∧ TI S M 35 ∧ TI S M 54 ∧ (∃ t : Nat, M 77 4 = (t : Int) ∧ t ≤ 300 ∧ TB M (M 81) t) ∧ FT M ∧ PKV M (M 78) (M 80) ∧ VB 65 M ∧ NB M ∧ (M 34 0 = 1 ∧ M 34 1 = 1 ∧ M 34 2 = 1)
theorem TXI.mem {S : ST} {M M' : MT} {τ : Nat → Int} {ra : Nat} {n : Int} (h : TXI S M τ ra n) (e : ∀ a, a = ra ∨ 91 ≤ a → M' a = M a) : TXI S M' τ ra n := fun x hx => by
  obtain ⟨h1, b, h2, h3, h4⟩ := h x hx
  exact ⟨h1, b, by rw [e ra (Or.inl rfl)]; exact h2, h3.mem (fun a ha => e a (Or.inr ha)), fun q hq => (h4 q hq).mem (fun a ha => e a (Or.inr (by have := h3.2.2.1; omega)))⟩
theorem TI.mem {S : ST} {M M' : MT} {ra : Nat} (h : TI S M ra) (e : M' ra = M ra) : TI S M' ra := fun i hi => by rw [e]; exact h i hi
theorem VBm {va : Nat} {M M' : MT} (h : VB va M) (e : M' va = M va) : VB va M' := fun j hj => by rw [e]; exact h j hj
theorem NBm {M M' : MT} (h : NB M) (e : M' 83 = M 83) : NB M' := fun j hj => by rw [e]; exact h j hj
theorem FDm {a : Nat} {M M' : MT} {σ : Nat → Int} (h : FD a M σ) (e : M' a = M a) : FD a M' σ := by unfold FD; rw [e]; exact h
theorem FDs {a : Nat} {M : MT} {σ τ : Nat → Int} (h : FD a M σ) (e : ∀ j, j = 1 ∨ j = 2 ∨ j = 4 ∨ j = 5 → τ j = σ j) : FD a M τ := by unfold FD; rw [e 1 (by omega), e 2 (by omega), e 4 (by omega), e 5 (by omega)]; exact h
theorem CK.mem {M M' : MT} {κ : Nat → Int} (h : CK M κ) (e : ∀ a, (36 ≤ a ∧ a ≤ 46) ∨ (48 ≤ a ∧ a ≤ 52) → M' a = M a) : CK M' κ := by
  unfold CK SR HR NR GR FD
  rw [e 36 (by omega), e 37 (by omega), e 38 (by omega), e 39 (by omega), e 40 (by omega), e 41 (by omega), e 42 (by omega), e 43 (by omega), e 44 (by omega), e 45 (by omega), e 46 (by omega), e 48 (by omega), e 49 (by omega), e 50 (by omega), e 51 (by omega), e 52 (by omega)]
  exact h
theorem Bi_s (i : Nat) : Bi i + 100 = Bi (i + 1) := by unfold Bi; omega
/-- a call that writes the row now, and nothing of what was read or kept -/
theorem LI.u {i : Nat} {S : ST} {M M2 : MT} {σ' : Nat → Int} (h : LI i S M) (e' : M2 78 = σ') (hC : CN M2 σ') (hF : FA (Bi (i + 1)) σ') (h4 : σ' 4 = M 78 4) (hP : PKV M2 σ' (M 80)) (hV : VB 65 M2) (hN : NB M2) (hM : ∀ a, (a = 16 ∨ (34 ≤ a ∧ a ≤ 46) ∨ (48 ≤ a ∧ a ≤ 56) ∨ (79 ≤ a ∧ a ≤ 81) ∨ 91 ≤ a) → M2 a = M a) (h77 : ∀ j, 4 ≤ j → j ≤ 6 → M2 77 j = M 77 j) : LI (i + 1) S M2 := by
  obtain ⟨h91, -, hK, -, hFk, h44, hT, hTk, hI, hIk, ⟨t, ht4, ht, hTB⟩, hFT, -, -, -, h34⟩ := h
  subst e'
  have e79 : M2 79 = M 79 := hM 79 (by omega)
  have e80 : M2 80 = M 80 := hM 80 (by omega)
  have e81 : M2 81 = M 81 := hM 81 (by omega)
  refine ⟨h91, hC, by rw [e79]; exact hK.mem (fun a ha => hM a (by omega)), hF, by rw [e79]; exact hFk.mono (by rw [← Bi_s]; omega), by rw [e79, h4]; exact h44, by rw [e80, h4]; exact hT.mem (fun a ha => hM a (by omega)), by rw [e80, e79]; exact hTk.mem (fun a ha => hM a (by omega)), hI.mem (hM 35 (by omega)), hIk.mem (hM 54 (by omega)), ⟨t, by rw [h77 4 (by omega) (by omega)]; exact ht4, ht, by rw [e81]; exact hTB.mem (by rw [hM 55 (by omega)]) (hM 56 (by omega))⟩, ?_, by rw [e80]; exact hP, hV, hN, by rw [hM 34 (by omega)]; exact h34⟩
  unfold FT
  rw [hM 16 (by omega), h77 5 (by omega) (by omega), h77 6 (by omega) (by omega)]
  exact hFT
/-- a call that only asks -/
theorem LI.q {i : Nat} {S : ST} {M M2 : MT} (h : LI i S M) (hP : PKV M2 (M 78) (M 80)) (hV : VB 65 M2) (hN : NB M2) (hM : ∀ a, (a = 16 ∨ (17 ≤ a ∧ a ≤ 33 ∧ a ≠ 28) ∨ (34 ≤ a ∧ a ≤ 46) ∨ (48 ≤ a ∧ a ≤ 56) ∨ (78 ≤ a ∧ a ≤ 81) ∨ 91 ≤ a) → M2 a = M a) (h77 : ∀ j, 4 ≤ j → j ≤ 6 → M2 77 j = M 77 j) : LI (i + 1) S M2 :=
  h.u (hM 78 (by omega)) (h.2.1.mem (fun a h1 h2 h3 => hM a (by omega))) (h.2.2.2.1.mono (by rw [← Bi_s]; omega)) rfl hP hV hN (fun a ha => hM a (by omega)) h77
theorem LI.id {i : Nat} {S : ST} {M : MT} (h : LI i S M) : LI (i + 1) S M := h.q h.2.2.2.2.2.2.2.2.2.2.2.2.1 h.2.2.2.2.2.2.2.2.2.2.2.2.2.1 h.2.2.2.2.2.2.2.2.2.2.2.2.2.2.1 (fun _ _ => rfl) (fun _ _ _ => rfl)
theorem RQ.sg {S : ST} {M : MT} {ρ σ τ : Nat → Int} {b q : Nat} (h : RQ S M ρ τ b q) (e5 : σ 5 = ρ 5) : RQ S M σ τ b q := by
  have ec : ∀ q, clauseF σ τ q = clauseF ρ τ q := fun q => by unfold clauseF; rw [e5]
  have ev : ∀ nm k, evC σ τ nm k = evC ρ τ nm k := fun nm k => by unfold evC; rw [e5]
  unfold RQ at h ⊢
  rw [ec]
  rcases h with q1 | ⟨a, len, c, h1, h2, h3, h4, h5, h6, h7, h8, h9, h10⟩
  · exact Or.inl q1
  · exact Or.inr ⟨a, len, c, h1, h2, h3, h4, h5, h6, h7, h8, fun nm => by rw [ev]; exact h9 nm, h10⟩
theorem LI.rb {i : Nat} {S : ST} {M : MT} (h : LI i S M) : ∃ b, RB S M (M 78) (M 80) b ∧ (b = 34 ∨ 91 ≤ b) := by
  obtain ⟨h91, hC, hK, hF, hFk, h44, hT, hTk, hI, hIk, hTB, hFT, hP, hV, hN, h34⟩ := h
  obtain ⟨-, -, -, -, h5, h4, -⟩ := hF
  by_cases q : M 78 5 < 0
  · have hc : ∀ s, clauseF (M 78) (M 80) s < 0 := fun s => by unfold clauseF; rw [if_pos q]; decide
    exact ⟨34, ⟨rfl, liS rfl, Or.inl ⟨q, rfl⟩, Or.inl ⟨hc _, h34.1⟩, Or.inl ⟨hc _, h34.2.1⟩, Or.inl ⟨hc _, h34.2.2⟩⟩, Or.inl rfl⟩
  · obtain ⟨x, hx⟩ : ∃ x : Nat, M 78 5 = (x : Int) := ⟨(M 78 5).toNat, by omega⟩
    obtain ⟨h1, b, h2, h3, hq⟩ := hT x (by omega)
    have e : ∀ q, q < 3 → RQ S M (M 78) (M 80) b q := fun q hq' => (hq q hq').sg hx
    exact ⟨b, ⟨h3.1, h3.2.1, Or.inr ⟨by omega, h5.2, h4.2, by rw [hx, Int.toNat_natCast]; exact h2⟩, e 0 (by decide), e 1 (by decide), e 2 (by decide)⟩, Or.inr h3.2.2.1⟩
theorem LI.lw {i : Nat} {S : ST} {M : MT} (h : LI i S M) : LW (M 78) (M 80) := by
  obtain ⟨h91, hC, hK, hF, hFk, h44, hT, hTk, hI, hIk, hTB, hFT, hP, hV, hN, h34⟩ := h
  obtain ⟨f1, -, -, f2, h5, h4, -⟩ := hF
  exact ⟨f1, f2, ⟨h5.1, by omega⟩, fun q => (hT (M 78 5).toNat (by omega)).1⟩
theorem LI.as {i : Nat} {S : ST} {M : MT} (h : LI i S M) {b : Nat} (hR : RB S M (M 78) (M 80) b) (hb : b = 34 ∨ 91 ≤ b) : AS S M (M 78) (M 80) b := ⟨h.2.1, hR, hb, h.2.2.2.1.1, h.2.2.2.1.2.2.2.1, h.lw.2.2.1, h.2.2.2.1.2.2.2.2.2.1, h.2.2.2.2.2.2.2.2.2.2.2.2.2.1⟩
theorem FA.so {B : Int} {σ : Nat → Int} (h : FA B σ) (hB : B ≤ 1000000) : ∀ u : Nat, u < 12 → InR (σ (100 + 2 * u)) ∧ InR (σ (101 + 2 * u)) := by
  obtain ⟨h1, h2, h3, h4, h5, h6, h7, h8, h9, h10, h11⟩ := h
  intro u hu
  rcases Nat.lt_or_ge u 10 with q | q
  · exact ⟨h10 _ (by omega) (by omega), h10 _ (by omega) (by omega)⟩
  · obtain ⟨⟨L, g1, g2⟩, g3, g4⟩ := h11 0 (by omega)
    have g5 := g4 0 (by omega)
    have hp : 2 ^ (σ 0).toNat ≤ 4096 := p2_le (by have := h1.1; omega)
    rcases (show u = 10 ∨ u = 11 by omega) with rfl | rfl
    · exact ⟨⟨by show _ ≤ σ (120 + 22 * 0); omega, by show σ (120 + 22 * 0) < _; omega⟩, ⟨by show _ ≤ σ (121 + 22 * 0); omega, by show σ (121 + 22 * 0) < _; omega⟩⟩
    · exact ⟨⟨by show _ ≤ σ (122 + 22 * 0 + 2 * 0); omega, by show σ (122 + 22 * 0 + 2 * 0) < _; omega⟩, ⟨by show _ ≤ σ (123 + 22 * 0 + 2 * 0); omega, by show σ (123 + 22 * 0 + 2 * 0) < _; omega⟩⟩
theorem FA.pi {B : Int} {σ τ : Nat → Int} (h : FA B σ) (hL : LW σ τ) (hB : B ≤ 990000) : PI 990000 σ τ := by
  obtain ⟨h1, h2, h3, h4, h5, h6, h7, ⟨L, h8, h8'⟩, h9, h10, h11⟩ := h
  have hp : 2 ^ (σ 0).toNat ≤ 4096 := p2_le (by have := h1.1; omega)
  exact ⟨hL, h2.mono hB, h7, by omega⟩
theorem Bi_le {i : Nat} (h : i ≤ 512) : Bi i ≤ 60000 := by unfold Bi; omega
theorem FA.laid {B : Int} {σ : Nat → Int} (h : FA B σ) : ∃ L : Nat, σ 1 = (L : Int) ∧ L < 2 ^ (σ 0).toNat ∧ L < 4096 := by
  obtain ⟨L, h8, h8'⟩ := h.2.2.2.2.2.2.2.1
  have hp : 2 ^ (σ 0).toNat ≤ 4096 := p2_le (by have := h.1.1; omega)
  exact ⟨L, h8, h8', by omega⟩
theorem Ag.same {σ τ σ' : Nat → Int} (h : ∀ j, j = 0 ∨ j = 2 ∨ j = 5 ∨ (10 ≤ j ∧ j < 70) → σ' j = σ j) : Ag σ τ σ' τ := ⟨h 0 (by omega), h 2 (by omega), h 5 (by omega), fun j a b => h j (by omega), fun _ _ _ => rfl⟩
theorem band_m (v : Int) (m : Nat) (hm : m < 2147483648) : 0 ≤ band v (m : Int) ∧ band v (m : Int) ≤ (m : Int) := by
  unfold band
  have e : ((z v &&& z (m : Int)).toBitVec).toNat ≤ m := by
    rw [Int32.toBitVec_and, BitVec.toNat_and, zn_bv, bvn (by omega)]
    exact Nat.and_le_right
  have h : (z v &&& z (m : Int)).toInt = (((z v &&& z (m : Int)).toBitVec).toNat : Int) := by
    show BitVec.toInt _ = _
    exact BitVec.toInt_eq_toNat_of_lt (by omega)
  rw [h]; omega
