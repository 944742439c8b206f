/-! what the constructors leave: the invariant holds; from nothing made to all made -/
def Mst : MT := pt (pt (fun _ _ => 0) 16 77) 77 91
theorem Mst_at {a : Nat} (h1 : 16 ≤ a) (h2 : a < 91) : Mst a = C0 a := by
  show (bif Nat.ble 77 a && Nat.blt a 91 then C0 a else (bif Nat.ble 16 a && Nat.blt a 77 then C0 a else fun _ => 0)) = C0 a
  rcases Nat.lt_or_ge a 77 with q | q
  · rw [Nat.blt_eq.mpr h2, Nat.ble_eq.mpr h1, Nat.blt_eq.mpr q]
    have : Nat.ble 77 a = false := by
      cases hb : Nat.ble 77 a with
      | false => rfl
      | true => have := Nat.ble_eq.mp hb; omega
    rw [this]; rfl
  · rw [Nat.blt_eq.mpr h2, Nat.ble_eq.mpr q]; rfl
def s00 : Nat → Int := up (fun _ => 0) 5 (-1)
theorem s00_0 {j : Nat} (h : j ≠ 5) : s00 j = 0 := up_ne _ _ h
theorem C78 : C0 78 = s00 := rfl
theorem C79 : C0 79 = s00 := by
  funext j
  show (if j < 780 then s00 j else 0) = s00 j
  by_cases q : j < 780
  · rw [if_pos q]
  · rw [if_neg q, s00_0 (by omega)]
theorem s00_FA : FA (Bi 0) s00 := by
  have e : ∀ j, j ≠ 5 → s00 j = 0 := fun j h => s00_0 h
  have e0 : s00 0 = 0 := rfl
  have e3 : s00 3 = 0 := rfl
  have p0 : 2 ^ (s00 0).toNat = 1 := rfl
  have p3 : (2 : Int) ^ (s00 3).toNat = 1 := rfl
  refine ⟨⟨⟨by decide, by decide⟩, fun s hs => ?_⟩, ⟨⟨by decide, by decide⟩, fun h hh => ?_⟩, fun h hh => ?_, ⟨by decide, by decide⟩, ⟨by decide, by decide⟩, ⟨by decide, by decide⟩, ⟨by decide, by decide⟩, ⟨0, rfl, by decide⟩, ⟨by decide, by decide⟩, fun j h1 h2 => ?_, fun i hi => ⟨⟨0, ?_, by decide⟩, ?_, fun h hh => ?_⟩⟩
  · rw [e (10 + 5 * s) (by omega), e (11 + 5 * s) (by omega), e (12 + 5 * s) (by omega), e (13 + 5 * s) (by omega), e (14 + 5 * s) (by omega)]
    have hp : (0 : Int) < 2 ^ s := Int.pow_pos (by decide)
    exact ⟨⟨by decide, by decide⟩, ⟨by decide, by decide⟩, ⟨by decide, by decide⟩, ⟨by decide, by decide, hp⟩, by decide, by decide⟩
  · rw [e (70 + 3 * h) (by omega), e (71 + 3 * h) (by omega), e (72 + 3 * h) (by omega)]
    exact ⟨⟨by decide, by decide⟩, ⟨by decide, by decide⟩, by decide, by decide⟩
  · rw [e (72 + 3 * h) (by omega), p3]; decide
  · rw [e j (by omega)]; exact ⟨by decide, by decide⟩
  · rw [e (120 + 22 * i) (by omega)]; rfl
  · rw [e (121 + 22 * i) (by omega)]; exact ⟨by decide, by decide⟩
  · rw [e (122 + 22 * i + 2 * h) (by omega), e (123 + 22 * i + 2 * h) (by omega)]
    exact ⟨⟨by decide, by decide⟩, by decide, by decide⟩
theorem Mst_SR {a0 a1 a2 a3 a4 a5 : Nat} (h : ∀ a, a = a0 ∨ a = a1 ∨ a = a2 ∨ a = a3 ∨ a = a4 ∨ a = a5 → 16 ≤ a ∧ a < 91) (h0 : C0 a0 5 = 0) (h1 : C0 a1 = fun _ => 0) (h2 : C0 a2 = fun _ => 0) (h3 : C0 a3 = fun _ => 0) (h4 : C0 a4 = fun _ => 0) (h5 : C0 a5 = fun _ => 0) : SR a0 a1 a2 a3 a4 a5 Mst s00 := by
  have g : ∀ a, a = a0 ∨ a = a1 ∨ a = a2 ∨ a = a3 ∨ a = a4 ∨ a = a5 → Mst a = C0 a := fun a q => Mst_at (h a q).1 (h a q).2
  refine ⟨by rw [g a0 (by simp), h0]; rfl, fun s hs => ?_⟩
  rw [g a1 (by simp), g a2 (by simp), g a3 (by simp), g a4 (by simp), g a5 (by simp), h1, h2, h3, h4, h5]
  exact ⟨(s00_0 (by omega)).symm, (s00_0 (by omega)).symm, (s00_0 (by omega)).symm, (s00_0 (by omega)).symm, (s00_0 (by omega)).symm⟩
theorem Mst_HR {a0 a1 a2 a3 : Nat} (h : ∀ a, a = a0 ∨ a = a1 ∨ a = a2 ∨ a = a3 → 16 ≤ a ∧ a < 91) (h0 : C0 a0 4 = 0) (h1 : C0 a1 = fun _ => 0) (h2 : C0 a2 = fun _ => 0) (h3 : C0 a3 = fun _ => 0) : HR a0 a1 a2 a3 Mst s00 := by
  have g : ∀ a, a = a0 ∨ a = a1 ∨ a = a2 ∨ a = a3 → Mst a = C0 a := fun a q => Mst_at (h a q).1 (h a q).2
  refine ⟨by rw [g a0 (by simp), h0]; rfl, fun s hs => ?_⟩
  rw [g a1 (by simp), g a2 (by simp), g a3 (by simp), h1, h2, h3]
  exact ⟨(s00_0 (by omega)).symm, (s00_0 (by omega)).symm, (s00_0 (by omega)).symm⟩
theorem Mst_NR {a0 a1 a2 : Nat} (h : ∀ a, a = a0 ∨ a = a1 ∨ a = a2 → 16 ≤ a ∧ a < 91) (h0 : C0 a0 2 = 0) (h1 : C0 a1 = fun _ => 0) (h2 : C0 a2 = fun _ => 0) : NR a0 a1 a2 Mst s00 := by
  have g : ∀ a, a = a0 ∨ a = a1 ∨ a = a2 → Mst a = C0 a := fun a q => Mst_at (h a q).1 (h a q).2
  refine ⟨by rw [g a0 (by simp), h0]; rfl, fun s hs => ?_⟩
  rw [g a1 (by simp), g a2 (by simp), h1, h2]
  exact ⟨(s00_0 (by omega)).symm, (s00_0 (by omega)).symm⟩
theorem Mst_GR {a0 a1 : Nat} (h : 16 ≤ a0 ∧ a0 < 91) (h0 : C0 a0 1 = 0) (h1 : C0 a0 2 = 0) : GR a0 a1 Mst s00 := by
  have g : Mst a0 = C0 a0 := Mst_at h.1 h.2
  refine ⟨by rw [g, h0]; exact ⟨by decide, by decide⟩, by rw [g, h1]; rfl, fun k hk => ?_⟩
  have : (s00 6).toNat = 0 := rfl
  omega
theorem Mst_z {a : Nat} (h1 : 16 ≤ a) (h2 : a < 91) (h : C0 a = fun _ => 0) (j : Nat) : Mst a j = 0 := by rw [Mst_at h1 h2, h]
theorem LI_start (c l : Nat) : LI 0 (T1, 91, c, l) Mst := by
  have e78 : Mst 78 = s00 := (Mst_at (by decide) (by decide)).trans C78
  have e79 : Mst 79 = s00 := (Mst_at (by decide) (by decide)).trans C79
  have e34 : Mst 34 = C0 34 := Mst_at (by decide) (by decide)
  refine ⟨Nat.le_refl _, ?_, ?_, by rw [e78]; exact s00_FA, by rw [e79]; exact s00_FA, by rw [e78, e79]; exact Int.le_refl _, ?_, ?_, ?_, ?_, ⟨0, by rw [Mst_at (by decide) (by decide)]; rfl, by decide, ?_⟩, Or.inl ⟨by rw [Mst_at (by decide) (by decide)]; rfl, by rw [Mst_at (by decide) (by decide)]; rfl, by rw [Mst_at (by decide) (by decide)]; rfl⟩, ?_, ?_, ?_, by rw [e34]; rfl, by rw [e34]; rfl, by rw [e34]; rfl⟩
  · rw [e78]
    exact ⟨Mst_SR (by intro a h; omega) rfl rfl rfl rfl rfl rfl, Mst_HR (by intro a h; omega) rfl rfl rfl rfl, Mst_NR (by intro a h; omega) rfl rfl rfl, Mst_GR (by decide) rfl rfl, by rw [FD, Mst_at (by decide) (by decide)]; exact ⟨rfl, rfl, rfl, rfl⟩⟩
  · rw [e79]
    exact ⟨Mst_SR (by intro a h; omega) rfl rfl rfl rfl rfl rfl, Mst_HR (by intro a h; omega) rfl rfl rfl rfl, Mst_NR (by intro a h; omega) rfl rfl rfl, Mst_GR (by decide) rfl rfl, by rw [FD, Mst_at (by decide) (by decide)]; exact ⟨rfl, rfl, rfl, rfl⟩⟩
  · intro x hx
    rw [e78] at hx
    have : s00 4 = 0 := rfl
    omega
  · intro x hx
    rw [e79] at hx
    have : s00 4 = 0 := rfl
    omega
  · intro i hi
    refine ⟨34, ?_, rfl, liS rfl⟩
    rw [Mst_at (by decide) (by decide)]
    rcases (show i = 0 ∨ i = 1 ∨ i = 2 ∨ i = 3 by omega) with rfl | rfl | rfl | rfl <;> rfl
  · intro i hi
    refine ⟨53, ?_, rfl, liS rfl⟩
    rw [Mst_at (by decide) (by decide)]
    rcases (show i = 0 ∨ i = 1 ∨ i = 2 ∨ i = 3 by omega) with rfl | rfl | rfl | rfl <;> rfl
  · refine ⟨by rw [Mst_at (by decide) (by decide)]; rfl, fun j hj => ?_⟩
    rw [Mst_z (a := 56) (by decide) (by decide) rfl, Mst_z (a := 81) (by decide) (by decide) rfl]
    exact ⟨⟨by decide, by decide⟩, by decide⟩
  · exact ⟨fun j hj => by rw [Mst_z (a := 72) (by decide) (by decide) rfl]; exact ⟨by decide, by decide⟩, Or.inl (by rw [Mst_at (by decide) (by decide)]; rfl)⟩
  · exact fun j hj => by rw [Mst_z (a := 65) (by decide) (by decide) rfl]; exact ⟨by decide, by decide⟩
  · exact fun j hj => by rw [Mst_z (a := 83) (by decide) (by decide) rfl]; exact ⟨by decide, by decide⟩
theorem fin_ck : ∀ a, a < 91 → ∀ j, j < 40 → (match fin E1 a j with | some b => decide (16 ≤ a) && decide (C0 a j = (b : Int)) | none => true) = true := by decide +kernel
theorem fin_len : E1.2.2.length ≤ 91 ∧ ∀ r ∈ E1.2.2, r.length ≤ 40 := by decide +kernel
theorem fin_Mst : ∀ a j b, fin E1 a j = some b → Mst a j = (b : Int) := by
  intro a j b h
  have ha : a < 91 := by
    rcases Nat.lt_or_ge a 91 with q | q
    · exact q
    · rw [fin_out (show E1.2.2.length ≤ E1.1 from fin_len.1) (show E1.1 ≤ a from q)] at h; cases h
  have hj : j < 40 := by
    rcases Nat.lt_or_ge j 40 with q | q
    · exact q
    · exfalso
      unfold fin at h
      rw [List.getD_eq_getElem?_getD] at h
      have hl : (E1.2.2.getD a []).length ≤ 40 := by
        rw [List.getD_eq_getElem?_getD]
        cases hq : E1.2.2[a]? with
        | none => exact Nat.zero_le _
        | some r => exact fin_len.2 r (List.mem_of_getElem? hq)
      rw [List.getElem?_eq_none (by omega)] at h
      simp at h
  have q := fin_ck a ha j hj
  rw [h] at q
  have q2 := (Bool.and_eq_true _ _).mp q
  rw [Mst_at (of_decide_eq_true q2.1) ha]
  exact of_decide_eq_true q2.2
theorem fin_E0 (a j : Nat) : fin E0 a j = none := by simp [fin, E0]
theorem Rel.e1 {G : GT} {c l : Nat} {H : Heap} (h : Rel E0 G (T1, 91, c, l) Mst H) : Rel E1 G (T1, 91, c, l) Mst H := by
  obtain ⟨h1, h2, h3, h4, h5, h6⟩ := h
  refine ⟨h1, Nat.le_refl _, h3, fun a q1 q2 => ?_, h5, fin_Mst⟩
  have e : shp E1 (T1, 91, c, l) a = shp E0 (T1, 91, c, l) a := by
    have e0 : shp E0 (T1, 91, c, l) a = T1 a := shp_out q1
    rw [e0]
    unfold shp T1
    rw [Nat.blt_eq.mpr (show a < E1.1 from q2)]
    rfl
  rw [e]
  exact h4 a q1 q2
theorem Rel.e0 {G : GT} {S : ST} {M : MT} {H : Heap} (h : Rel E1 G S M H) : Rel E0 G (shp E1 S, S.2.1, S.2.2.1, S.2.2.2) M H := by
  obtain ⟨h1, h2, h3, h4, h5, h6⟩ := h
  refine ⟨h1, h1, h3, fun a q1 q2 => ?_, h5, fun a j b q => ?_⟩
  · rw [shp_out (show E0.1 ≤ a from q1)]
    exact h4 a q1 q2
  · rw [fin_E0] at q
    cases q
