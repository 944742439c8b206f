/-! a TEXT is read -/
theorem WT.cg {τ τ' : Nat → Int} {y : Nat} (h : WT τ y) (e : ∀ j, j < 680 → τ' (680 * y + j) = τ (680 * y + j)) : WT τ' y := by
  have e0 : τ' (680 * y) = τ (680 * y) := e 0 (by omega)
  refine ⟨by rw [e0]; exact h.1, fun k hk => ?_⟩
  rw [e0] at hk
  have hh := h.1
  have e1 : τ' (680 * y + 1 + 3 * k) = τ (680 * y + 1 + 3 * k) := by rw [Nat.add_assoc]; exact e _ (by omega)
  have e2 : τ' (680 * y + 2 + 3 * k) = τ (680 * y + 2 + 3 * k) := by rw [Nat.add_assoc]; exact e _ (by omega)
  have e3 : τ' (680 * y + 3 + 3 * k) = τ (680 * y + 3 + 3 * k) := by rw [Nat.add_assoc]; exact e _ (by omega)
  obtain ⟨u1, u2, u3, u4⟩ := h.2 k hk
  rw [e1, e2, e3]
  refine ⟨u1, fun q => ?_, u3, u4⟩
  obtain ⟨v1, v2, v3, v4⟩ := u2 q
  have hg : ∀ i, i < (τ (680 * y + 3 + 3 * k)).toNat - (τ (680 * y + 2 + 3 * k)).toNat → codeF τ' (680 * y) (τ (680 * y + 2 + 3 * k)).toNat i = codeF τ (680 * y) (τ (680 * y + 2 + 3 * k)).toNat i := fun i hi => by
    unfold codeF
    rw [Nat.add_assoc, Nat.add_assoc (680 * y) 76, e _ (by omega), e _ (by omega)]
  have hd : ∀ i, i ≤ (τ (680 * y + 3 + 3 * k)).toNat - (τ (680 * y + 2 + 3 * k)).toNat → dpRun (codeF τ' (680 * y) (τ (680 * y + 2 + 3 * k)).toNat) i = dpRun (codeF τ (680 * y) (τ (680 * y + 2 + 3 * k)).toNat) i := fun i hi => dpRun_cg i (fun j hj => hg j (by omega))
  refine ⟨v1, ⟨v2.1, fun i hi => ?_⟩, ?_, fun i hi q1 => ?_⟩
  · rw [hg i hi, hd i (by omega)]; exact v2.2 i hi
  · rw [hd _ (Nat.le_refl _)]; exact v3
  · rw [hg i hi] at q1 ⊢; exact v4 i hi q1
/-- the slots below x, in other rows, with more cells -/
theorem TXI.gr {S S' : ST} {M M' : MT} {τ τ' : Nat → Int} {ra : Nat} {n : Int} (h : TXI S M τ ra n) (h91 : 91 ≤ S.2.1) (x : Nat) (hn : n ≤ (x : Int)) (e : ∀ j, j < 680 * x → τ' j = τ j) (hS : S.2.1 ≤ S'.2.1) (hsh : ∀ a, a < S.2.1 → S'.1 a = S.1 a) (hM : ∀ a, 91 ≤ a → a < S.2.1 → M' a = M a) (hra : ∀ y : Nat, (y : Int) < n → M' ra y = M ra y) : TXI S' M' τ' ra n := fun y hy => by
  obtain ⟨h1, b, h2, h3, h4⟩ := h y hy
  have ey : ∀ j, j < 680 → τ' (680 * y + j) = τ (680 * y + j) := fun j hj => e _ (by omega)
  have sh : ∀ a, 91 ≤ a → live E1 S a → shp E1 S' a = shp E1 S a ∧ live E1 S' a ∧ M' a = M a := fun a ha hl => by
    have hlt := hl.lt h91
    refine ⟨?_, hl.mono hS, hM a ha hlt⟩
    rw [shp_out (show E1.1 ≤ a from ha), hsh a hlt, ← shp_out (S := S) (show E1.1 ≤ a from ha)]
  obtain ⟨t1, t2, t3, a3, nc, t4, t5, t6, t7, t8, t9, t10, t11⟩ := h3
  obtain ⟨sb1, sb2, sb3⟩ := sh b t3 t2
  obtain ⟨sa1, sa2, sa3⟩ := sh a3 t5 t7
  have hwt0 := h1.1
  refine ⟨h1.cg ey, b, by rw [hra y hy]; exact h2, ⟨by rw [sb1]; exact t1, sb2, t3, a3, nc, by rw [sb3]; exact t4, t5, by rw [sa1]; exact t6, sa2, by rw [sb3]; exact t8, t9, by rw [e _ (by omega)]; exact t10, fun k hk => ?_⟩, fun q hq => ?_⟩
  · rw [sa3, e _ (by omega), e _ (by omega), e _ (by omega)]; exact t11 k hk
  · have hWT : 0 ≤ (fun _ => (y : Int) : Nat → Int) 5 → WT τ ((fun _ => (y : Int) : Nat → Int) 5).toNat := fun _ => h1
    have hcl := cl_cg (σ := fun _ => (y : Int)) (σ' := fun _ => (y : Int)) (τ := τ) (τ' := τ') rfl (fun _ j hj => ey j hj) hWT (q : Int)
    rcases h4 q hq with ⟨u1, u2⟩ | ⟨a, len, c, u1, u2, u3, u4, u5, u6, u7, u8, u9, u10, u11⟩
    · exact Or.inl ⟨by rw [hcl]; exact u1, by rw [sb3]; exact u2⟩
    · obtain ⟨x1, x2, x3⟩ := sh a u3 u5
      refine Or.inr ⟨a, len, c, by rw [hcl]; exact u1, by rw [sb3]; exact u2, u3, by rw [x1]; exact u4, x2, u6, u7, by rw [x3]; exact u8, fun nm => ?_, u10, u11⟩
      rw [hcl, ev_cg (σ := fun _ => (y : Int)) (σ' := fun _ => (y : Int)) (τ := τ) (τ' := τ') rfl (fun _ j hj => ey j hj) hWT nm (by omega) (by omega)]
      exact u9 nm
theorem TI.gr {S S' : ST} {M M' : MT} {ra : Nat} (h : TI S M ra) (hra : ra < 91) (h91 : 91 ≤ S.2.1) (hS : S.2.1 ≤ S'.2.1) (hsh : ∀ a, a < S.2.1 → S'.1 a = S.1 a) (e : M' ra = M ra) : TI S' M' ra := fun i hi => by
  obtain ⟨b, h1, h2, h3⟩ := h i hi
  refine ⟨b, by rw [e]; exact h1, ?_, h3.mono hS⟩
  rcases Nat.lt_or_ge b 91 with q | q
  · unfold shp at h2 ⊢
    rw [show Nat.blt b E1.1 = true from Nat.ble_eq.mpr q] at h2 ⊢
    exact h2
  · rw [shp_out (show E1.1 ≤ b from q), hsh b (h3.lt h91), ← shp_out (S := S) (show E1.1 ≤ b from q)]; exact h2
theorem flt_fix {K : Nat → Nat} {V : Nat → Int} (t f : Nat) : stp K V (flt t f (fun _ => 0) 0 0) = flt t f (fun _ => 0) 0 0 := rfl
theorem end_fix {K : Nat → Nat} {V : Nat → Int} (t : Nat) (c : List (Int × Int)) (cR : Nat → Int) (nc on : Nat) : stp K V (cf 9 t 0 0 [] c 0 0 false false 0 cR nc on) = cf 9 t 0 0 [] c 0 0 false false 0 cR nc on := rfl
theorem st_text {i : Nat} {S : ST} {M : MT} (h : LI i S M) : Ct E1 yX11_text cX11_text 2 (some .int) rm_X11_text [.ref 16] S M (fun r S1 M1 => ∃ x : Int, r = some (.int (z x)) ∧ Ct E1 yX12_text cX12_text 1 (some .int) rm_X12_text [.ref 77] S1 M1 (fun r2 S2 M2 => r2 = some (.int (z x)) ∧ LI (i + 1) S2 M2)) := by
  obtain ⟨h91, hC, hK, hF, hFk, h44, hT, hTk, hI, hIk, ⟨n, ht4, hn, hTB⟩, hFT, hP, hV, hN, h34⟩ := id h
  have h4 := hF.2.2.2.2.2.1
  obtain ⟨x, hx⟩ : ∃ x : Nat, M 78 4 = (x : Int) := ⟨(M 78 4).toNat, by omega⟩
  have h176 : M 17 6 = (x : Int) := hC.2.2.2.2.1.trans hx
  have hok : okTp (M 81) n := ⟨hn, fun j hj => by
    have := (hTB.2 j (by omega)).2
    rw [← this]
    exact band_m _ 255 (by decide)⟩
  by_cases q4 : x = 4
  · refine (c_text4 S M (by rw [h176, q4]; rfl)).imp (fun r S1 M1 q => ?_)
    obtain ⟨rfl, u1, u2, rfl⟩ := q
    refine ⟨_, rfl, (m_text (x := x) hok (by omega) S1 M1 rfl ht4 hx).imp (fun r2 S2 M2 q => ?_)⟩
    obtain ⟨v, rfl, rfl, hM, g⟩ := q
    rcases g with ⟨-, rfl, rfl⟩ | ⟨g, _⟩
    · refine ⟨rfl, ?_⟩
      have := h.id
      obtain ⟨k91, kC, kK, kF, kFk, k44, kT, kTk, kI, kIk, kTB, kFT, kP, kV, kN, k34⟩ := this
      exact ⟨by omega, kC, kK, kF, kFk, k44, kT.gr h91 x (by omega) (fun _ _ => rfl) (by omega) (fun a _ => by rw [u1]) (fun _ _ _ => rfl) (fun _ _ => rfl), kTk.gr h91 x (by omega) (fun _ _ => rfl) (by omega) (fun a _ => by rw [u1]) (fun _ _ _ => rfl) (fun _ _ => rfl), kI.gr (by decide) h91 (by omega) (fun a _ => by rw [u1]) rfl, kIk.gr (by decide) h91 (by omega) (fun a _ => by rw [u1]) rfl, kTB, kFT, kP, kV, kN, k34⟩
    · omega
  have hx4 : x < 4 := by omega
  refine (c_text x hx4 hn hok S M h91 hTB h176).imp (fun r S1 M1 q => ?_)
  obtain ⟨v, rfl, s1, s2, hM, m167, m554, hend⟩ := q
  have e81 : M1 81 = M 81 := hM 81 (by omega) (by decide)
  have e77 : M1 77 = M 77 := hM 77 (by omega) (by decide)
  have e78 : M1 78 = M 78 := hM 78 (by omega) (by decide)
  have e80 : M1 80 = M 80 := hM 80 (by omega) (by decide)
  refine ⟨_, rfl, (m_text (b := M 81) (n := n) (x := x) hok (by omega) S1 M1 e81 (by rw [e77]; exact ht4) (by rw [e78]; exact hx)).imp (fun r2 S2 M2 q => ?_)⟩
  obtain ⟨w, rfl, rfl, hM2, g⟩ := q
  rcases g with ⟨g, _⟩ | ⟨-, g1, g2, g3, g4⟩
  · omega
  have f : ∀ a, a ∉ [16, 17, 35, 55, 57, 58, 59, 60, 61, 62, 63, 77, 78, 80, 82] → a < S.2.1 → M2 a = M a := fun a ha hl => by
    simp only [List.mem_cons, List.not_mem_nil, or_false, not_or] at ha
    rw [hM2 a (by simp [ha]), hM a hl (by simp [ha])]
  have eτ : ∀ j, j < 680 * x → M2 80 j = M 80 j := fun j hj => by rw [g2 j hj, e80]
  have f79 : M2 79 = M 79 := f 79 (by decide) (by omega)
  have f81 : M2 81 = M 81 := f 81 (by decide) (by omega)
  have hcell : ∀ a, 91 ≤ a → a < S.2.1 → M2 a = M a := fun a u1 u2 => f a (by simp; omega) u2
  have hTk' : TXI S2 M2 (M2 80) 54 (M 79 4) := hTk.gr h91 x (by omega) eτ s1 s2 hcell (fun y _ => by rw [f 54 (by decide) (by omega)])
  have hBi : Bi i ≤ Bi (i + 1) := by rw [← Bi_s]; omega
  have hCm : ∀ a, 18 ≤ a → a ≤ 33 → M2 a = M a := fun a u1 u2 => f a (by simp; omega) (by omega)
  have hTB' : TB M2 (M2 81) ((0 : Nat) : Int) := ⟨by rw [hM2 55 (by decide)]; exact m554, fun j hj => by rw [f 56 (by decide) (by omega), f81]; exact hTB.2 j hj⟩
  have hmid : VB 65 M2 ∧ NB M2 ∧ (M2 34 0 = 1 ∧ M2 34 1 = 1 ∧ M2 34 2 = 1) := ⟨VBm hV (f 65 (by decide) (by omega)), NBm hN (f 83 (by decide) (by omega)), by rw [f 34 (by decide) (by omega)]; exact h34⟩
  have hPm : ∀ σ', Ag (M 78) (M 80) σ' (M2 80) → PKV M2 σ' (M2 80) := fun σ' hA => (hP.cg hA h.lw).mem (fun j _ => by rw [f 67 (by decide) (by omega)]) (f 68 (by decide) (by omega)) (f 70 (by decide) (by omega)) (f 72 (by decide) (by omega))
  have h5 := hF.2.2.2.2.1
  have hτ5 : 0 ≤ M 78 5 → ∀ j, j < 680 → M2 80 (680 * (M 78 5).toNat + j) = M 80 (680 * (M 78 5).toNat + j) := fun q j hj => eτ _ (by omega)
  rcases hend with ⟨rfl, c17, c35, t, fl, c1, c2, c3, c4, c5⟩ | ⟨rfl, c168, c169, c17, t, c, cR, nc, on, b0, a3, d1, d2, d3, d4, d5, d6, d7, d8, d9, d10, d11, d12, d13⟩
  · -- a FAULT
    rcases g4 with ⟨rfl, -, -, -, t', c', cR', nc', on', r1, -⟩ | ⟨rfl, ga, f', t', k1, k2, k3, k4, k5⟩
    · exfalso
      have := Rch.uni c3 r1 (flt_fix t fl) (end_fix t' c' cR' nc' on')
      have := congrArg (fun z : Cf => z.1) this
      cases this
    · have hu := Rch.uni c3 k3 (flt_fix t fl) (flt_fix t' f')
      have hf : fl = f' := congrArg (fun z : Cf => z.2.2.1) hu
      have htt : t = t' := congrArg (fun z : Cf => z.2.1) hu
      subst hf; subst htt
      have f78 : M2 78 = M 78 := by rw [ga, e78]
      have f17 : M2 17 = M 17 := (hM2 17 (by decide)).trans c17
      have f35 : M2 35 = M 35 := (hM2 35 (by decide)).trans c35
      refine ⟨rfl, by omega, by rw [f78]; exact hC.mem (fun a u1 u2 _ => by rcases Nat.lt_or_ge a 18 with q | q; (rw [show a = 17 by omega]; exact f17); exact hCm a q u2), by rw [f79]; exact hK.mem (fun a ha => f a (by simp; omega) (by omega)), by rw [f78]; exact hF.mono hBi, by rw [f79]; exact hFk.mono hBi, by rw [f79, f78]; exact h44, by rw [f78]; exact hT.gr h91 x (by omega) eτ s1 s2 hcell (fun y _ => by rw [f35]), by rw [f79]; exact hTk', hI.gr (by decide) h91 s1 s2 f35, hIk.gr (by decide) h91 s1 s2 (f 54 (by decide) (by omega)), ⟨0, g3, by omega, hTB'⟩, Or.inr ⟨by rw [hM2 16 (by decide)]; exact m167, by rw [hM2 16 (by decide), c4, k4], by rw [hM2 16 (by decide), c5, k5]⟩, by rw [f78]; exact hPm _ ⟨rfl, rfl, rfl, fun _ _ _ => rfl, hτ5⟩, hmid.1, hmid.2.1, hmid.2.2⟩
  · rcases g4 with ⟨rfl, ga5, ga6, ga, t', c', cR', nc', on', r1, r2, r3, r4, -, r6⟩ | ⟨rfl, ga, f', t', k1, k2, k3, k4, k5⟩
    · have hu := Rch.uni d2 r1 (end_fix t c cR nc on) (end_fix t' c' cR' nc' on')
      have hcc : c = c' := congrArg (fun z : Cf => z.2.2.2.2.2.1) hu
      have hcR : cR = cR' := congrArg (fun z : Cf => z.2.2.2.2.2.2.2.2.2.2.2.1) hu
      have hnc : nc = nc' := congrArg (fun z : Cf => z.2.2.2.2.2.2.2.2.2.2.2.2.1) hu
      subst hcc; subst hcR; subst hnc
      have hiv : IVC (KT (M 81) n) 9 t 0 [] c 0 0 false false 0 cR nc := INV.kt hok INV.top d2
      have hRW : RWS (M2 80) x c cR nc := ⟨r2, r3, r4, d1, hiv.2.1⟩
      have f78 : M2 78 = up (M 78) 4 ((x : Int) + 1) := by rw [ga, e78]
      have f17 : M2 17 = up (M 17) 6 ((x : Int) + 1) := (hM2 17 (by decide)).trans c17
      have f35 : M2 35 = up (M 35) x (b0 : Int) := (hM2 35 (by decide)).trans d3
      have ho : ∀ j, j ≠ 4 → up (M 78) 4 ((x : Int) + 1) j = M 78 j := fun j u => up_ne _ _ u
      have fb : ∀ a, 91 ≤ a → M2 a = M1 a := fun a ha => hM2 a (by simp; omega)
      have hnew : TXS S2 M2 (M2 80) x b0 := ⟨d5, d6, d4, a3, nc, by rw [fb b0 d4]; exact d7, d8, d9, d10, by rw [fb b0 d4]; exact d11, d1, r3, fun k hk => by
        have := d12 k hk
        obtain ⟨w1, w2, w3⟩ := r4 k hk
        rw [fb a3 d8, w1, show 680 * x + 2 + 3 * k = 680 * x + 1 + 3 * k + 1 by omega, w2, show 680 * x + 3 + 3 * k = 680 * x + 1 + 3 * k + 2 by omega]
        exact ⟨this.1, this.2.1, fun u => by rw [w3 (by omega) (by omega)]; exact this.2.2 u⟩⟩
      refine ⟨rfl, by omega, ?_, by rw [f79]; exact hK.mem (fun a ha => f a (by simp; omega) (by omega)), by rw [f78]; exact (hF.hd 4 _ (Or.inr (Or.inr (Or.inl ⟨rfl, by omega⟩)))).mono hBi, by rw [f79]; exact hFk.mono hBi, by rw [f79, f78, up_same]; omega, ?_, by rw [f79]; exact hTk', ?_, hIk.gr (by decide) h91 s1 s2 (f 54 (by decide) (by omega)), ⟨0, g3, by omega, hTB'⟩, Or.inr ⟨by rw [hM2 16 (by decide)]; exact m167, by rw [hM2 16 (by decide), c168, ga5], by rw [hM2 16 (by decide), c169, ga6]⟩, by rw [f78]; exact hPm _ ⟨ho 0 (by omega), ho 2 (by omega), ho 5 (by omega), fun j u1 u2 => ho j (by omega), hτ5⟩, hmid.1, hmid.2.1, hmid.2.2⟩
      · rw [f78]
        refine ⟨SNs (SNm hC.1 (fun a u1 u2 => hCm a (by omega) (by omega))) (fun j hj => ho j (by omega)), HNs (HNm hC.2.1 (fun a u1 u2 => hCm a (by omega) (by omega))) (fun j hj => ho j (by omega)), NNs (NNm hC.2.2.1 (fun a u1 u2 => hCm a (by omega) (by omega))) (fun j hj => ho j (by omega)), GNs (GNm hC.2.2.2.1 (fun a u1 u2 => hCm a (by omega) (by omega))) (fun j hj => ho j (by omega)), ?_⟩
        obtain ⟨u1, u2, u3, u4⟩ := hC.2.2.2.2
        unfold FD
        rw [f17]
        exact ⟨by simp [up], by simpa [up] using u2, by simpa [up] using u3, by simpa [up] using u4⟩
      · intro y hy
        rw [f78, up_same] at hy
        by_cases qy : y = x
        · subst qy
          exact ⟨hRW.wt, b0, by rw [f35, up_same], hnew, fun q hq => hRW.rq hq (by rw [fb b0 d4]; exact (d13 q hq).mem (by omega) (Nat.le_refl _) (fun _ _ => rfl) (fun a u1 _ => fb a u1))⟩
        · exact (hT.gr (M' := M2) h91 x (by omega) eτ s1 s2 hcell (fun y' hy' => by rw [f35, up_ne _ _ (by omega)])) y (by omega)
      · intro k hk
        by_cases qk : k = x
        · exact ⟨b0, by rw [f35, qk, up_same], d5, d6⟩
        · obtain ⟨b, u1, u2, u3⟩ := (hI.gr (M' := up M2 35 (M 35)) (by decide) h91 s1 s2 (up_same _ _ _)) k hk
          exact ⟨b, by rw [f35, up_ne _ _ qk]; rw [up_same] at u1; exact u1, u2, u3⟩
    · exfalso
      have := Rch.uni d2 k3 (end_fix t c cR nc on) (flt_fix t' f')
      have := congrArg (fun z : Cf => z.1) this
      cases this
