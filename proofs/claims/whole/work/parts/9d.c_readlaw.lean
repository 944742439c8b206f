def EndR (b : Nat → Int) (n T : Nat) (x0 : Cf) (t nc : Nat) (S' : ST) (M' : MT) : Prop := (∃ t' f : Nat, f ≠ 0 ∧ f ≤ 6 ∧ Rch (KT b n) (VT b n) x0 (flt t' f (fun _ => 0) 0 0) ∧ M' 60 9 = (f : Int) ∧ M' 60 10 = (BT b n t' : Int)) ∨ (∃ (t' : Nat) (c' : List (Int × Int)) (cR' : Nat → Int) (on' : Nat), 1 ≤ t' ∧ nc < 24 ∧ on' < 8 ∧ Rch (KT b n) (VT b n) x0 (cf 0 t' 0 0 [] c' 0 0 false false 0 cR' (nc + 1) on') ∧ RT S' M' b n T t' c' cR' (nc + 1) on' ∧ M' 60 10 = -1)
theorem onF_bit0 (on : Nat) (h : on < 8) (s : Nat) (hs : s < 3) (s' : Nat) (hs' : s' < 3) : (on / 2 ^ s % 2 = 0 → onF on s < 8 ∧ onF on s / 2 ^ s % 2 = 1 ∧ (s' ≠ s → onF on s / 2 ^ s' % 2 = on / 2 ^ s' % 2)) := by
  rcases (show on = 0 ∨ on = 1 ∨ on = 2 ∨ on = 3 ∨ on = 4 ∨ on = 5 ∨ on = 6 ∨ on = 7 by omega) with rfl | rfl | rfl | rfl | rfl | rfl | rfl | rfl <;> rcases (show s = 0 ∨ s = 1 ∨ s = 2 by omega) with rfl | rfl | rfl <;> rcases (show s' = 0 ∨ s' = 1 ∨ s' = 2 by omega) with rfl | rfl | rfl <;> decide
theorem onF_bit (on : Nat) (h : on < 8) (s : Nat) (hs : s < 3) (q : on / 2 ^ s % 2 = 0) : onF on s < 8 ∧ onF on s / 2 ^ s % 2 = 1 ∧ ∀ s', s' < 3 → s' ≠ s → onF on s / 2 ^ s' % 2 = on / 2 ^ s' % 2 := ⟨(onF_bit0 on h s hs s hs q).1, (onF_bit0 on h s hs s hs q).2.1, fun s' h' => (onF_bit0 on h s hs s' h' q).2.2⟩
theorem askO_em (cm : Int) (no : Nat) (an od : Bool) (c : List (Int × Int)) : emI od 22 (emI an 21 (nts no ((cm, 0) :: c))) = askO cm no an od c := rfl
theorem LQ.on {S : ST} {M : MT} {c : List (Int × Int)} {cR : Nat → Int} {nc on on' s : Nat} (h : LQ S M c cR nc on s) (e : on' / 2 ^ s % 2 = on / 2 ^ s % 2) : LQ S M c cR nc on' s := by
  unfold LQ at *; rw [e]; exact h

set_option maxHeartbeats 2000000 in
theorem c_readLaw {b : Nat → Int} {n T t : Nat} (hok : okTp b n) {x0 : Cf} (hx0 : INV (KT b n) x0) (s : Nat) (hs : s ≤ 2) (c : List (Int × Int)) (cR : Nat → Int) (nc on : Nat) (hnc : nc < 24) (hon : on < 8) (hbit : on / 2 ^ s % 2 = 0) (ht : 1 ≤ t) (S : ST) (M : MT) (h91 : 91 ≤ S.2.1) (h11 : M 60 11 = (s : Int) + 8)
    (hr : Rch (KT b n) (VT b n) x0 (cf (bgM s) t 0 s [] c 0 0 false false c.length (up cR (3 * nc) (s : Int)) nc (onF on s))) (h10 : M 60 10 = -1) (hRT : RT S M b n T t c cR nc on) : Ct E1 yX4_readLaw cX4_readLaw 4 none rm_X4_readLaw [.ref 60, .ref 55] S M (Qs [55, 60, 61, 62, 63] S M (fun S1 M1 => EndR b n T x0 t nc S1 M1 ∧ M1 55 4 = M 55 4)) := by
  obtain ⟨hT, h6, h9, hSC, hLQ⟩ := id hRT
  have hsN : ∀ k, k < nc → cR (3 * k) ≠ (s : Int) := by
    rcases hLQ s (by omega) with ⟨_, _, q⟩ | ⟨q, _⟩
    · exact q
    · omega
  have ho := onF_bit on hon s (by omega) hbit
  generalize hy0 : cf (bgM s) t 0 s [] c 0 0 false false c.length (up cR (3 * nc) (s : Int)) nc (onF on s) = y0 at hr
  have hI0 : INV (KT b n) y0 := INV.kt hok hx0 hr
  have hS0 : SUF c y0 := by subst hy0; exact Or.inr (List.suffix_refl _)
  refine Ct.mk [.ref 60, .ref 55, mkV, mkV] (by decide) rfl (Nat.le_of_ble_eq_true rfl) (fun X K => ?_)
  -- the end
  have kF : ∀ (M0 : MT), M0 55 4 = M 55 4 → (∀ a, a ∉ [60] → M0 a = M a) → ∀ (t' f : Nat) (M1 : MT) (l2 l3 : Value), f ≠ 0 → f ≤ 6 → Rch (KT b n) (VT b n) y0 (flt t' f (up cR (3 * nc) (s : Int)) nc (onF on s)) → M1 60 9 = (f : Int) → M1 60 10 = (BT b n t' : Int) → FrL M0 M1 → Wp E1 X 122 [.ref 60, .ref 55, l2, l3] [] S M1 := by
    intro M0 h04 h0 t' f M1 l2 l3 f1 f2 f3 f4 f5 f6
    refine wp_aload_n (n := 123) K dX4_readLaw_122 rfl rfl ?_
    refine wp_getI (n := 126) K dX4_readLaw_123 rfl fl_X4_45 rfl (liS rfl) rfl ?_
    try simp only [up_same, up_up, up_ne, ne_eq, Nat.reduceEqDiff, not_false_eq_true, Int.reduceToNat, Int.toNat_natCast]
    refine wp_if_ne (n := 129) K dX4_readLaw_126 rfl (tgt := 149) (by decide) ⟨by omega, by omega⟩ (fun c126 => ?_) (fun c126 => ?_)
    · refine ret_sn K dX4_readLaw_149 ?_ ?_ ?_ ?_ ⟨Nat.le_add_right _ _, Nat.le_add_right _ _⟩
      · exact Nat.le_refl _
      · intro a _; rfl
      · intro a _ ha
        rw [f6.1 a (fun q => ha (by simp only [List.mem_cons, List.not_mem_nil, or_false] at q ⊢; omega)), h0 a (fun q => ha (by simp only [List.mem_cons, List.not_mem_nil, or_false] at q ⊢; omega))]
      · exact ⟨Or.inl ⟨t', f, f1, f2, hr.trans f3, f4, f5⟩, f6.2.2.1.trans h04⟩
    · omega
  have kE : ∀ (M0 : MT), M0 55 4 = M 55 4 → (∀ a, a ∉ [60] → M0 a = M a) → (∀ j, j < 7 ∨ j = 11 → M0 60 j = M 60 j) → M0 60 10 = M 60 10 → ∀ (t' : Nat) (pl : List Int) (c1 : List (Int × Int)) (cm : Int) (no : Nat) (an od : Bool) (j : Nat) (M1 : MT) (l2 l3 : Value), Rch (KT b n) (VT b n) y0 (cf 3 t' 0 s pl c1 cm no an od c.length (up cR (3 * nc) (s : Int)) nc (onF on s)) → LRc M1 s pl c1 cm no an od c.length j → pl.head? ≠ some 2 → 40 ∉ pl → KT b n t' = 30 → (cm ≠ 0 ∨ s = 0) → lnW pl c1 cm no an od + 1 ≤ t' → t' ≤ 300 → TSA M1 b n T t' → FrL M0 M1 → Wp E1 X 122 [.ref 60, .ref 55, l2, l3] [] S M1 := by
    intro M0 h04 h0 h060 h0_10 t' pl c1 cm no an od j M1 l2 l3 r1 hL hh hm hk hcm hln htn hT1 hFr
    obtain ⟨l1, l2', l3', l4, l5, l6, l7, l8, l9, l10, cc, l11, l12⟩ := id hL
    have hwl := w_len l5 l6 cm an od
    have hIw := okI_w l5 j cm no an od l4
    have how := opW_w l5 j no cm an od l4
    have hlen : (List.replicate j (33 : Int) ++ (pl.map eW ++ tlW cm no an od)).length + cc.length ≤ 300 := by
      have h1 := cE_len c1 l3'
      rw [l11] at h1
      simp only [List.length_append, List.length_replicate, List.length_map, tlW_len] at h1 ⊢
      unfold lnW at hln
      omega
    have hn := stl_nil pl c1 l5 hh hm
    have hng : goF (KT b n t') pl = false := by rw [hk]; rfl
    have r4 := r1.trans (Rch.one (s3_y hng hn))
    have hst := stC_all 1 3 (by omega) (M := M1) (so := s) (cm := cm) (no := no) (an := an) (od := od) l5 hh l3' l11 (j + no + opn pl) (by omega)
    rw [if_pos hn] at hst
    -- what was read, and that reading comes to it
    obtain ⟨c2, op2, e1, r6, hfr2⟩ : ∃ (c2 : List (Int × Int)) (op2 : Nat), stC (clo 15) (List.replicate j 33 ++ (pl.map eW ++ tlW cm no an od)) cc (j + no + opn pl) = ([], cE c2 c.length, op2) ∧ (∃ cm6 no6 an6 od6, Rch (KT b n) (VT b n) y0 (cf 6 t' 0 s [] c2 cm6 no6 an6 od6 c.length (up cR (3 * nc) (s : Int)) nc (onF on s))) ∧ c.length ≤ c2.length := by
      by_cases q : s = 0
      · obtain ⟨z1, z2, z3, z4⟩ := l7 q
        subst z1; subst z2; subst z3; subst z4
        exact ⟨(stl 3 pl c1).2, _, hst.1, ⟨_, _, _, _, r4.trans (Rch.one (s4_0 q))⟩, hst.2⟩
      · have hc0 : cm ≠ 0 := by rcases hcm with u | u; exact u; exact absurd u q
        refine ⟨askO cm no an od (stl 3 pl c1).2, j + no + opn pl - j - no, ?_, ⟨_, _, _, _, (r4.trans (Rch.one (s4_c q hc0))).trans (Rch.one (s5_n (by omega) (by omega)))⟩, ?_⟩
        · rw [show clo 15 = 1 by decide, hst.1, stC_tl 1 (by decide) cm (by omega) no an od _ _ c.length hst.2 (by omega), stC_od1 _ _ _ _ _ _ _ hst.2]
        · have h1 : (stl 3 pl c1).2.length ≤ (askE cm no an (stl 3 pl c1).2).length := by
            unfold askE; split <;> simp [nts_ln] <;> omega
          have h2 : (askE cm no an (stl 3 pl c1).2).length ≤ (askO cm no an od (stl 3 pl c1).2).length := by
            unfold askO; split
            · simp
            · exact Nat.le_refl _
          have := hst.2
          omega
    obtain ⟨cm6, no6, an6, od6, r6⟩ := r6
    have hI6 : IVC (KT b n) 6 t' s [] c2 cm6 no6 an6 od6 c.length (up cR (3 * nc) (s : Int)) nc := INV.kt hok hI0 r6
    have hsuf : c <:+ c2 := by
      rcases hS0.rch r6 with q | q
      · cases q
      · exact q
    have h6b : c2.length + 1 ≤ t' ∧ c.length < c2.length := by
      rcases hI6.2.2.2 with ⟨q, _⟩ | ⟨_, _, _, _, q5, q6⟩ | ⟨q, _⟩ | q
      · omega
      · have hD : DG c2 c.length = if s = 0 then (1, 0) else (0, 1) := by
          rcases q6.2.2.2.2.2 with ⟨q, _⟩ | ⟨q, _⟩ | ⟨q, _⟩ | ⟨q, _⟩ | ⟨q, _⟩ | ⟨_, _, q⟩ <;> first | exact q | omega
        refine ⟨by unfold lnW at q5; omega, ?_⟩
        rcases Nat.lt_or_ge c.length c2.length with u | u
        · exact u
        · exfalso
          unfold DG at hD
          rw [show c2.length - c.length = 0 by omega] at hD
          have hD : ((0, 0) : Nat × Nat) = _ := hD
          split at hD <;> cases hD
      · omega
      · omega
    have r7 := r6.trans (Rch.one (s6_y hk))
    rw [if_pos (show s < 3 by omega)] at r7
    have hk41 : KT b n t' ≠ 41 := by omega
    refine wp_aload_n (n := 123) K dX4_readLaw_122 rfl rfl ?_
    refine wp_getI (n := 126) K dX4_readLaw_123 rfl fl_X4_45 rfl (liS rfl) rfl ?_
    try simp only [up_same, up_up, up_ne, ne_eq, Nat.reduceEqDiff, not_false_eq_true, Int.reduceToNat, Int.toNat_natCast]
    rw [l10]
    refine wp_if_ne (n := 129) K dX4_readLaw_126 rfl (tgt := 149) (by decide) ⟨by omega, by omega⟩ (fun c126 => ?_) (fun c126 => ?_)
    · exact absurd rfl c126
    · refine wp_aload_n (n := 130) K dX4_readLaw_129 rfl rfl ?_
      refine wp_bipush (n := 132) K dX4_readLaw_130 rfl rfl ?_
      refine wp_invV_qn (n := 135) K dX4_readLaw_132 rfl cf_X4_137 (c_settle 15 ⟨by decide, by decide⟩ _ cc _ (by omega) hlen hIw (by omega) (by omega) _ _ l12) rfl rfl rfl (liS rfl) rfl (by decide) ⟨Nat.add_le_add_left (by decide) _, Nat.add_le_add_left (by decide) _⟩ (Nat.le_of_ble_eq_true rfl) (fun A1 hA1 gA1 => ?_)
      rw [e1] at gA1
      obtain ⟨⟨a1, a2, a3, a4, a5⟩, aK⟩ := gA1
      have hcel := cE_len c2 hfr2
      rw [hcel] at a3
      have a11 : A1 60 11 = (s : Int) + 8 := by rw [aK 11 (by decide) (by decide) (by decide)]; exact l1
      have a6 : A1 60 6 = (nc : Int) := by rw [aK 6 (by decide) (by decide) (by decide), hFr.2.1 6 (by decide), h060 6 (by decide)]; exact h6
      refine wp_aload_n (n := 136) K dX4_readLaw_135 rfl rfl ?_
      refine wp_invV (n := 139) K dX4_readLaw_136 rfl cf_X4_141 rfl (liS rfl) rfl (c_keepLaw s (c2.length - c.length) hs (by omega) S A1 h91 a11 a3) rfl rfl (by decide) ⟨Nat.le_refl _, Nat.le_refl _⟩ (Nat.le_of_ble_eq_true rfl) (fun rA2 SA2 A2 hA2 hcA2 hsA2 => ?_)
      obtain ⟨rfl, b1, b2, b3, b4, b5⟩ := hA2
      have hcc : SA2.2.2.1 = S.2.2.1 + 1 := hcA2
      have hss : SA2.2.2.2 = S.2.2.2 + 300 := hsA2
      have b6 : A2 60 6 = (nc : Int) := by rw [b4, up_ne _ _ (by omega)]; exact a6
      show Wp E1 X 139 _ [] SA2 A2
      refine wp_aload_n (n := 140) K dX4_readLaw_139 rfl rfl ?_
      refine wp_iconst (n := 141) K dX4_readLaw_140 rfl ?_
      refine wp_iconst (n := 142) K dX4_readLaw_141 rfl ?_
      refine wp_invV_qn (n := 145) K dX4_readLaw_142 rfl cf_X4_119 (c_addClause (-1) (-1) nc hnc _ _ b6) rfl rfl rfl (liS rfl) rfl (by decide) ⟨by show SA2.2.2.1 + 0 ≤ S.2.2.1 + 1; omega, by show SA2.2.2.2 + 0 ≤ S.2.2.2 + 300; omega⟩ (Nat.le_of_ble_eq_true rfl) (fun A3 hA3 gA3 => ?_)
      obtain ⟨d1, d2⟩ := gA3
      have hout : ∀ a, a < S.2.1 → a ∉ [60, 61, 62] → A3 a = M1 a := fun a h1 h2 => by
        simp only [List.mem_cons, List.not_mem_nil, or_false, not_or] at h2
        rw [hA3 a (by simp [h2]), b3 a (by omega) (by simp [h2]), hA1 a (by simp [h2])]
      have hT3 : TSA A3 b n T t' := hT1.mem (fun a u1 u2 => hout a (by omega) (by simp; omega))
      refine wp_aload_n (n := 146) K dX4_readLaw_145 rfl rfl ?_
      refine wp_invV_qn (n := 149) K dX4_readLaw_146 rfl cf_X4_103 (c_advance n T t' _ _ b hT3 hk41) rfl rfl rfl (liS rfl) rfl (by decide) ⟨by show SA2.2.2.1 + 0 ≤ S.2.2.1 + 1; omega, by show SA2.2.2.2 + 0 ≤ S.2.2.2 + 300; omega⟩ (Nat.le_of_ble_eq_true rfl) (fun A4 hA4 gA4 => ?_)
      refine ret_sn K dX4_readLaw_149 ?_ ?_ ?_ ?_ ⟨by show SA2.2.2.1 ≤ S.2.2.1 + 1; omega, by show SA2.2.2.2 ≤ S.2.2.2 + 300; omega⟩
      · omega
      · intro a ha; rw [b1, up_ne _ _ (by omega)]
      · intro a ha hx
        have hx' := hx
        simp only [List.mem_cons, List.not_mem_nil, or_false, not_or] at hx
        rw [hA4 a (by simp [hx]), hout a ha (by simp [hx]), hFr.1 a (by simp [hx]), h0 a (by simp [hx])]
      · have h55 : A4 55 4 = M 55 4 := by rw [gA4.2, hout 55 (by omega) (by decide), hFr.2.2.1, h04]
        refine ⟨Or.inr ⟨t' + 1, c2, _, onF on s, by omega, hnc, ho.1, hr.trans r7, ⟨gA4.1, ?_, ?_, ?_, ?_⟩, ?_⟩, h55⟩
        · rw [hA4 60 (by decide), d2, up_same]; omega
        · rw [hA4 60 (by decide), d2, up_ne _ _ (by decide), b4, up_ne _ _ (by omega), aK 9 (by decide) (by decide) (by decide)]; exact l10
        · -- the script
          intro k hk2
          have h61 : A4 61 = up (up (up (M 61) (3 * nc) ((s : Int) + 8)) (3 * nc + 1) (-1)) (3 * nc + 2) (-1) := by
            rw [hA4 61 (by decide), d1, b4, up_ne _ _ (by omega), a11, b3 61 (by omega) (by decide), hA1 61 (by decide), hFr.1 61 (by decide), h0 61 (by decide)]
          rw [h61]
          rcases Nat.lt_or_ge k nc with q | q
          · rw [up_ne _ _ (by omega), up_ne _ _ (by omega), up_ne _ _ (by omega), up_ne _ _ (by omega), up_ne _ _ (by omega), up_ne _ _ (by omega), up_ne _ _ (by omega), up_ne _ _ (by omega), up_ne _ _ (by omega), up_ne _ _ (by omega), up_ne _ _ (by omega), up_ne _ _ (by omega), up_ne _ _ (by omega), up_ne _ _ (by omega), up_ne _ _ (by omega), up_ne _ _ (by omega), up_ne _ _ (by omega), up_ne _ _ (by omega)]
            exact hSC k q
          · rw [show k = nc by omega, up_ne _ _ (show 3 * nc ≠ 3 * nc + 2 by omega), up_ne _ _ (show 3 * nc ≠ 3 * nc + 1 by omega), up_same, up_ne _ _ (show 3 * nc ≠ 3 * nc + 2 by omega), up_ne _ _ (show 3 * nc ≠ 3 * nc + 1 by omega), up_same]
            exact ⟨rfl, fun q => by omega, fun q => by omega⟩
        · intro s' hs'
          have hne : S.2.1 ≠ 60 := by omega
          by_cases q : s' = s
          · subst q
            refine Or.inr ⟨ho.2.1, nc, c.length, c2.length, S.2.1, Nat.lt_succ_self _, ?_, ?_, up_same _ _ _, ?_, ?_, h91, ?_, ⟨by omega, Or.inr (by show S.2.1 < SA2.2.1; omega)⟩, h6b.2, Nat.le_refl _, by omega, fun i hi => ?_⟩
            · rw [up_ne _ _ (by omega), up_ne _ _ (by omega), up_same]
            · rw [up_ne _ _ (by omega), up_same]
            · intro k' hk' he
              rcases Nat.lt_or_ge k' nc with u | u
              · rw [up_ne _ _ (by omega), up_ne _ _ (by omega), up_ne _ _ (by omega)] at he
                exact absurd he (hsN k' u)
              · omega
            · rw [hA4 60 (by decide), d2, up_ne _ _ (by omega), b4, up_same]
            · rw [shp_out (show E1.1 ≤ S.2.1 from h91)]
              show SA2.1 S.2.1 = _
              rw [b1, up_same]
            · rw [hA4 S.2.1 (by simp; omega), hA3 S.2.1 (by simp; omega), b5 i hi]
              exact cE_at hfr2 a4 hi
          · have h1 := hLQ s' hs'
            have h2 : LQ (bud SA2 S rm_X4_readLaw) A4 c2 (up (up (up cR (3 * nc) (s : Int)) (3 * nc + 1) (c.length : Int)) (3 * nc + 2) (c2.length : Int)) nc on s' := by
              refine h1.gr h91 (by show S.2.1 ≤ SA2.2.1; omega) (fun a ha => by show SA2.1 a = _; rw [b1, up_ne _ _ (by omega)]) (fun a u1 u2 => ?_) ?_ hsuf (fun k hk => ?_)
              · rw [hA4 a (by simp; omega), hout a u2 (by simp; omega), hFr.1 a (by simp; omega), h0 a (by simp; omega)]
              · rw [hA4 60 (by decide), d2, up_ne _ _ (by omega), b4, up_ne _ _ (by omega), aK _ (by omega) (by omega) (by omega), hFr.2.1 _ (by omega), h060 _ (by omega)]
              · refine ⟨?_, ?_, ?_⟩
                · rw [up_ne _ _ (by omega), up_ne _ _ (by omega), up_ne _ _ (by omega)]
                · rw [up_ne _ _ (by omega), up_ne _ _ (by omega), up_ne _ _ (by omega)]
                · rw [up_ne _ _ (by omega), up_ne _ _ (by omega), up_ne _ _ (by omega)]
            have h3 := h2.on (ho.2.2 s' hs' q)
            have hnew : up (up (up cR (3 * nc) (s : Int)) (3 * nc + 1) (c.length : Int)) (3 * nc + 2) (c2.length : Int) (3 * nc) = (s : Int) := by
              rw [up_ne _ _ (by omega), up_ne _ _ (by omega), up_same]
            rcases h3 with ⟨u1, u2, u3⟩ | ⟨u1, k, fN, eN, a, u2, u3, u4, u5, u6, u7⟩
            · refine Or.inl ⟨u1, u2, fun k hk => ?_⟩
              rcases Nat.lt_or_ge k nc with v | v
              · exact u3 k v
              · rw [show k = nc by omega, hnew]; omega
            · refine Or.inr ⟨u1, k, fN, eN, a, by omega, u3, u4, u5, fun k' hk' he => ?_, u7⟩
              rcases Nat.lt_or_ge k' nc with v | v
              · exact u6 k' v he
              · rw [show k' = nc by omega, hnew] at he; omega
        · rw [hA4 60 (by decide), d2, up_ne _ _ (by decide), b4, up_ne _ _ (by omega), aK 10 (by decide) (by decide) (by decide), (hFr.2.2.2 l10).2, h0_10]; exact h10
  -- the loop
  have main : ∀ (md : Nat) (v15 : Int), (s = 0 ∧ md = 2 ∧ v15 = 0 ∨ s ≠ 0 ∧ md = 1 ∧ v15 = 1) → Wp E1 X 50 [.ref 60, .ref 55, .int (z 0), mkV] [] S (up M 60 (up (up (up (up (up (up (up (M 60) 7 0) 8 0) 12 0) 13 0) 14 1) 15 v15) 16 0)) := by
    intro md v15 hv
    have hmd : bgM s = md := by
      unfold bgM
      rcases hv with ⟨q, u, _⟩ | ⟨q, u, _⟩
      · rw [if_pos q]; exact u.symm
      · rw [if_neg q, if_pos hs]; exact u.symm
    have hf : ∀ j, j < 7 ∨ 9 ≤ j ∧ j ≤ 11 → (up M 60 (up (up (up (up (up (up (up (M 60) 7 0) 8 0) 12 0) 13 0) 14 1) 15 v15) 16 0)) 60 j = M 60 j := fun j hj => by
      rw [up_same, up_ne _ _ (by omega), up_ne _ _ (by omega), up_ne _ _ (by omega), up_ne _ _ (by omega), up_ne _ _ (by omega), up_ne _ _ (by omega), up_ne _ _ (by omega)]
    have h0 : ∀ a, a ∉ [60] → (up M 60 (up (up (up (up (up (up (up (M 60) 7 0) 8 0) 12 0) 13 0) 14 1) 15 v15) 16 0)) a = M a := fun a ha => up_ne _ _ (by simpa using ha)
    have h04 : (up M 60 (up (up (up (up (up (up (up (M 60) 7 0) 8 0) 12 0) 13 0) 14 1) 15 v15) 16 0)) 55 4 = M 55 4 := by rw [up_ne _ _ (by decide)]
    have hT1 : TSA (up M 60 (up (up (up (up (up (up (up (M 60) 7 0) 8 0) 12 0) 13 0) 14 1) 15 v15) 16 0)) b n T t := hT.mem (fun a _ _ => up_ne _ _ (by omega))
    have hL : LRc (up M 60 (up (up (up (up (up (up (up (M 60) 7 0) 8 0) 12 0) 13 0) 14 1) 15 v15) 16 0)) s [] c 0 0 false false c.length 0 := by
      refine ⟨by rw [hf 11 (by omega)]; exact h11, hs, Nat.le_refl _, Or.inl rfl, trivial, by decide, fun _ => ⟨rfl, rfl, rfl, rfl⟩, ?_, ?_, by rw [hf 9 (by omega)]; exact h9, [], ?_, ?_, trivial, ?_, trivial, ?_⟩
      · simp [up]
      · simp [up]; rfl
      · unfold cE; simp
      · simp [up]; rfl
      · simp [up]
      · simp [up]; rfl
    refine law_loop K hok hI0 s c.length (up cR (3 * nc) (s : Int)) nc (onF on s) _ (fun t' f M1 l2 l3 => kF _ h04 h0 t' f M1 l2 l3) (fun t' pl c1 cm no an od j M1 l2 l3 r1 r2 r3 r4 r5 r6 r7 r8 r9 r10 => ?_) (T + 1 - t) md t [] c 0 0 false false 0 _ 0 mkV (by have := hT.2.1; omega) (by omega) (by rw [← hmd, ← hy0]; exact Rch.refl _) hL ?_ hT1 (FrL.refl _)
    · exact kE _ h04 h0 (fun j hj => hf j (by omega)) (hf 10 (by omega)) t' pl c1 cm no an od j M1 l2 l3 r1 r2 r3 r4 r5 r6 r7 r8 r9 r10
    · rcases hv with ⟨q, u, w⟩ | ⟨q, u, w⟩
      · subst w
        exact Or.inr (Or.inl ⟨u, by simp [up], by simp [up], rfl⟩)
      · subst w
        exact Or.inl ⟨u, by simp [up], by simp [up], rfl, rfl, rfl, q⟩
  refine wp_aload_n (n := 1) K dX4_readLaw_0 rfl rfl ?_
  refine wp_iconst (n := 2) K dX4_readLaw_1 rfl ?_
  refine wp_putI (n := 5) K dX4_readLaw_2 rfl fl_X4_39 rfl (liS rfl) (Or.inl rfl) rfl rfl ?_
  try simp only [up_same, up_up, up_ne, ne_eq, Nat.reduceEqDiff, not_false_eq_true, Int.reduceToNat, Int.toNat_natCast]
  refine wp_aload_n (n := 6) K dX4_readLaw_5 rfl rfl ?_
  refine wp_iconst (n := 7) K dX4_readLaw_6 rfl ?_
  refine wp_putI (n := 10) K dX4_readLaw_7 rfl fl_X4_42 rfl (liS rfl) (Or.inl rfl) rfl rfl ?_
  try simp only [up_same, up_up, up_ne, ne_eq, Nat.reduceEqDiff, not_false_eq_true, Int.reduceToNat, Int.toNat_natCast]
  refine wp_aload_n (n := 11) K dX4_readLaw_10 rfl rfl ?_
  refine wp_iconst (n := 12) K dX4_readLaw_11 rfl ?_
  refine wp_putI (n := 15) K dX4_readLaw_12 rfl fl_X4_54 rfl (liS rfl) (Or.inl rfl) rfl rfl ?_
  try simp only [up_same, up_up, up_ne, ne_eq, Nat.reduceEqDiff, not_false_eq_true, Int.reduceToNat, Int.toNat_natCast]
  refine wp_aload_n (n := 16) K dX4_readLaw_15 rfl rfl ?_
  refine wp_iconst (n := 17) K dX4_readLaw_16 rfl ?_
  refine wp_putI (n := 20) K dX4_readLaw_17 rfl fl_X4_57 rfl (liS rfl) (Or.inl rfl) rfl rfl ?_
  try simp only [up_same, up_up, up_ne, ne_eq, Nat.reduceEqDiff, not_false_eq_true, Int.reduceToNat, Int.toNat_natCast]
  refine wp_aload_n (n := 21) K dX4_readLaw_20 rfl rfl ?_
  refine wp_iconst (n := 22) K dX4_readLaw_21 rfl ?_
  refine wp_putZ (n := 25) K dX4_readLaw_22 rfl fl_X4_60 rfl (liS rfl) (Or.inl rfl) rfl rfl (by first | exact Or.inl rfl | exact Or.inr rfl) ?_
  try simp only [up_same, up_up, up_ne, ne_eq, Nat.reduceEqDiff, not_false_eq_true, Int.reduceToNat, Int.toNat_natCast]
  refine wp_aload_n (n := 26) K dX4_readLaw_25 rfl rfl ?_
  refine wp_aload_n (n := 27) K dX4_readLaw_26 rfl rfl ?_
  refine wp_getI (n := 30) K dX4_readLaw_27 rfl fl_X4_51 rfl (liS rfl) rfl ?_
  try simp only [up_same, up_up, up_ne, ne_eq, Nat.reduceEqDiff, not_false_eq_true, Int.reduceToNat, Int.toNat_natCast]
  rw [h11]
  refine wp_bipush (n := 32) K dX4_readLaw_30 rfl rfl ?_
  refine wp_icmp_eq (n := 35) K dX4_readLaw_32 rfl (tgt := 39) (by decide) ⟨by omega, by omega⟩ ⟨by omega, by omega⟩ (fun c32 => ?_) (fun c32 => ?_)
  · refine wp_iconst (n := 40) K dX4_readLaw_39 rfl ?_
    refine wp_putZ (n := 43) K dX4_readLaw_40 rfl fl_X4_64 rfl (liS rfl) (Or.inl rfl) rfl rfl (by first | exact Or.inl rfl | exact Or.inr rfl) ?_
    try simp only [up_same, up_up, up_ne, ne_eq, Nat.reduceEqDiff, not_false_eq_true, Int.reduceToNat, Int.toNat_natCast]
    refine wp_aload_n (n := 44) K dX4_readLaw_43 rfl rfl ?_
    refine wp_iconst (n := 45) K dX4_readLaw_44 rfl ?_
    refine wp_putZ (n := 48) K dX4_readLaw_45 rfl fl_X4_67 rfl (liS rfl) (Or.inl rfl) rfl rfl (by first | exact Or.inl rfl | exact Or.inr rfl) ?_
    try simp only [up_same, up_up, up_ne, ne_eq, Nat.reduceEqDiff, not_false_eq_true, Int.reduceToNat, Int.toNat_natCast]
    refine wp_iconst (n := 49) K dX4_readLaw_48 rfl ?_
    refine wp_istore_n (n := 50) K dX4_readLaw_49 rfl (by decide) ?_
    exact main 2 0 (Or.inl ⟨by omega, rfl, rfl⟩)
  · refine wp_iconst (n := 36) K dX4_readLaw_35 rfl ?_
    refine wp_goto K dX4_readLaw_36 (tgt := 40) (by decide) ?_
    refine wp_putZ (n := 43) K dX4_readLaw_40 rfl fl_X4_64 rfl (liS rfl) (Or.inl rfl) rfl rfl (by first | exact Or.inl rfl | exact Or.inr rfl) ?_
    try simp only [up_same, up_up, up_ne, ne_eq, Nat.reduceEqDiff, not_false_eq_true, Int.reduceToNat, Int.toNat_natCast]
    refine wp_aload_n (n := 44) K dX4_readLaw_43 rfl rfl ?_
    refine wp_iconst (n := 45) K dX4_readLaw_44 rfl ?_
    refine wp_putZ (n := 48) K dX4_readLaw_45 rfl fl_X4_67 rfl (liS rfl) (Or.inl rfl) rfl rfl (by first | exact Or.inl rfl | exact Or.inr rfl) ?_
    try simp only [up_same, up_up, up_ne, ne_eq, Nat.reduceEqDiff, not_false_eq_true, Int.reduceToNat, Int.toNat_natCast]
    refine wp_iconst (n := 49) K dX4_readLaw_48 rfl ?_
    refine wp_istore_n (n := 50) K dX4_readLaw_49 rfl (by decide) ?_
    exact main 1 1 (Or.inr ⟨by omega, rfl, rfl⟩)
