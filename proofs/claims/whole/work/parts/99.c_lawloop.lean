/-! the loop of readLaw, beside the automaton -/
def LMd (M : MT) (md so : Nat) (pl : List Int) (cm : Int) (j : Nat) : Prop := (md = 1 ∧ M 60 14 = 1 ∧ M 60 15 = 1 ∧ pl = [] ∧ cm = 0 ∧ j = 0 ∧ so ≠ 0) ∨ (md = 2 ∧ M 60 14 = 1 ∧ M 60 15 = 0 ∧ j = 0) ∨ (md = 3 ∧ M 60 14 = 0 ∧ M 60 15 = 0 ∧ pl.head? ≠ some 2)
def FrL (M M1 : MT) : Prop := (∀ a, a ∉ [55, 60, 62, 63] → M1 a = M a) ∧ (∀ j, j < 7 ∨ j = 11 → M1 60 j = M 60 j) ∧ M1 55 4 = M 55 4 ∧ (M1 60 9 = 0 → M 60 9 = 0 ∧ M1 60 10 = M 60 10)
theorem FrL.refl (M : MT) : FrL M M := ⟨fun _ _ => rfl, fun _ _ => rfl, rfl, fun h => ⟨h, rfl⟩⟩
theorem FrL.trans {M M1 M2 : MT} (h : FrL M M1) (h' : FrL M1 M2) : FrL M M2 := ⟨fun a ha => (h'.1 a ha).trans (h.1 a ha), fun j hj => (h'.2.1 j hj).trans (h.2.1 j hj), h'.2.2.1.trans h.2.2.1, fun q => have u := h'.2.2.2 q; have v := h.2.2.2 u.1; ⟨v.1, u.2.trans v.2⟩⟩
theorem FrL.rk {M M1 : MT} (h : ∀ a, a ∉ [60, 62, 63] → M1 a = M a) (h2 : RK2 M M1) : FrL M M1 := ⟨fun a ha => h a (fun q => ha (by simp only [List.mem_cons, List.not_mem_nil, or_false] at q ⊢; omega)), fun j hj => h2 j (by omega), by rw [h 55 (by decide)], fun q => ⟨by rw [← h2 9 (by omega)]; exact q, h2 10 (by omega)⟩⟩
theorem FrL.adv {M M1 : MT} (h : ∀ a, a ∉ [55] → M1 a = M a) (h2 : M1 55 4 = M 55 4) : FrL M M1 := ⟨fun a ha => h a (fun q => ha (by simp only [List.mem_cons, List.not_mem_nil, or_false] at q ⊢; omega)), fun j hj => by rw [h 60 (by decide)], h2, fun q => ⟨by rw [← h 60 (by decide)]; exact q, by rw [h 60 (by decide)]⟩⟩
theorem LRc.mem {M M1 : MT} {so : Nat} {pl : List Int} {c : List (Int × Int)} {cm : Int} {no : Nat} {an od : Bool} {fr j : Nat} (h : LRc M so pl c cm no an od fr j) (e60 : M1 60 = M 60) (e62 : M1 62 = M 62) (e63 : M1 63 = M 63) : LRc M1 so pl c cm no an od fr j := by
  unfold LRc LST at *
  rw [e60, e62, e63]; exact h
theorem LMd.mem {M M1 : MT} {md so : Nat} {pl : List Int} {cm : Int} {j : Nat} (h : LMd M md so pl cm j) (e60 : M1 60 = M 60) : LMd M1 md so pl cm j := by
  unfold LMd at *
  rw [e60]; exact h

set_option maxHeartbeats 2000000 in
theorem law_loop {X : XT} {S : ST} {P : Option Value → ST → MT → Prop} (K : Ok E1 X yX4_readLaw cX4_readLaw 4 none rm_X4_readLaw P S) {b : Nat → Int} {n T : Nat} (hok : okTp b n) {x0 : Cf} (hx0 : INV (KT b n) x0) (so fr : Nat) (cR : Nat → Int) (nc on : Nat) (M0 : MT)
    (kF : ∀ (t f : Nat) (M : MT) (l2 l3 : Value), f ≠ 0 → f ≤ 6 → Rch (KT b n) (VT b n) x0 (flt t f cR nc on) → M 60 9 = (f : Int) → M 60 10 = (BT b n t : Int) → FrL M0 M → Wp E1 X 122 [.ref 60, .ref 55, l2, l3] [] S M)
    (kE : ∀ (t : Nat) (pl : List Int) (c : List (Int × Int)) (cm : Int) (no : Nat) (an od : Bool) (j : Nat) (M : MT) (l2 l3 : Value), Rch (KT b n) (VT b n) x0 (cf 3 t 0 so pl c cm no an od fr cR nc on) → LRc M so pl c cm no an od fr j → pl.head? ≠ some 2 → 40 ∉ pl → KT b n t = 30 → (cm ≠ 0 ∨ so = 0) → lnW pl c cm no an od + 1 ≤ t → t ≤ 300 → TSA M b n T t → FrL M0 M → Wp E1 X 122 [.ref 60, .ref 55, l2, l3] [] S M) :
    ∀ (d md t : Nat) (pl : List Int) (c : List (Int × Int)) (cm : Int) (no : Nat) (an od : Bool) (j : Nat) (M : MT) (i : Nat) (l3 : Value), t + d = T + 1 → i + 1 ≤ t → Rch (KT b n) (VT b n) x0 (cf md t 0 so pl c cm no an od fr cR nc on) → LRc M so pl c cm no an od fr j → LMd M md so pl cm j → TSA M b n T t → FrL M0 M → Wp E1 X 50 [.ref 60, .ref 55, .int (z (i : Int)), l3] [] S M := by
  intro d
  induction d with
  | zero => intro md t pl c cm no an od j M i l3 hd _ _ _ _ hT; have := hT.2.1; omega
  | succ d ih =>
    intro md t pl c cm no an od j M i l3 hd hi hrch hL hMd hT hFr
    have hcl := hL
    obtain ⟨q1, q2, q3, q4, q5, q6, q7, q8, q9, q10, -⟩ := id hL
    have htn : t ≤ 300 := by have := hT.2.1; have := hT.1.1; have := hT.1.2.1; omega
    have hiv : IVC (KT b n) md t so pl c cm no an od fr cR nc := INV.kt hok hx0 hrch
    have hln : lnW pl c cm no an od + 1 ≤ t := (hiv.law (by rcases hMd with ⟨q, _⟩ | ⟨q, _⟩ | ⟨q, _⟩ <;> omega)).2.2.2.1
    have hk42 := KT_r (t := t) hok
    have h14 : M 60 14 = bI (decide (md ≠ 3)) := by
      rcases hMd with ⟨q, u, _⟩ | ⟨q, u, _⟩ | ⟨q, u, _⟩ <;> subst q <;> exact u
    have hcnt := okP_len8 q5
    -- behind a TOKEN that was taken
    have fin0 : ∀ (md' : Nat) (pl' : List Int) (c' : List (Int × Int)) (cm' : Int) (no' : Nat) (an' od' : Bool) (j' : Nat) (M1 : MT), Rch (KT b n) (VT b n) x0 (cf md' (t + 1) 0 so pl' c' cm' no' an' od' fr cR nc on) → LRc M1 so pl' c' cm' no' an' od' fr j' → LMd M1 md' so pl' cm' j' → TSA M1 b n T t → KT b n t ≠ 41 → FrL M0 M1 → Wp E1 X 98 [.ref 60, .ref 55, .int (z (i : Int)), l3] [.int (z 0)] S M1 := by
      intro md' pl' c' cm' no' an' od' j' M1 r1 r2 r3 r4 r5 r6
      refine wp_istore_n (n := 99) K dX4_readLaw_98 rfl (by decide) ?_
      refine wp_iload_n (n := 100) K dX4_readLaw_99 rfl rfl ?_
      refine wp_if_eq (n := 103) K dX4_readLaw_100 rfl (tgt := 112) (by decide) ⟨by omega, by omega⟩ (fun c100 => ?_) (fun c100 => ?_)
      · refine wp_aload_n (n := 113) K dX4_readLaw_112 rfl rfl ?_
        refine wp_invV_qn (n := 116) K dX4_readLaw_113 rfl cf_X4_103 (c_advance n T t _ _ b r4 r5) rfl rfl rfl (liS rfl) rfl (by decide) ⟨Nat.add_le_add_left (by decide) _, Nat.add_le_add_left (by decide) _⟩ (Nat.le_of_ble_eq_true rfl) (fun A1 hA1 gA1 => ?_)
        have e := hA1
        refine wp_iinc (n := 119) K dX4_readLaw_116 rfl rfl (by decide) ?_
        refine wp_goto K dX4_readLaw_119 (tgt := 50) (by decide) ?_
        rw [show (i : Int) + 1 = ((i + 1 : Nat) : Int) by omega]
        exact ih md' (t + 1) pl' c' cm' no' an' od' j' A1 (i + 1) _ (by omega) (by omega) r1 (r2.mem (hA1 60 (by decide)) (hA1 62 (by decide)) (hA1 63 (by decide))) (r3.mem (hA1 60 (by decide))) gA1.1 (r6.trans (FrL.adv hA1 gA1.2))
      · exact absurd rfl c100
    have finF : ∀ (f : Nat) (M1 : MT), f ≠ 0 → f ≤ 6 → Rch (KT b n) (VT b n) x0 (flt t f cR nc on) → TSA M1 b n T t → FrL M0 M1 → Wp E1 X 98 [.ref 60, .ref 55, .int (z (i : Int)), l3] [.int (z (f : Int))] S M1 := by
      intro f M1 r1 r2 r3 r4 r5
      refine wp_istore_n (n := 99) K dX4_readLaw_98 rfl (by decide) ?_
      refine wp_iload_n (n := 100) K dX4_readLaw_99 rfl rfl ?_
      refine wp_if_eq (n := 103) K dX4_readLaw_100 rfl (tgt := 112) (by decide) ⟨by omega, by omega⟩ (fun c100 => ?_) (fun c100 => ?_)
      · omega
      · refine wp_aload_n (n := 104) K dX4_readLaw_103 rfl rfl ?_
        refine wp_aload_n (n := 105) K dX4_readLaw_104 rfl rfl ?_
        refine wp_iload_n (n := 106) K dX4_readLaw_105 rfl rfl ?_
        refine wp_invV_n (n := 109) K dX4_readLaw_106 rfl cf_X4_95 (c_fail (f : Int) _ _ r4) rfl rfl rfl (liS rfl) rfl (by decide) ⟨Nat.add_le_add_left (by decide) _, Nat.add_le_add_left (by decide) _⟩ (Nat.le_of_ble_eq_true rfl) ?_
        refine wp_goto K dX4_readLaw_109 (tgt := 116) (by decide) ?_
        refine wp_iinc (n := 119) K dX4_readLaw_116 rfl rfl (by decide) ?_
        refine wp_goto K dX4_readLaw_119 (tgt := 50) (by decide) ?_
        refine wp_iload_n (n := 51) K dX4_readLaw_50 rfl rfl ?_
        refine wp_sipush (n := 54) K dX4_readLaw_51 rfl rfl ?_
        refine wp_icmp_gt (n := 57) K dX4_readLaw_54 rfl (tgt := 122) (by decide) ⟨by omega, by omega⟩ ⟨by omega, by omega⟩ (fun c54 => ?_) (fun c54 => ?_)
        · refine kF t f _ _ _ r1 r2 r3 (by rw [up_same, up_ne _ _ (by decide), up_same]) (by rw [up_same, up_same]) (r5.trans ⟨fun a ha => up_ne _ _ (fun q => ha (by rw [q]; decide)), fun j hj => by rw [up_same, up_ne _ _ (by omega), up_ne _ _ (by omega)], by rw [up_ne _ _ (by decide)], fun q => by rw [up_same, up_ne _ _ (by decide), up_same] at q; omega⟩)
        · refine wp_aload_n (n := 58) K dX4_readLaw_57 rfl rfl ?_
          refine wp_getI (n := 61) K dX4_readLaw_58 rfl fl_X4_45 rfl (liS rfl) rfl ?_
          try simp only [up_same, up_up, up_ne, ne_eq, Nat.reduceEqDiff, not_false_eq_true, Int.reduceToNat, Int.toNat_natCast]
          refine wp_if_ne (n := 64) K dX4_readLaw_61 rfl (tgt := 122) (by decide) ⟨by omega, by omega⟩ (fun c61 => ?_) (fun c61 => ?_)
          · refine kF t f _ _ _ r1 r2 r3 (by rw [up_same, up_ne _ _ (by decide), up_same]) (by rw [up_same, up_same]) (r5.trans ⟨fun a ha => up_ne _ _ (fun q => ha (by rw [q]; decide)), fun j hj => by rw [up_same, up_ne _ _ (by omega), up_ne _ _ (by omega)], by rw [up_ne _ _ (by decide)], fun q => by rw [up_same, up_ne _ _ (by decide), up_same] at q; omega⟩)
          · omega
    have hTm : ∀ M1 : MT, (∀ a, a ∉ [60, 62, 63] → M1 a = M a) → TSA M1 b n T t := fun M1 h => hT.mem (fun a u1 u2 => h a (by simp; omega))
    refine wp_iload_n (n := 51) K dX4_readLaw_50 rfl rfl ?_
    refine wp_sipush (n := 54) K dX4_readLaw_51 rfl rfl ?_
    refine wp_icmp_gt (n := 57) K dX4_readLaw_54 rfl (tgt := 122) (by decide) ⟨by omega, by omega⟩ ⟨by omega, by omega⟩ (fun c54 => ?_) (fun c54 => ?_)
    · omega
    · refine wp_aload_n (n := 58) K dX4_readLaw_57 rfl rfl ?_
      refine wp_getI (n := 61) K dX4_readLaw_58 rfl fl_X4_45 rfl (liS rfl) rfl ?_
      try simp only [up_same, up_up, up_ne, ne_eq, Nat.reduceEqDiff, not_false_eq_true, Int.reduceToNat, Int.toNat_natCast]
      rw [q10]
      refine wp_if_ne (n := 64) K dX4_readLaw_61 rfl (tgt := 122) (by decide) ⟨by omega, by omega⟩ (fun c61 => ?_) (fun c61 => ?_)
      · exact absurd rfl c61
      · refine wp_aload_n (n := 65) K dX4_readLaw_64 rfl rfl ?_
        refine wp_aload_n (n := 66) K dX4_readLaw_65 rfl rfl ?_
        refine wp_invV_i (n := 69) K dX4_readLaw_66 rfl cf_X4_75 (c_kind n T t _ _ b hT) rfl rfl rfl (liS rfl) rfl (by decide) ⟨Nat.add_le_add_left (by decide) _, Nat.add_le_add_left (by decide) _⟩ (Nat.le_of_ble_eq_true rfl) ?_
        refine wp_invV_i (n := 72) K dX4_readLaw_69 rfl cf_X4_126 (c_isAtEnd (KT b n t) so hk42 (decide (md ≠ 3)) (decide (cm ≠ 0)) (pl.count 40) (by omega) _ _ h14 q8 q9 q1 (by omega)) rfl rfl rfl (liS rfl) rfl (by decide) ⟨Nat.add_le_add_left (by decide) _, Nat.add_le_add_left (by decide) _⟩ (Nat.le_of_ble_eq_true rfl) ?_
        refine wp_if_ne_b (n := 75) K dX4_readLaw_72 rfl (tgt := 122) (by decide) (fun c72 => ?_) (fun c72 => ?_)
        · simp only [Bool.and_eq_true, Bool.not_eq_true', Bool.or_eq_true, decide_eq_true_eq, decide_eq_false_iff_not] at c72
          obtain ⟨u1, u2, u3, u4⟩ := c72
          have em : md = 3 := by omega
          subst em
          have hh : pl.head? ≠ some 2 := by
            rcases hMd with ⟨q, _⟩ | ⟨q, _⟩ | ⟨_, _, _, q⟩ <;> first | exact q | omega
          exact kE t pl c cm no an od j M _ _ hrch hL hh ((cnt40 pl).mp u3) u1 u4 hln htn hT hFr
        · refine wp_aload_n (n := 76) K dX4_readLaw_75 rfl rfl ?_
          refine wp_getI (n := 79) K dX4_readLaw_76 rfl fl_X4_60 rfl (liS rfl) rfl ?_
          try simp only [up_same, up_up, up_ne, ne_eq, Nat.reduceEqDiff, not_false_eq_true, Int.reduceToNat, Int.toNat_natCast]
          rw [h14]
          refine wp_if_eq_b (n := 82) K dX4_readLaw_79 rfl (tgt := 90) (by decide) (fun c79 => ?_) (fun c79 => ?_)
          · -- a sign
            have em : md = 3 := by have := of_decide_eq_false c79; omega
            subst em
            have hM15 : M 60 15 = 0 ∧ pl.head? ≠ some 2 := by
              rcases hMd with ⟨q, _⟩ | ⟨q, _⟩ | ⟨_, _, u, v⟩ <;> first | exact ⟨u, v⟩ | omega
            have h14' : M 60 14 = 0 := h14
            have hnend : ¬ (KT b n t = 30 ∧ 40 ∉ pl ∧ (cm ≠ 0 ∨ so = 0)) := fun ⟨u1, u2, u3⟩ => by
              have : (decide (KT b n t = 30) && (!decide (3 ≠ 3) && (decide (pl.count 40 = 0) && (decide (cm ≠ 0) || decide (so = 0))))) = true := by
                simp only [Bool.and_eq_true, Bool.not_eq_true', Bool.or_eq_true, decide_eq_true_eq, decide_eq_false_iff_not]
                exact ⟨u1, by omega, (cnt40 pl).mpr u2, u3⟩
              rw [this] at c72; cases c72
            obtain ⟨hM15, hh⟩ := hM15
            by_cases a1 : 24 ≤ KT b n t ∧ KT b n t ≤ 27
            · have hg : goF (KT b n t) pl = true := by unfold goF; rw [decide_eq_true a1]; rfl
              have hbw : behW (KT b n t) ≠ 1 := by unfold behW; rw [if_neg (by omega)]; decide
              refine wp_aload_n (n := 91) K dX4_readLaw_90 rfl rfl ?_
              refine wp_aload_n (n := 92) K dX4_readLaw_91 rfl rfl ?_
              refine wp_invV_i (n := 95) K dX4_readLaw_92 rfl cf_X4_75 (c_kind n T t _ _ b hT) rfl rfl rfl (liS rfl) rfl (by decide) ⟨Nat.add_le_add_left (by decide) _, Nat.add_le_add_left (by decide) _⟩ (Nat.le_of_ble_eq_true rfl) ?_
              refine wp_invV_qi (n := 98) K dX4_readLaw_95 rfl cf_X4_133 (c_signA (b := b) (n := n) (T := T) (t := t) (KT b n t) a1 _ _ so pl c cm no an od fr j hL hh (by omega)) rfl rfl rfl (liS rfl) rfl (by decide) ⟨Nat.add_le_add_left (by decide) _, Nat.add_le_add_left (by decide) _⟩ (Nat.le_of_ble_eq_true rfl) (fun A1 hA1 gA1 => ?_)
              obtain ⟨g1, g2, g3, g4⟩ := gA1
              refine fin0 2 _ _ cm no an od 0 A1 (hrch.trans (Rch.one ?_)) g4 (Or.inr (Or.inl ⟨rfl, g3, g2.trans hM15, rfl⟩)) (hTm A1 hA1) (by omega) (hFr.trans (FrL.rk hA1 g1))
              rw [s3_g hg, if_neg hbw]
            by_cases a2 : KT b n t = 29 ∧ 40 ∈ pl
            · have hg : goF (KT b n t) pl = true := by unfold goF; rw [decide_eq_false a1, decide_eq_true a2.1, decide_eq_true a2.2]; rfl
              have hbw : behW (KT b n t) = 1 := by unfold behW; rw [if_pos a2.1]
              have hh2 := (behP_r (c := c) q5 hh hg).2.2.2 hbw
              refine wp_aload_n (n := 91) K dX4_readLaw_90 rfl rfl ?_
              refine wp_aload_n (n := 92) K dX4_readLaw_91 rfl rfl ?_
              refine wp_invV_i (n := 95) K dX4_readLaw_92 rfl cf_X4_75 (c_kind n T t _ _ b hT) rfl rfl rfl (liS rfl) rfl (by decide) ⟨Nat.add_le_add_left (by decide) _, Nat.add_le_add_left (by decide) _⟩ (Nat.le_of_ble_eq_true rfl) ?_
              rw [a2.1]
              refine wp_invV_qi (n := 98) K dX4_readLaw_95 rfl cf_X4_133 (c_signC (b := b) (n := n) (T := T) (t := t) _ _ so pl c cm no an od fr j hL hh (by omega) a2.2) rfl rfl rfl (liS rfl) rfl (by decide) ⟨Nat.add_le_add_left (by decide) _, Nat.add_le_add_left (by decide) _⟩ (Nat.le_of_ble_eq_true rfl) (fun A1 hA1 gA1 => ?_)
              obtain ⟨g1, g2, g3, j', g4⟩ := gA1
              rw [a2.1] at hh2
              refine fin0 3 _ _ cm no an od j' A1 (hrch.trans (Rch.one ?_)) g4 (Or.inr (Or.inr ⟨rfl, g3.trans h14', g2.trans hM15, hh2⟩)) (hTm A1 hA1) (by omega) (hFr.trans (FrL.rk hA1 g1))
              rw [s3_g hg, if_pos hbw, a2.1]
            have hng : goF (KT b n t) pl = false := by
              cases q : goF (KT b n t) pl with
              | false => rfl
              | true =>
                unfold goF at q
                rw [decide_eq_false a1, Bool.false_or, Bool.and_eq_true, decide_eq_true_eq, decide_eq_true_eq] at q
                exact absurd q a2
            have hnil : 40 ∉ pl → (stl 3 pl c).1 = [] := fun q => stl_nil pl c q5 hh q
            have step4 : 40 ∉ pl → Rch (KT b n) (VT b n) x0 (cf 4 t 0 so [] (stl 3 pl c).2 cm no an od fr cR nc on) := fun q => hrch.trans (Rch.one (s3_y hng (hnil q)))
            by_cases a3 : 0 ≤ cmpF (KT b n t) ∧ 40 ∉ pl ∧ so ≠ 0 ∧ cm = 0
            · obtain ⟨b1, b2, b3, b4⟩ := a3
              subst b4
              have hne : KT b n t ≠ 41 := by have := cmpF_r (KT b n t); omega
              refine wp_aload_n (n := 91) K dX4_readLaw_90 rfl rfl ?_
              refine wp_aload_n (n := 92) K dX4_readLaw_91 rfl rfl ?_
              refine wp_invV_i (n := 95) K dX4_readLaw_92 rfl cf_X4_75 (c_kind n T t _ _ b hT) rfl rfl rfl (liS rfl) rfl (by decide) ⟨Nat.add_le_add_left (by decide) _, Nat.add_le_add_left (by decide) _⟩ (Nat.le_of_ble_eq_true rfl) ?_
              refine wp_invV_qi (n := 98) K dX4_readLaw_95 rfl cf_X4_133 (c_signB (KT b n t) b1 _ _ so pl c no an od fr j hL hh (by omega) b2 b3) rfl rfl rfl (liS rfl) rfl (by decide) ⟨Nat.add_le_add_left (by decide) _, Nat.add_le_add_left (by decide) _⟩ (Nat.le_of_ble_eq_true rfl) (fun A1 hA1 gA1 => ?_)
              obtain ⟨g1, g2, g3, g4⟩ := gA1
              exact fin0 2 _ _ _ no an od 0 A1 ((step4 b2).trans (Rch.one (s4_y b3 (by omega)))) g4 (Or.inr (Or.inl ⟨rfl, g3, g2.trans hM15, rfl⟩)) (hTm A1 hA1) hne (hFr.trans (FrL.rk hA1 g1))
            by_cases a4 : (KT b n t = 16 ∨ KT b n t = 15) ∧ 40 ∉ pl ∧ so ≠ 0 ∧ cm ≠ 0
            · obtain ⟨b1, b2, b3, b4⟩ := a4
              have step5 := (step4 b2).trans (Rch.one (s4_c b3 b4))
              refine wp_aload_n (n := 91) K dX4_readLaw_90 rfl rfl ?_
              refine wp_aload_n (n := 92) K dX4_readLaw_91 rfl rfl ?_
              refine wp_invV_i (n := 95) K dX4_readLaw_92 rfl cf_X4_75 (c_kind n T t _ _ b hT) rfl rfl rfl (liS rfl) rfl (by decide) ⟨Nat.add_le_add_left (by decide) _, Nat.add_le_add_left (by decide) _⟩ (Nat.le_of_ble_eq_true rfl) ?_
              refine wp_invV_qi (n := 98) K dX4_readLaw_95 rfl cf_X4_133 (c_signD (KT b n t) b1 _ _ so pl c cm no an od fr j hL hh (by omega) b2 b3 b4) rfl rfl rfl (liS rfl) rfl (by decide) ⟨Nat.add_le_add_left (by decide) _, Nat.add_le_add_left (by decide) _⟩ (Nat.le_of_ble_eq_true rfl) (fun A1 hA1 gA1 => ?_)
              obtain ⟨g1, g2, g3, g4⟩ := gA1
              refine fin0 1 _ _ _ _ _ _ 0 A1 (step5.trans (Rch.one ?_)) g4 (Or.inl ⟨rfl, g3, g2, rfl, rfl, rfl, b3⟩) (hTm A1 hA1) (by omega) (hFr.trans (FrL.rk hA1 g1))
              by_cases b5 : KT b n t = 16
              · rw [s5_a b5, if_pos b5, if_pos b5, decide_eq_true b5]; rfl
              · rw [s5_o (by omega), if_neg b5, if_neg b5, decide_eq_false b5]; rfl
            · refine wp_aload_n (n := 91) K dX4_readLaw_90 rfl rfl ?_
              refine wp_aload_n (n := 92) K dX4_readLaw_91 rfl rfl ?_
              refine wp_invV_i (n := 95) K dX4_readLaw_92 rfl cf_X4_75 (c_kind n T t _ _ b hT) rfl rfl rfl (liS rfl) rfl (by decide) ⟨Nat.add_le_add_left (by decide) _, Nat.add_le_add_left (by decide) _⟩ (Nat.le_of_ble_eq_true rfl) ?_
              refine wp_invV_qi (n := 98) K dX4_readLaw_95 rfl cf_X4_133 (c_signN (KT b n t) hk42 _ _ so pl c cm no an od fr j hL a1 a2 a3 a4) rfl rfl rfl (liS rfl) rfl (by decide) ⟨Nat.add_le_add_left (by decide) _, Nat.add_le_add_left (by decide) _⟩ (Nat.le_of_ble_eq_true rfl) (fun A1 hA1 gA1 => ?_)
              refine finF 1 A1 (by decide) (by decide) ?_ (hTm A1 hA1) (by rw [gA1]; exact hFr)
              by_cases b2 : 40 ∈ pl
              · obtain ⟨xs, ex⟩ := stl_40 (c := c) q5 hh b2
                exact hrch.trans (Rch.one (s3_n hng (by rw [ex]; simp)))
              have st4 := step4 b2
              by_cases b3 : so = 0
              · exact (st4.trans (Rch.one (s4_0 b3))).trans (Rch.one (s6_n (fun q => hnend ⟨q, b2, Or.inr b3⟩)))
              by_cases b4 : cm = 0
              · subst b4
                exact st4.trans (Rch.one (s4_n b3 (by have := cmpF_r (KT b n t); have : ¬ 0 ≤ cmpF (KT b n t) := fun q => a3 ⟨q, b2, b3, rfl⟩; omega)))
              · exact ((st4.trans (Rch.one (s4_c b3 b4))).trans (Rch.one (s5_n (fun q => a4 ⟨Or.inl q, b2, b3, b4⟩) (fun q => a4 ⟨Or.inr q, b2, b3, b4⟩)))).trans (Rch.one (s6_n (fun q => hnend ⟨q, b2, Or.inl b4⟩)))
          · -- a ONE
            have em : md ≠ 3 := of_decide_eq_true c79
            have h14' : M 60 14 = 1 := by rw [h14, c79]; rfl
            by_cases a1 : md = 1 ∧ KT b n t = 17
            · obtain ⟨rfl, k17⟩ := a1
              obtain ⟨h15, e1, e2, e3, hs0⟩ : M 60 15 = 1 ∧ pl = [] ∧ cm = 0 ∧ j = 0 ∧ so ≠ 0 := by
                rcases hMd with ⟨_, _, u⟩ | ⟨q, _⟩ | ⟨q, _⟩ <;> first | exact u | omega
              subst e1; subst e2; subst e3
              refine wp_aload_n (n := 83) K dX4_readLaw_82 rfl rfl ?_
              refine wp_aload_n (n := 84) K dX4_readLaw_83 rfl rfl ?_
              refine wp_invV_qi (n := 87) K dX4_readLaw_84 rfl cf_X4_129 (c_takeNot _ _ so c no an od fr hT hL h15 k17 hs0) rfl rfl rfl (liS rfl) rfl (by decide) ⟨Nat.add_le_add_left (by decide) _, Nat.add_le_add_left (by decide) _⟩ (Nat.le_of_ble_eq_true rfl) (fun A1 hA1 gA1 => ?_)
              refine wp_goto K dX4_readLaw_87 (tgt := 98) (by decide) ?_
              have hA1' : ∀ a, a ∉ [60, 62, 63] → A1 a = M a := fun a ha => hA1 a (fun q => ha (by simp only [List.mem_cons, List.not_mem_nil, or_false] at q ⊢; omega))
              have hTA := hTm A1 hA1'
              have hF2 : FrL M0 A1 := hFr.trans (FrL.rk hA1' gA1.1.two)
              by_cases k8 : no = 8
              · rw [if_pos k8]
                exact finF 3 A1 (by decide) (by decide) (hrch.trans (Rch.one (s1_8 k17 k8))) hTA hF2
              · rw [if_neg k8]
                refine fin0 1 [] c 0 (no + 1) an od 0 A1 (hrch.trans (Rch.one (s1_y k17 k8))) (gA1.2 k8) (Or.inl ⟨rfl, ?_, ?_, rfl, rfl, rfl, hs0⟩) hTA (by omega) hF2
                · rw [gA1.1 14 (by decide) (by decide) (by decide)]; exact h14'
                · rw [gA1.1 15 (by decide) (by decide) (by decide)]; exact h15
            · obtain ⟨h15, e3, hr2⟩ : M 60 15 = bI (decide (md = 1)) ∧ j = 0 ∧ Rch (KT b n) (VT b n) x0 (cf 2 t 0 so pl c cm no an od fr cR nc on) := by
                rcases hMd with ⟨q, _, u, _, _, v, _⟩ | ⟨q, _, u, v⟩ | ⟨q, _⟩
                · subst q
                  exact ⟨u, v, hrch.trans (Rch.one (s1_n (fun k => a1 ⟨rfl, k⟩)))⟩
                · subst q; exact ⟨u, v, hrch⟩
                · exact absurd q em
              subst e3
              have hcl2 : c.length ≤ 299 := by unfold lnW at hln; omega
              refine wp_aload_n (n := 83) K dX4_readLaw_82 rfl rfl ?_
              refine wp_aload_n (n := 84) K dX4_readLaw_83 rfl rfl ?_
              refine wp_invV_qi (n := 87) K dX4_readLaw_84 rfl cf_X4_129 (c_takeOne hok _ _ so pl c cm no an od fr (decide (md = 1)) hT hL h14' h15 (fun q => a1 ⟨of_decide_eq_true q.1, q.2⟩) hcl2) rfl rfl rfl (liS rfl) rfl (by decide) ⟨Nat.add_le_add_left (by decide) _, Nat.add_le_add_left (by decide) _⟩ (Nat.le_of_ble_eq_true rfl) (fun A1 hA1 gA1 => ?_)
              refine wp_goto K dX4_readLaw_87 (tgt := 98) (by decide) ?_
              obtain ⟨g1, g2, g3⟩ := gA1
              by_cases k0 : oneF so (KT b n t) (VT b n t) (no + opn pl) = 0
              · obtain ⟨o1, o2, o3, o4, o5, o6⟩ := oneP_r (c := c) q5 k0 (by omega)
                obtain ⟨g4, g5⟩ := g3 k0
                rw [k0]
                by_cases kw : oneW (KT b n t) = 1
                · obtain ⟨g6, j', g7⟩ := g4 kw
                  refine fin0 3 _ _ cm no an od j' A1 (hr2.trans (Rch.one ?_)) g7 (Or.inr (Or.inr ⟨rfl, g6, g2, o4 kw⟩)) (hTm A1 hA1) o5 (hFr.trans (FrL.rk hA1 g1))
                  rw [s2_y k0, if_pos kw]
                · obtain ⟨g6, g7⟩ := g5 kw
                  refine fin0 2 _ _ cm no an od 0 A1 (hr2.trans (Rch.one ?_)) g7 (Or.inr (Or.inl ⟨rfl, g6, g2, rfl⟩)) (hTm A1 hA1) o5 (hFr.trans (FrL.rk hA1 g1))
                  rw [s2_y k0, if_neg kw]
              · exact finF _ A1 k0 (oneF_r _ _ _ _) (hr2.trans (Rch.one (s2_n k0))) (hTm A1 hA1) (hFr.trans (FrL.rk hA1 g1))
