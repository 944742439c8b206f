/-! copies of rows -/
theorem shp_up {S : ST} {a n x : Nat} {sh : Nat × Nat} {w : Nat × Nat} (h : a ≠ n) : shp E1 (up S.1 n sh, x, w) a = shp E1 S a := by
  unfold shp
  show (bif Nat.blt a E1.1 then _ else up S.1 n sh a) = (bif Nat.blt a E1.1 then _ else S.1 a)
  rw [up_ne _ _ h]
theorem shp_nw {S : ST} {n x : Nat} {sh : Nat × Nat} {w : Nat × Nat} (h : 91 ≤ n) : shp E1 (up S.1 n sh, x, w) n = sh := by
  rw [shp_out (show E1.1 ≤ n from h)]
  exact up_same _ _ _
theorem live.mono {S S' : ST} {a : Nat} (h : live E1 S a) (hs : S.2.1 ≤ S'.2.1) : live E1 S' a := ⟨h.1, h.2.imp id (fun q => by omega)⟩
theorem live.lt {S : ST} {a : Nat} (h : live E1 S a) (h91 : 91 ≤ S.2.1) : a < S.2.1 := by
  rcases h.2 with q | q
  · have : a < 91 := q
    omega
  · exact q
def Pcp (a q : Nat) (S : ST) (M : MT) : Option Value → ST → MT → Prop := fun r S' M' => r = some (.ref S.2.1) ∧ S'.1 = up S.1 S.2.1 (2, q) ∧ S'.2.1 = S.2.1 + 1 ∧ (∀ b, b ≠ S.2.1 → M' b = M b) ∧ ∀ j, j < q → M' S.2.1 j = M a j

theorem c_copyOf (a N q : Nat) (hN : N ≤ 300) (hq : q ≤ N) (S : ST) (M : MT) (hs : shp E1 S a = (2, N)) (hl : live E1 S a) (h91 : 91 ≤ S.2.1) : Ct E1 yJ7_copyOf_59c91 cJ7_copyOf_59c91 3 (some (.array .int)) rm_J7_copyOf_59c91 [.ref a, .int (z (q : Int))] S M (Pcp a q S M) := by
  have ha := hl.lt h91
  refine Ct.mk [.ref a, .int (z (q : Int)), mkV] (by decide) rfl (Nat.le_of_ble_eq_true rfl) (fun X K => ?_)
  have hs2 : ∀ x w, shp E1 (up S.1 S.2.1 (2, q), x, w) a = (2, N) := fun x w => by rw [shp_up (by omega)]; exact hs
  refine wp_iload_n (n := 1) K dJ7_copyOf_59c91_0 rfl rfl ?_
  refine wp_aload_n (n := 2) K dJ7_copyOf_59c91_1 rfl rfl ?_
  refine wp_alen (n := 3) K dJ7_copyOf_59c91_2 rfl hs (by decide) hl ?_
  refine wp_icmp_ne (n := 6) K dJ7_copyOf_59c91_3 rfl (tgt := 14) (by decide) ⟨by omega, by omega⟩ ⟨by omega, by omega⟩ (fun c3 => ?_) (fun c3 => ?_)
  · refine wp_iload_n (n := 15) K dJ7_copyOf_59c91_14 rfl rfl ?_
    refine wp_newa (n := 17) (kk := 0) K dJ7_copyOf_59c91_15 rfl (by decide) rfl ar_int (by decide) ⟨by omega, by omega⟩ ⟨Nat.le_refl _, by show S.2.2.2 + (q : Int).toNat ≤ S.2.2.2 + 300; omega⟩ ?_
    rw [Int.toNat_natCast]
    refine wp_astore_n (n := 18) K dJ7_copyOf_59c91_17 rfl (by omega) (by decide) ?_
    refine wp_aload_n (n := 19) K dJ7_copyOf_59c91_18 rfl rfl ?_
    refine wp_iconst (n := 20) K dJ7_copyOf_59c91_19 rfl ?_
    refine wp_aload_n (n := 21) K dJ7_copyOf_59c91_20 rfl rfl ?_
    refine wp_iconst (n := 22) K dJ7_copyOf_59c91_21 rfl ?_
    refine wp_aload_n (n := 23) K dJ7_copyOf_59c91_22 rfl rfl ?_
    refine wp_alen (n := 24) K dJ7_copyOf_59c91_23 rfl (hs2 _ _) (by decide) (hl.mono (Nat.le_succ _)) ?_
    refine wp_iload_n (n := 25) K dJ7_copyOf_59c91_24 rfl rfl ?_
    refine wp_invS_i (n := 28) K dJ7_copyOf_59c91_25 rfl cf_J7_304 (j_min (N : Int) (q : Int) ⟨by omega, by omega⟩ ⟨by omega, by omega⟩ _ _) rfl rfl (by decide) ⟨Nat.le_refl _, by show S.2.2.2 + q + 0 ≤ S.2.2.2 + 300; omega⟩ (Nat.le_of_ble_eq_true rfl) ?_
    rw [show min (N : Int) (q : Int) = (q : Int) by omega]
    refine wp_copy (n := 31) K dJ7_copyOf_59c91_28 rfl ac_J7_150 (hs2 _ _) (hl.mono (Nat.le_succ _)) (shp_nw h91) ⟨by omega, Or.inr (Nat.lt_succ_self _)⟩ (fun i => fin_out (by decide) h91 i) ⟨by omega, by omega, by omega, by omega, by omega, by omega, by omega⟩ (by decide +kernel) ?_
    refine wp_aload_n (n := 32) K dJ7_copyOf_59c91_31 rfl rfl ?_
    refine wp_areturn K dJ7_copyOf_59c91_32 ⟨rfl, rfl, rfl, fun b hb => ?_, fun j hj => ?_⟩ (by omega) (Or.inr ⟨_, rfl⟩) ⟨Nat.le_refl _, by show S.2.2.2 + q ≤ S.2.2.2 + 300; omega⟩
    · rw [up_ne _ _ hb, up_ne _ _ hb]
    · rw [up_same]
      unfold cpy
      rw [if_pos (by simp; exact hj), up_ne _ _ (by omega)]
      simp
  · have e : q = N := by omega
    subst e
    refine wp_aload_n (n := 7) K dJ7_copyOf_59c91_6 rfl rfl ?_
    refine wp_clone (n := 10) K rfl dJ7_copyOf_59c91_7 rfl hs hl (by decide) (by decide) ⟨Nat.le_refl _, by show S.2.2.2 + q ≤ S.2.2.2 + 300; omega⟩ ?_
    refine wp_castI (n := 13) K rfl dJ7_copyOf_59c91_10 rfl (shp_nw h91) ⟨by omega, Or.inr (Nat.lt_succ_self _)⟩ ?_
    refine wp_areturn K dJ7_copyOf_59c91_13 ⟨rfl, rfl, rfl, fun b hb => up_ne _ _ hb, fun j hj => by rw [up_same]⟩ (by omega) (Or.inr ⟨_, rfl⟩) ⟨Nat.le_refl _, by show S.2.2.2 + q ≤ S.2.2.2 + 300; omega⟩
