/-! the loop of the law -/
def PT1 : Option Value → ST → MT → Prop := fun r _ _ => r = some (.int (z 1))
theorem law_step {X : XT} {S0 S : ST} {M : MT} {N i : Nat} {xs : Nat → Int} (K : Ok E1 X yL_law cL_law 4 (some .boolean) room_1 PT1 S0) (hX : SX X N xs) (hr : ∀ j, InR (xs j)) (hN : N ≤ 3072) (hi : i ≤ 512) (h : LI i S M) (hb : Bd i S S0) (k : 6 * i + 6 ≤ N → ∀ S2 M2, LI (i + 1) S2 M2 → Bd (i + 1) S2 S0 → Wp E1 X 18 (LL (i + 1)) [] S2 M2) : Wp E1 X 18 (LL i) [] S M := by
  refine wp_iload_n (n := 19) (a := 6 * (i : Int)) K dL_law_18 rfl rfl ?_
  refine wp_aload_n (n := 20) K dL_law_19 rfl rfl ?_
  refine wp_slen (n := 21) K hX dL_law_20 rfl ?_
  refine wp_bipush (n := 23) K dL_law_21 rfl rfl ?_
  refine wp_isub (n := 24) K dL_law_23 rfl ?_
  refine wp_icmp_gt (n := 27) K dL_law_24 rfl (tgt := 955) (by decide) ⟨by omega, by omega⟩ ⟨by omega, by omega⟩ (fun c24 => ?_) (fun c24 => ?_)
  · refine wp_iconst (n := 956) K dL_law_955 rfl ?_
    exact wp_zreturn K dL_law_956 rfl rfl ⟨by have := hb.1; show _ ≤ _ + 600000; omega, by have := hb.2; show _ ≤ _ + 7302250; omega⟩
  · have hlt : 6 * i + 6 ≤ N := by omega
    have kk : ∀ S2 M2, LI (i + 1) S2 M2 → Bd (i + 1) S2 S0 → Wp E1 X 949 (LL i) [] S2 M2 := fun S2 M2 a b => lw_next K i (k hlt S2 M2 a b)
    refine wp_aload_n (n := 28) K dL_law_27 rfl rfl ?_
    refine wp_iload_n (n := 29) (a := 6 * (i : Int)) K dL_law_28 rfl rfl ?_
    refine wp_sld (n := 30) K hX dL_law_29 rfl ⟨by omega, by omega, by omega⟩ ?_
    refine wp_bipush (n := 32) K dL_law_30 rfl rfl ?_
    refine wp_iand (n := 33) K dL_law_32 rfl ?_
    have hq := band_m (xs (6 * (i : Int)).toNat) 31 (by decide)
    generalize hg : band (xs (6 * (i : Int)).toNat) ((31 : Nat) : Int) = q at hq
    have h31 : q ≤ 31 := hq.2
    by_cases hc : 28 < q
    · exact wp_tswOut K dL_law_33 ⟨by omega, by omega⟩ (Or.inr (by omega)) (tgt := 949) (by decide) (kk S M h.id ⟨by have := hb.1; omega, by have := hb.2; omega⟩)
    rcases (show q = 0 ∨ q = 1 ∨ q = 2 ∨ q = 3 ∨ q = 4 ∨ q = 5 ∨ q = 6 ∨ q = 7 ∨ q = 8 ∨ q = 9 ∨ q = 10 ∨ q = 11 ∨ q = 12 ∨ q = 13 ∨ q = 14 ∨ q = 15 ∨ q = 16 ∨ q = 17 ∨ q = 18 ∨ q = 19 ∨ q = 20 ∨ q = 21 ∨ q = 22 ∨ q = 23 ∨ q = 24 ∨ q = 25 ∨ q = 26 ∨ q = 27 ∨ q = 28 by omega) with rfl | rfl | rfl | rfl | rfl | rfl | rfl | rfl | rfl | rfl | rfl | rfl | rfl | rfl | rfl | rfl | rfl | rfl | rfl | rfl | rfl | rfl | rfl | rfl | rfl | rfl | rfl | rfl | rfl
    · exact wp_tswIn (off := 131) (tgt := 164) K dL_law_33 ⟨by decide, by decide⟩ (by decide) (by decide) rfl (by decide) (lc_stone K hX hr hlt hN h hb kk)
    · exact wp_tswIn (off := 194) (tgt := 227) K dL_law_33 ⟨by decide, by decide⟩ (by decide) (by decide) rfl (by decide) (lc_hour K hX hr hlt hN h hb kk)
    · exact wp_tswIn (off := 217) (tgt := 250) K dL_law_33 ⟨by decide, by decide⟩ (by decide) (by decide) rfl (by decide) (lc_house K hX hr hlt hN h hb kk)
    · exact wp_tswIn (off := 240) (tgt := 273) K dL_law_33 ⟨by decide, by decide⟩ (by decide) (by decide) rfl (by decide) (lc_touch K hX hr hlt hN h hb kk)
    · exact wp_tswIn (off := 299) (tgt := 332) K dL_law_33 ⟨by decide, by decide⟩ (by decide) (by decide) rfl (by decide) (lc_feed K hX hr hlt hN h hb kk)
    · exact wp_tswIn (off := 362) (tgt := 395) K dL_law_33 ⟨by decide, by decide⟩ (by decide) (by decide) rfl (by decide) (lc_end K hX hr hlt hN h hb kk)
    · exact wp_tswIn (off := 385) (tgt := 418) K dL_law_33 ⟨by decide, by decide⟩ (by decide) (by decide) rfl (by decide) (lc_text K hX hr hlt hN h hb kk)
    · exact wp_tswIn (off := 398) (tgt := 431) K dL_law_33 ⟨by decide, by decide⟩ (by decide) (by decide) rfl (by decide) (lc_fault K hX hr hlt hN h hb kk)
    · exact wp_tswIn (off := 421) (tgt := 454) K dL_law_33 ⟨by decide, by decide⟩ (by decide) (by decide) rfl (by decide) (lc_by K hX hr hlt hN h hb kk)
    · exact wp_tswIn (off := 444) (tgt := 477) K dL_law_33 ⟨by decide, by decide⟩ (by decide) (by decide) rfl (by decide) (lc_of K hX hr hlt hN h hb kk)
    · exact wp_tswIn (off := 477) (tgt := 510) K dL_law_33 ⟨by decide, by decide⟩ (by decide) (by decide) rfl (by decide) (lc_stands K hX hr hlt hN h hb kk)
    · exact wp_tswIn (off := 500) (tgt := 533) K dL_law_33 ⟨by decide, by decide⟩ (by decide) (by decide) rfl (by decide) (lc_lay K hX hr hlt hN h hb kk)
    · exact wp_tswIn (off := 523) (tgt := 556) K dL_law_33 ⟨by decide, by decide⟩ (by decide) (by decide) rfl (by decide) (lc_out K hX hr hlt hN h hb kk)
    · exact wp_tswIn (off := 546) (tgt := 579) K dL_law_33 ⟨by decide, by decide⟩ (by decide) (by decide) rfl (by decide) (lc_lend K hX hr hlt hN h hb kk)
    · exact wp_tswIn (off := 579) (tgt := 612) K dL_law_33 ⟨by decide, by decide⟩ (by decide) (by decide) rfl (by decide) (lc_played K hX hr hlt hN h hb kk)
    · exact wp_tswIn (off := 602) (tgt := 635) K dL_law_33 ⟨by decide, by decide⟩ (by decide) (by decide) rfl (by decide) (lc_undo K hX hr hlt hN h hb kk)
    · exact wp_tswIn (off := 615) (tgt := 648) K dL_law_33 ⟨by decide, by decide⟩ (by decide) (by decide) rfl (by decide) (lc_least K hX hr hlt hN h hb kk)
    · exact wp_tswIn (off := 638) (tgt := 671) K dL_law_33 ⟨by decide, by decide⟩ (by decide) (by decide) rfl (by decide) (lc_orders K hX hr hlt hN h hb kk)
    · exact wp_tswIn (off := 652) (tgt := 685) K dL_law_33 ⟨by decide, by decide⟩ (by decide) (by decide) rfl (by decide) (lc_sound K hX hr hlt hN h hb kk)
    · exact wp_tswIn (off := 685) (tgt := 718) K dL_law_33 ⟨by decide, by decide⟩ (by decide) (by decide) rfl (by decide) (lc_hush K hX hr hlt hN h hb kk)
    · exact wp_tswIn (off := 698) (tgt := 731) K dL_law_33 ⟨by decide, by decide⟩ (by decide) (by decide) rfl (by decide) (lc_heard K hX hr hlt hN h hb kk)
    · exact wp_tswIn (off := 722) (tgt := 755) K dL_law_33 ⟨by decide, by decide⟩ (by decide) (by decide) rfl (by decide) (lc_with K hX hr hlt hN h hb kk)
    · exact wp_tswIn (off := 745) (tgt := 778) K dL_law_33 ⟨by decide, by decide⟩ (by decide) (by decide) rfl (by decide) (lc_houseOf K hX hr hlt hN h hb kk)
    · exact wp_tswIn (off := 778) (tgt := 811) K dL_law_33 ⟨by decide, by decide⟩ (by decide) (by decide) rfl (by decide) (lc_row K hX hr hlt hN h hb kk)
    · exact wp_tswIn (off := 821) (tgt := 854) K dL_law_33 ⟨by decide, by decide⟩ (by decide) (by decide) rfl (by decide) (lc_winter K hX hr hlt hN h hb kk)
    · exact wp_tswIn (off := 834) (tgt := 867) K dL_law_33 ⟨by decide, by decide⟩ (by decide) (by decide) rfl (by decide) (lc_town K hX hr hlt hN h hb kk)
    · exact wp_tswIn (off := 867) (tgt := 900) K dL_law_33 ⟨by decide, by decide⟩ (by decide) (by decide) rfl (by decide) (lc_image K hX hr hlt hN h hb kk)
    · exact wp_tswIn (off := 880) (tgt := 913) K dL_law_33 ⟨by decide, by decide⟩ (by decide) (by decide) rfl (by decide) (lc_back K hX hr hlt hN h hb kk)
    · exact wp_tswIn (off := 893) (tgt := 926) K dL_law_33 ⟨by decide, by decide⟩ (by decide) (by decide) rfl (by decide) (lc_about K hX hr hlt hN h hb kk)
theorem lw_loop {X : XT} {S0 : ST} {N : Nat} {xs : Nat → Int} (K : Ok E1 X yL_law cL_law 4 (some .boolean) room_1 PT1 S0) (hX : SX X N xs) (hr : ∀ j, InR (xs j)) (hN : N ≤ 3072) : ∀ (n i : Nat) (S : ST) (M : MT), i + n = 512 → LI i S M → Bd i S S0 → Wp E1 X 18 (LL i) [] S M := by
  intro n
  induction n with
  | zero => exact fun i S M e h hb => law_step K hX hr hN (by omega) h hb (fun q => absurd q (by omega))
  | succ n ih => exact fun i S M e h hb => law_step K hX hr hN (by omega) h hb (fun _ S2 M2 a b => ih (i + 1) S2 M2 (by omega) a b)
