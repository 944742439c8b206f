/-! one turn of the loop of the law -/
theorem lc_undo {X : XT} {P : Option Value → ST → MT → Prop} {S0 S : ST} {M : MT} {N i : Nat} {xs : Nat → Int} (K : Ok E1 X yL_law cL_law 4 (some .boolean) room_1 P S0) (hX : SX X N xs) (hr : ∀ j, InR (xs j)) (hi : 6 * i + 6 ≤ N) (hN : N ≤ 3072) (h : LI i S M) (hb : Bd i S S0) (k : ∀ S2 M2, LI (i + 1) S2 M2 → Bd (i + 1) S2 S0 → Wp E1 X 949 (LL i) [] S2 M2) : Wp E1 X 635 (LL i) [] S M := by
  have hi5 : i ≤ 511 := by omega
  refine wp_aload_n (n := 636) K dL_law_635 rfl rfl ?_
  refine wp_invV (n := 639) K dL_law_636 rfl cf_L_79 rfl (liS rfl) rfl (st_undo h) rfl rfl (by decide) (hb.one hi5 (by decide)) (Nat.le_of_ble_eq_true rfl) (fun r1 S1 M1 q1 c1 s1 => ?_)
  obtain ⟨x, rfl, ct⟩ := q1
  refine wp_aload_n (n := 640) K dL_law_639 rfl rfl ?_
  refine wp_invV (n := 643) K dL_law_640 rfl cf_L_82 rfl (liS rfl) rfl ct rfl rfl (by decide) (hb.two (r1 := rm_X11_undo) hi5 (by decide) c1 s1) (Nat.le_of_ble_eq_true rfl) (fun r2 S2 M2 q2 c2 s2 => ?_)
  obtain ⟨rfl, hLI⟩ := q2
  exact wp_icmp_same K dL_law_643 (tgt := 949) (by decide) (k S2 M2 hLI (hb.nx (r1 := rm_X11_undo) (r2 := rm_X12_undo) (by decide) c1 s1 c2 s2))
theorem lc_least {X : XT} {P : Option Value → ST → MT → Prop} {S0 S : ST} {M : MT} {N i : Nat} {xs : Nat → Int} (K : Ok E1 X yL_law cL_law 4 (some .boolean) room_1 P S0) (hX : SX X N xs) (hr : ∀ j, InR (xs j)) (hi : 6 * i + 6 ≤ N) (hN : N ≤ 3072) (h : LI i S M) (hb : Bd i S S0) (k : ∀ S2 M2, LI (i + 1) S2 M2 → Bd (i + 1) S2 S0 → Wp E1 X 949 (LL i) [] S2 M2) : Wp E1 X 648 (LL i) [] S M := by
  have hi5 : i ≤ 511 := by omega
  refine wp_aload_n (n := 649) K dL_law_648 rfl rfl ?_
  refine wp_arg (n := 654) (j := 1) K hX hi hN rfl (by decide) dL_law_649 dL_law_650 dL_law_651 dL_law_652 dL_law_653 rfl ?_
  refine wp_invV (n := 657) K dL_law_654 rfl cf_L_83 rfl (liS rfl) rfl (st_least h (by omega) _ (hr _)) rfl rfl (by decide) (hb.one hi5 (by decide)) (Nat.le_of_ble_eq_true rfl) (fun r1 S1 M1 q1 c1 s1 => ?_)
  obtain ⟨x, rfl, ct⟩ := q1
  refine wp_aload_n (n := 658) K dL_law_657 rfl rfl ?_
  refine wp_arg (n := 663) (j := 1) K hX hi hN rfl (by decide) dL_law_658 dL_law_659 dL_law_660 dL_law_661 dL_law_662 rfl ?_
  refine wp_invV (n := 666) K dL_law_663 rfl cf_L_86 rfl (liS rfl) rfl ct rfl rfl (by decide) (hb.two (r1 := rm_X11_least) hi5 (by decide) c1 s1) (Nat.le_of_ble_eq_true rfl) (fun r2 S2 M2 q2 c2 s2 => ?_)
  obtain ⟨rfl, hLI⟩ := q2
  exact wp_icmp_same K dL_law_666 (tgt := 949) (by decide) (k S2 M2 hLI (hb.nx (r1 := rm_X11_least) (r2 := rm_X12_least) (by decide) c1 s1 c2 s2))
theorem lc_orders {X : XT} {P : Option Value → ST → MT → Prop} {S0 S : ST} {M : MT} {N i : Nat} {xs : Nat → Int} (K : Ok E1 X yL_law cL_law 4 (some .boolean) room_1 P S0) (hX : SX X N xs) (hr : ∀ j, InR (xs j)) (hi : 6 * i + 6 ≤ N) (hN : N ≤ 3072) (h : LI i S M) (hb : Bd i S S0) (k : ∀ S2 M2, LI (i + 1) S2 M2 → Bd (i + 1) S2 S0 → Wp E1 X 949 (LL i) [] S2 M2) : Wp E1 X 671 (LL i) [] S M := by
  have hi5 : i ≤ 511 := by omega
  refine wp_aload_n (n := 672) K dL_law_671 rfl rfl ?_
  refine wp_invV (n := 675) K dL_law_672 rfl cf_L_87 rfl (liS rfl) rfl (st_orders h (by omega)) rfl rfl (by decide) (hb.one hi5 (by decide)) (Nat.le_of_ble_eq_true rfl) (fun r1 S1 M1 q1 c1 s1 => ?_)
  obtain ⟨x, rfl, ct⟩ := q1
  refine wp_aload_n (n := 676) K dL_law_675 rfl rfl ?_
  refine wp_invV (n := 679) K dL_law_676 rfl cf_L_91 rfl (liS rfl) rfl ct rfl rfl (by decide) (hb.two (r1 := rm_X11_orders) hi5 (by decide) c1 s1) (Nat.le_of_ble_eq_true rfl) (fun r2 S2 M2 q2 c2 s2 => ?_)
  obtain ⟨rfl, hLI⟩ := q2
  exact wp_lcmp_same K dL_law_679 dL_law_680 (tgt := 949) (by decide) (k S2 M2 hLI (hb.nx (r1 := rm_X11_orders) (r2 := rm_X12_orders) (by decide) c1 s1 c2 s2))
theorem lc_sound {X : XT} {P : Option Value → ST → MT → Prop} {S0 S : ST} {M : MT} {N i : Nat} {xs : Nat → Int} (K : Ok E1 X yL_law cL_law 4 (some .boolean) room_1 P S0) (hX : SX X N xs) (hr : ∀ j, InR (xs j)) (hi : 6 * i + 6 ≤ N) (hN : N ≤ 3072) (h : LI i S M) (hb : Bd i S S0) (k : ∀ S2 M2, LI (i + 1) S2 M2 → Bd (i + 1) S2 S0 → Wp E1 X 949 (LL i) [] S2 M2) : Wp E1 X 685 (LL i) [] S M := by
  have hi5 : i ≤ 511 := by omega
  refine wp_aload_n (n := 686) K dL_law_685 rfl rfl ?_
  refine wp_arg (n := 691) (j := 1) K hX hi hN rfl (by decide) dL_law_686 dL_law_687 dL_law_688 dL_law_689 dL_law_690 rfl ?_
  refine wp_arg (n := 696) (j := 2) K hX hi hN rfl (by decide) dL_law_691 dL_law_692 dL_law_693 dL_law_694 dL_law_695 rfl ?_
  refine wp_invV (n := 699) K dL_law_696 rfl cf_L_92 rfl (liS rfl) rfl (st_sound h _ _ (hr _) (hr _)) rfl rfl (by decide) (hb.one hi5 (by decide)) (Nat.le_of_ble_eq_true rfl) (fun r1 S1 M1 q1 c1 s1 => ?_)
  obtain ⟨x, rfl, ct⟩ := q1
  refine wp_aload_n (n := 700) K dL_law_699 rfl rfl ?_
  refine wp_arg (n := 705) (j := 1) K hX hi hN rfl (by decide) dL_law_700 dL_law_701 dL_law_702 dL_law_703 dL_law_704 rfl ?_
  refine wp_arg (n := 710) (j := 2) K hX hi hN rfl (by decide) dL_law_705 dL_law_706 dL_law_707 dL_law_708 dL_law_709 rfl ?_
  refine wp_invV (n := 713) K dL_law_710 rfl cf_L_95 rfl (liS rfl) rfl ct rfl rfl (by decide) (hb.two (r1 := rm_X11_sound) hi5 (by decide) c1 s1) (Nat.le_of_ble_eq_true rfl) (fun r2 S2 M2 q2 c2 s2 => ?_)
  obtain ⟨rfl, hLI⟩ := q2
  exact wp_icmp_same K dL_law_713 (tgt := 949) (by decide) (k S2 M2 hLI (hb.nx (r1 := rm_X11_sound) (r2 := rm_X12_sound) (by decide) c1 s1 c2 s2))
theorem lc_hush {X : XT} {P : Option Value → ST → MT → Prop} {S0 S : ST} {M : MT} {N i : Nat} {xs : Nat → Int} (K : Ok E1 X yL_law cL_law 4 (some .boolean) room_1 P S0) (hX : SX X N xs) (hr : ∀ j, InR (xs j)) (hi : 6 * i + 6 ≤ N) (hN : N ≤ 3072) (h : LI i S M) (hb : Bd i S S0) (k : ∀ S2 M2, LI (i + 1) S2 M2 → Bd (i + 1) S2 S0 → Wp E1 X 949 (LL i) [] S2 M2) : Wp E1 X 718 (LL i) [] S M := by
  have hi5 : i ≤ 511 := by omega
  refine wp_aload_n (n := 719) K dL_law_718 rfl rfl ?_
  refine wp_invV (n := 722) K dL_law_719 rfl cf_L_96 rfl (liS rfl) rfl (st_hush h) rfl rfl (by decide) (hb.one hi5 (by decide)) (Nat.le_of_ble_eq_true rfl) (fun r1 S1 M1 q1 c1 s1 => ?_)
  obtain ⟨x, rfl, ct⟩ := q1
  refine wp_aload_n (n := 723) K dL_law_722 rfl rfl ?_
  refine wp_invV (n := 726) K dL_law_723 rfl cf_L_99 rfl (liS rfl) rfl ct rfl rfl (by decide) (hb.two (r1 := rm_X11_hush) hi5 (by decide) c1 s1) (Nat.le_of_ble_eq_true rfl) (fun r2 S2 M2 q2 c2 s2 => ?_)
  obtain ⟨rfl, hLI⟩ := q2
  exact wp_icmp_same K dL_law_726 (tgt := 949) (by decide) (k S2 M2 hLI (hb.nx (r1 := rm_X11_hush) (r2 := rm_X12_hush) (by decide) c1 s1 c2 s2))
theorem lc_heard {X : XT} {P : Option Value → ST → MT → Prop} {S0 S : ST} {M : MT} {N i : Nat} {xs : Nat → Int} (K : Ok E1 X yL_law cL_law 4 (some .boolean) room_1 P S0) (hX : SX X N xs) (hr : ∀ j, InR (xs j)) (hi : 6 * i + 6 ≤ N) (hN : N ≤ 3072) (h : LI i S M) (hb : Bd i S S0) (k : ∀ S2 M2, LI (i + 1) S2 M2 → Bd (i + 1) S2 S0 → Wp E1 X 949 (LL i) [] S2 M2) : Wp E1 X 731 (LL i) [] S M := by
  have hi5 : i ≤ 511 := by omega
  refine wp_aload_n (n := 732) K dL_law_731 rfl rfl ?_
  refine wp_arg (n := 737) (j := 1) K hX hi hN rfl (by decide) dL_law_732 dL_law_733 dL_law_734 dL_law_735 dL_law_736 rfl ?_
  refine wp_invV (n := 740) K dL_law_737 rfl cf_L_100 rfl (liS rfl) rfl (st_heard h (by omega) _ (hr _)) rfl rfl (by decide) (hb.one hi5 (by decide)) (Nat.le_of_ble_eq_true rfl) (fun r1 S1 M1 q1 c1 s1 => ?_)
  obtain ⟨x, rfl, ct⟩ := q1
  refine wp_aload_n (n := 741) K dL_law_740 rfl rfl ?_
  refine wp_arg (n := 746) (j := 1) K hX hi hN rfl (by decide) dL_law_741 dL_law_742 dL_law_743 dL_law_744 dL_law_745 rfl ?_
  refine wp_invV (n := 749) K dL_law_746 rfl cf_L_104 rfl (liS rfl) rfl ct rfl rfl (by decide) (hb.two (r1 := rm_X11_heard) hi5 (by decide) c1 s1) (Nat.le_of_ble_eq_true rfl) (fun r2 S2 M2 q2 c2 s2 => ?_)
  obtain ⟨rfl, hLI⟩ := q2
  exact wp_lcmp_same K dL_law_749 dL_law_750 (tgt := 949) (by decide) (k S2 M2 hLI (hb.nx (r1 := rm_X11_heard) (r2 := rm_X12_heard) (by decide) c1 s1 c2 s2))
theorem lc_with {X : XT} {P : Option Value → ST → MT → Prop} {S0 S : ST} {M : MT} {N i : Nat} {xs : Nat → Int} (K : Ok E1 X yL_law cL_law 4 (some .boolean) room_1 P S0) (hX : SX X N xs) (hr : ∀ j, InR (xs j)) (hi : 6 * i + 6 ≤ N) (hN : N ≤ 3072) (h : LI i S M) (hb : Bd i S S0) (k : ∀ S2 M2, LI (i + 1) S2 M2 → Bd (i + 1) S2 S0 → Wp E1 X 949 (LL i) [] S2 M2) : Wp E1 X 755 (LL i) [] S M := by
  have hi5 : i ≤ 511 := by omega
  refine wp_aload_n (n := 756) K dL_law_755 rfl rfl ?_
  refine wp_arg (n := 761) (j := 1) K hX hi hN rfl (by decide) dL_law_756 dL_law_757 dL_law_758 dL_law_759 dL_law_760 rfl ?_
  refine wp_invV (n := 764) K dL_law_761 rfl cf_L_105 rfl (liS rfl) rfl (st_with h _ (hr _)) rfl rfl (by decide) (hb.one hi5 (by decide)) (Nat.le_of_ble_eq_true rfl) (fun r1 S1 M1 q1 c1 s1 => ?_)
  obtain ⟨x, rfl, ct⟩ := q1
  refine wp_aload_n (n := 765) K dL_law_764 rfl rfl ?_
  refine wp_arg (n := 770) (j := 1) K hX hi hN rfl (by decide) dL_law_765 dL_law_766 dL_law_767 dL_law_768 dL_law_769 rfl ?_
  refine wp_invV (n := 773) K dL_law_770 rfl cf_L_108 rfl (liS rfl) rfl ct rfl rfl (by decide) (hb.two (r1 := rm_X11_with) hi5 (by decide) c1 s1) (Nat.le_of_ble_eq_true rfl) (fun r2 S2 M2 q2 c2 s2 => ?_)
  obtain ⟨rfl, hLI⟩ := q2
  exact wp_icmp_same K dL_law_773 (tgt := 949) (by decide) (k S2 M2 hLI (hb.nx (r1 := rm_X11_with) (r2 := rm_X12_with) (by decide) c1 s1 c2 s2))
theorem lc_houseOf {X : XT} {P : Option Value → ST → MT → Prop} {S0 S : ST} {M : MT} {N i : Nat} {xs : Nat → Int} (K : Ok E1 X yL_law cL_law 4 (some .boolean) room_1 P S0) (hX : SX X N xs) (hr : ∀ j, InR (xs j)) (hi : 6 * i + 6 ≤ N) (hN : N ≤ 3072) (h : LI i S M) (hb : Bd i S S0) (k : ∀ S2 M2, LI (i + 1) S2 M2 → Bd (i + 1) S2 S0 → Wp E1 X 949 (LL i) [] S2 M2) : Wp E1 X 778 (LL i) [] S M := by
  have hi5 : i ≤ 511 := by omega
  refine wp_aload_n (n := 779) K dL_law_778 rfl rfl ?_
  refine wp_arg (n := 784) (j := 1) K hX hi hN rfl (by decide) dL_law_779 dL_law_780 dL_law_781 dL_law_782 dL_law_783 rfl ?_
  refine wp_arg (n := 789) (j := 2) K hX hi hN rfl (by decide) dL_law_784 dL_law_785 dL_law_786 dL_law_787 dL_law_788 rfl ?_
  refine wp_invV (n := 792) K dL_law_789 rfl cf_L_109 rfl (liS rfl) rfl (st_houseOf h (by omega) _ _ (hr _) (hr _)) rfl rfl (by decide) (hb.one hi5 (by decide)) (Nat.le_of_ble_eq_true rfl) (fun r1 S1 M1 q1 c1 s1 => ?_)
  obtain ⟨x, rfl, ct⟩ := q1
  refine wp_aload_n (n := 793) K dL_law_792 rfl rfl ?_
  refine wp_arg (n := 798) (j := 1) K hX hi hN rfl (by decide) dL_law_793 dL_law_794 dL_law_795 dL_law_796 dL_law_797 rfl ?_
  refine wp_arg (n := 803) (j := 2) K hX hi hN rfl (by decide) dL_law_798 dL_law_799 dL_law_800 dL_law_801 dL_law_802 rfl ?_
  refine wp_invV (n := 806) K dL_law_803 rfl cf_L_112 rfl (liS rfl) rfl ct rfl rfl (by decide) (hb.two (r1 := rm_X11_houseOf) hi5 (by decide) c1 s1) (Nat.le_of_ble_eq_true rfl) (fun r2 S2 M2 q2 c2 s2 => ?_)
  obtain ⟨rfl, hLI⟩ := q2
  exact wp_icmp_same K dL_law_806 (tgt := 949) (by decide) (k S2 M2 hLI (hb.nx (r1 := rm_X11_houseOf) (r2 := rm_X12_houseOf) (by decide) c1 s1 c2 s2))
theorem lc_row {X : XT} {P : Option Value → ST → MT → Prop} {S0 S : ST} {M : MT} {N i : Nat} {xs : Nat → Int} (K : Ok E1 X yL_law cL_law 4 (some .boolean) room_1 P S0) (hX : SX X N xs) (hr : ∀ j, InR (xs j)) (hi : 6 * i + 6 ≤ N) (hN : N ≤ 3072) (h : LI i S M) (hb : Bd i S S0) (k : ∀ S2 M2, LI (i + 1) S2 M2 → Bd (i + 1) S2 S0 → Wp E1 X 949 (LL i) [] S2 M2) : Wp E1 X 811 (LL i) [] S M := by
  have hi5 : i ≤ 511 := by omega
  refine wp_aload_n (n := 812) K dL_law_811 rfl rfl ?_
  refine wp_arg (n := 817) (j := 1) K hX hi hN rfl (by decide) dL_law_812 dL_law_813 dL_law_814 dL_law_815 dL_law_816 rfl ?_
  refine wp_arg (n := 822) (j := 2) K hX hi hN rfl (by decide) dL_law_817 dL_law_818 dL_law_819 dL_law_820 dL_law_821 rfl ?_
  refine wp_arg (n := 827) (j := 3) K hX hi hN rfl (by decide) dL_law_822 dL_law_823 dL_law_824 dL_law_825 dL_law_826 rfl ?_
  refine wp_invV (n := 830) K dL_law_827 rfl cf_L_113 rfl (liS rfl) rfl (st_row h (by omega) _ _ _ (hr _) (hr _) (hr _)) rfl rfl (by decide) (hb.one hi5 (by decide)) (Nat.le_of_ble_eq_true rfl) (fun r1 S1 M1 q1 c1 s1 => ?_)
  obtain ⟨x, rfl, ct⟩ := q1
  refine wp_aload_n (n := 831) K dL_law_830 rfl rfl ?_
  refine wp_arg (n := 836) (j := 1) K hX hi hN rfl (by decide) dL_law_831 dL_law_832 dL_law_833 dL_law_834 dL_law_835 rfl ?_
  refine wp_arg (n := 841) (j := 2) K hX hi hN rfl (by decide) dL_law_836 dL_law_837 dL_law_838 dL_law_839 dL_law_840 rfl ?_
  refine wp_arg (n := 846) (j := 3) K hX hi hN rfl (by decide) dL_law_841 dL_law_842 dL_law_843 dL_law_844 dL_law_845 rfl ?_
  refine wp_invV (n := 849) K dL_law_846 rfl cf_L_117 rfl (liS rfl) rfl ct rfl rfl (by decide) (hb.two (r1 := rm_X11_row) hi5 (by decide) c1 s1) (Nat.le_of_ble_eq_true rfl) (fun r2 S2 M2 q2 c2 s2 => ?_)
  obtain ⟨rfl, hLI⟩ := q2
  exact wp_icmp_same K dL_law_849 (tgt := 949) (by decide) (k S2 M2 hLI (hb.nx (r1 := rm_X11_row) (r2 := rm_X12_row) (by decide) c1 s1 c2 s2))
theorem lc_winter {X : XT} {P : Option Value → ST → MT → Prop} {S0 S : ST} {M : MT} {N i : Nat} {xs : Nat → Int} (K : Ok E1 X yL_law cL_law 4 (some .boolean) room_1 P S0) (hX : SX X N xs) (hr : ∀ j, InR (xs j)) (hi : 6 * i + 6 ≤ N) (hN : N ≤ 3072) (h : LI i S M) (hb : Bd i S S0) (k : ∀ S2 M2, LI (i + 1) S2 M2 → Bd (i + 1) S2 S0 → Wp E1 X 949 (LL i) [] S2 M2) : Wp E1 X 854 (LL i) [] S M := by
  have hi5 : i ≤ 511 := by omega
  refine wp_aload_n (n := 855) K dL_law_854 rfl rfl ?_
  refine wp_invV (n := 858) K dL_law_855 rfl cf_L_118 rfl (liS rfl) rfl (st_winter h (by omega)) rfl rfl (by decide) (hb.one hi5 (by decide)) (Nat.le_of_ble_eq_true rfl) (fun r1 S1 M1 q1 c1 s1 => ?_)
  obtain ⟨x, rfl, ct⟩ := q1
  refine wp_aload_n (n := 859) K dL_law_858 rfl rfl ?_
  refine wp_invV (n := 862) K dL_law_859 rfl cf_L_121 rfl (liS rfl) rfl ct rfl rfl (by decide) (hb.two (r1 := rm_X11_winter) hi5 (by decide) c1 s1) (Nat.le_of_ble_eq_true rfl) (fun r2 S2 M2 q2 c2 s2 => ?_)
  obtain ⟨rfl, hLI⟩ := q2
  exact wp_icmp_same K dL_law_862 (tgt := 949) (by decide) (k S2 M2 hLI (hb.nx (r1 := rm_X11_winter) (r2 := rm_X12_winter) (by decide) c1 s1 c2 s2))
theorem lc_town {X : XT} {P : Option Value → ST → MT → Prop} {S0 S : ST} {M : MT} {N i : Nat} {xs : Nat → Int} (K : Ok E1 X yL_law cL_law 4 (some .boolean) room_1 P S0) (hX : SX X N xs) (hr : ∀ j, InR (xs j)) (hi : 6 * i + 6 ≤ N) (hN : N ≤ 3072) (h : LI i S M) (hb : Bd i S S0) (k : ∀ S2 M2, LI (i + 1) S2 M2 → Bd (i + 1) S2 S0 → Wp E1 X 949 (LL i) [] S2 M2) : Wp E1 X 867 (LL i) [] S M := by
  have hi5 : i ≤ 511 := by omega
  refine wp_aload_n (n := 868) K dL_law_867 rfl rfl ?_
  refine wp_arg (n := 873) (j := 1) K hX hi hN rfl (by decide) dL_law_868 dL_law_869 dL_law_870 dL_law_871 dL_law_872 rfl ?_
  refine wp_arg (n := 878) (j := 2) K hX hi hN rfl (by decide) dL_law_873 dL_law_874 dL_law_875 dL_law_876 dL_law_877 rfl ?_
  refine wp_invV (n := 881) K dL_law_878 rfl cf_L_122 rfl (liS rfl) rfl (st_town h (by omega) _ _ (hr _) (hr _)) rfl rfl (by decide) (hb.one hi5 (by decide)) (Nat.le_of_ble_eq_true rfl) (fun r1 S1 M1 q1 c1 s1 => ?_)
  obtain ⟨x, rfl, ct⟩ := q1
  refine wp_aload_n (n := 882) K dL_law_881 rfl rfl ?_
  refine wp_arg (n := 887) (j := 1) K hX hi hN rfl (by decide) dL_law_882 dL_law_883 dL_law_884 dL_law_885 dL_law_886 rfl ?_
  refine wp_arg (n := 892) (j := 2) K hX hi hN rfl (by decide) dL_law_887 dL_law_888 dL_law_889 dL_law_890 dL_law_891 rfl ?_
  refine wp_invV (n := 895) K dL_law_892 rfl cf_L_125 rfl (liS rfl) rfl ct rfl rfl (by decide) (hb.two (r1 := rm_X11_town) hi5 (by decide) c1 s1) (Nat.le_of_ble_eq_true rfl) (fun r2 S2 M2 q2 c2 s2 => ?_)
  obtain ⟨rfl, hLI⟩ := q2
  exact wp_icmp_same K dL_law_895 (tgt := 949) (by decide) (k S2 M2 hLI (hb.nx (r1 := rm_X11_town) (r2 := rm_X12_town) (by decide) c1 s1 c2 s2))
theorem lc_image {X : XT} {P : Option Value → ST → MT → Prop} {S0 S : ST} {M : MT} {N i : Nat} {xs : Nat → Int} (K : Ok E1 X yL_law cL_law 4 (some .boolean) room_1 P S0) (hX : SX X N xs) (hr : ∀ j, InR (xs j)) (hi : 6 * i + 6 ≤ N) (hN : N ≤ 3072) (h : LI i S M) (hb : Bd i S S0) (k : ∀ S2 M2, LI (i + 1) S2 M2 → Bd (i + 1) S2 S0 → Wp E1 X 949 (LL i) [] S2 M2) : Wp E1 X 900 (LL i) [] S M := by
  have hi5 : i ≤ 511 := by omega
  refine wp_aload_n (n := 901) K dL_law_900 rfl rfl ?_
  refine wp_invV (n := 904) K dL_law_901 rfl cf_L_126 rfl (liS rfl) rfl (st_image h) rfl rfl (by decide) (hb.one hi5 (by decide)) (Nat.le_of_ble_eq_true rfl) (fun r1 S1 M1 q1 c1 s1 => ?_)
  obtain ⟨x, rfl, ct⟩ := q1
  refine wp_aload_n (n := 905) K dL_law_904 rfl rfl ?_
  refine wp_invV (n := 908) K dL_law_905 rfl cf_L_129 rfl (liS rfl) rfl ct rfl rfl (by decide) (hb.two (r1 := rm_X11_image) hi5 (by decide) c1 s1) (Nat.le_of_ble_eq_true rfl) (fun r2 S2 M2 q2 c2 s2 => ?_)
  obtain ⟨rfl, hLI⟩ := q2
  exact wp_icmp_same K dL_law_908 (tgt := 949) (by decide) (k S2 M2 hLI (hb.nx (r1 := rm_X11_image) (r2 := rm_X12_image) (by decide) c1 s1 c2 s2))
theorem lc_back {X : XT} {P : Option Value → ST → MT → Prop} {S0 S : ST} {M : MT} {N i : Nat} {xs : Nat → Int} (K : Ok E1 X yL_law cL_law 4 (some .boolean) room_1 P S0) (hX : SX X N xs) (hr : ∀ j, InR (xs j)) (hi : 6 * i + 6 ≤ N) (hN : N ≤ 3072) (h : LI i S M) (hb : Bd i S S0) (k : ∀ S2 M2, LI (i + 1) S2 M2 → Bd (i + 1) S2 S0 → Wp E1 X 949 (LL i) [] S2 M2) : Wp E1 X 913 (LL i) [] S M := by
  have hi5 : i ≤ 511 := by omega
  refine wp_aload_n (n := 914) K dL_law_913 rfl rfl ?_
  refine wp_invV (n := 917) K dL_law_914 rfl cf_L_130 rfl (liS rfl) rfl (st_back h) rfl rfl (by decide) (hb.one hi5 (by decide)) (Nat.le_of_ble_eq_true rfl) (fun r1 S1 M1 q1 c1 s1 => ?_)
  obtain ⟨x, rfl, ct⟩ := q1
  refine wp_aload_n (n := 918) K dL_law_917 rfl rfl ?_
  refine wp_invV (n := 921) K dL_law_918 rfl cf_L_133 rfl (liS rfl) rfl ct rfl rfl (by decide) (hb.two (r1 := rm_X11_back) hi5 (by decide) c1 s1) (Nat.le_of_ble_eq_true rfl) (fun r2 S2 M2 q2 c2 s2 => ?_)
  obtain ⟨rfl, hLI⟩ := q2
  exact wp_icmp_same K dL_law_921 (tgt := 949) (by decide) (k S2 M2 hLI (hb.nx (r1 := rm_X11_back) (r2 := rm_X12_back) (by decide) c1 s1 c2 s2))
theorem lc_about {X : XT} {P : Option Value → ST → MT → Prop} {S0 S : ST} {M : MT} {N i : Nat} {xs : Nat → Int} (K : Ok E1 X yL_law cL_law 4 (some .boolean) room_1 P S0) (hX : SX X N xs) (hr : ∀ j, InR (xs j)) (hi : 6 * i + 6 ≤ N) (hN : N ≤ 3072) (h : LI i S M) (hb : Bd i S S0) (k : ∀ S2 M2, LI (i + 1) S2 M2 → Bd (i + 1) S2 S0 → Wp E1 X 949 (LL i) [] S2 M2) : Wp E1 X 926 (LL i) [] S M := by
  have hi5 : i ≤ 511 := by omega
  refine wp_aload_n (n := 927) K dL_law_926 rfl rfl ?_
  refine wp_arg (n := 932) (j := 1) K hX hi hN rfl (by decide) dL_law_927 dL_law_928 dL_law_929 dL_law_930 dL_law_931 rfl ?_
  refine wp_invV (n := 935) K dL_law_932 rfl cf_L_134 rfl (liS rfl) rfl (st_about h _ (hr _)) rfl rfl (by decide) (hb.one hi5 (by decide)) (Nat.le_of_ble_eq_true rfl) (fun r1 S1 M1 q1 c1 s1 => ?_)
  obtain ⟨x, rfl, ct⟩ := q1
  refine wp_aload_n (n := 936) K dL_law_935 rfl rfl ?_
  refine wp_arg (n := 941) (j := 1) K hX hi hN rfl (by decide) dL_law_936 dL_law_937 dL_law_938 dL_law_939 dL_law_940 rfl ?_
  refine wp_invV (n := 944) K dL_law_941 rfl cf_L_137 rfl (liS rfl) rfl ct rfl rfl (by decide) (hb.two (r1 := rm_X11_about) hi5 (by decide) c1 s1) (Nat.le_of_ble_eq_true rfl) (fun r2 S2 M2 q2 c2 s2 => ?_)
  obtain ⟨rfl, hLI⟩ := q2
  exact wp_icmp_same K dL_law_944 (tgt := 949) (by decide) (k S2 M2 hLI (hb.nx (r1 := rm_X11_about) (r2 := rm_X12_about) (by decide) c1 s1 c2 s2))
